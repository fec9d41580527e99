theorem kd_ncX9_howManyAt : kd_ck 13174380303463559750751624019834422934375273827831584583384996693110547795819611166818332415394675272831771827294277293207795311582046232404272031822601473474844223069568312426875659118235503178551606531 84 cX9_howManyAt.data.toList 0 = true := by decide +kernel
theorem dX9_howManyAt_0 : decode cX9_howManyAt 0 = .ok (.iconst 0, 1) := kd_dk0 kd_o3 kd_ncX9_howManyAt rfl
theorem dX9_howManyAt_1 : decode cX9_howManyAt 1 = .ok (.istore_n 2, 1) := kd_dk0 kd_o61 kd_ncX9_howManyAt rfl
theorem dX9_howManyAt_2 : decode cX9_howManyAt 2 = .ok (.iconst 0, 1) := kd_dk0 kd_o3 kd_ncX9_howManyAt rfl
theorem dX9_howManyAt_3 : decode cX9_howManyAt 3 = .ok (.istore_n 3, 1) := kd_dk0 kd_o62 kd_ncX9_howManyAt rfl
theorem dX9_howManyAt_4 : decode cX9_howManyAt 4 = .ok (.iload_n 3, 1) := kd_dk0 kd_o29 kd_ncX9_howManyAt rfl
theorem dX9_howManyAt_5 : decode cX9_howManyAt 5 = .ok (.aload_n 0, 1) := kd_dk0 kd_o42 kd_ncX9_howManyAt rfl
theorem dX9_howManyAt_6 : decode cX9_howManyAt 6 = .ok (.getfield 30, 3) := kd_dk2 kd_o180 kd_ncX9_howManyAt rfl
theorem dX9_howManyAt_9 : decode cX9_howManyAt 9 = .ok (.getfield 105, 3) := kd_dk2 kd_o180 kd_ncX9_howManyAt rfl
theorem dX9_howManyAt_12 : decode cX9_howManyAt 12 = .ok (.if_icmp .ge 30, 3) := kd_dj2 kd_o162 (w := 30) kd_ncX9_howManyAt rfl rfl
theorem dX9_howManyAt_15 : decode cX9_howManyAt 15 = .ok (.iload_n 2, 1) := kd_dk0 kd_o28 kd_ncX9_howManyAt rfl
theorem dX9_howManyAt_16 : decode cX9_howManyAt 16 = .ok (.aload_n 0, 1) := kd_dk0 kd_o42 kd_ncX9_howManyAt rfl
theorem dX9_howManyAt_17 : decode cX9_howManyAt 17 = .ok (.getfield 40, 3) := kd_dk2 kd_o180 kd_ncX9_howManyAt rfl
theorem dX9_howManyAt_20 : decode cX9_howManyAt 20 = .ok (.getfield 125, 3) := kd_dk2 kd_o180 kd_ncX9_howManyAt rfl
theorem dX9_howManyAt_23 : decode cX9_howManyAt 23 = .ok (.iload_n 3, 1) := kd_dk0 kd_o29 kd_ncX9_howManyAt rfl
theorem dX9_howManyAt_24 : decode cX9_howManyAt 24 = .ok (.iaload, 1) := kd_dk0 kd_o46 kd_ncX9_howManyAt rfl
theorem dX9_howManyAt_25 : decode cX9_howManyAt 25 = .ok (.iload_n 1, 1) := kd_dk0 kd_o27 kd_ncX9_howManyAt rfl
theorem dX9_howManyAt_26 : decode cX9_howManyAt 26 = .ok (.if_icmp .ne 7, 3) := kd_dj2 kd_o160 (w := 7) kd_ncX9_howManyAt rfl rfl
theorem dX9_howManyAt_29 : decode cX9_howManyAt 29 = .ok (.iconst 1, 1) := kd_dk0 kd_o4 kd_ncX9_howManyAt rfl
theorem dX9_howManyAt_30 : decode cX9_howManyAt 30 = .ok (.goto 4, 3) := kd_dj2 kd_o167 (w := 4) kd_ncX9_howManyAt rfl rfl
theorem dX9_howManyAt_33 : decode cX9_howManyAt 33 = .ok (.iconst 0, 1) := kd_dk0 kd_o3 kd_ncX9_howManyAt rfl
theorem dX9_howManyAt_34 : decode cX9_howManyAt 34 = .ok (.iadd, 1) := kd_dk0 kd_o96 kd_ncX9_howManyAt rfl
theorem dX9_howManyAt_35 : decode cX9_howManyAt 35 = .ok (.istore_n 2, 1) := kd_dk0 kd_o61 kd_ncX9_howManyAt rfl
theorem dX9_howManyAt_36 : decode cX9_howManyAt 36 = .ok (.iinc 3 1, 3) := kd_dji kd_o132 (w := 1) kd_ncX9_howManyAt rfl rfl
theorem dX9_howManyAt_39 : decode cX9_howManyAt 39 = .ok (.goto (-35), 3) := kd_dj2 kd_o167 (w := 65501) kd_ncX9_howManyAt rfl rfl
theorem dX9_howManyAt_42 : decode cX9_howManyAt 42 = .ok (.iconst 0, 1) := kd_dk0 kd_o3 kd_ncX9_howManyAt rfl
theorem dX9_howManyAt_43 : decode cX9_howManyAt 43 = .ok (.istore_n 3, 1) := kd_dk0 kd_o62 kd_ncX9_howManyAt rfl
theorem dX9_howManyAt_44 : decode cX9_howManyAt 44 = .ok (.iload_n 3, 1) := kd_dk0 kd_o29 kd_ncX9_howManyAt rfl
theorem dX9_howManyAt_45 : decode cX9_howManyAt 45 = .ok (.aload_n 0, 1) := kd_dk0 kd_o42 kd_ncX9_howManyAt rfl
theorem dX9_howManyAt_46 : decode cX9_howManyAt 46 = .ok (.getfield 30, 3) := kd_dk2 kd_o180 kd_ncX9_howManyAt rfl
theorem dX9_howManyAt_49 : decode cX9_howManyAt 49 = .ok (.getfield 108, 3) := kd_dk2 kd_o180 kd_ncX9_howManyAt rfl
theorem dX9_howManyAt_52 : decode cX9_howManyAt 52 = .ok (.if_icmp .ge 30, 3) := kd_dj2 kd_o162 (w := 30) kd_ncX9_howManyAt rfl rfl
theorem dX9_howManyAt_55 : decode cX9_howManyAt 55 = .ok (.iload_n 2, 1) := kd_dk0 kd_o28 kd_ncX9_howManyAt rfl
theorem dX9_howManyAt_56 : decode cX9_howManyAt 56 = .ok (.aload_n 0, 1) := kd_dk0 kd_o42 kd_ncX9_howManyAt rfl
theorem dX9_howManyAt_57 : decode cX9_howManyAt 57 = .ok (.getfield 40, 3) := kd_dk2 kd_o180 kd_ncX9_howManyAt rfl
theorem dX9_howManyAt_60 : decode cX9_howManyAt 60 = .ok (.getfield 157, 3) := kd_dk2 kd_o180 kd_ncX9_howManyAt rfl
theorem dX9_howManyAt_63 : decode cX9_howManyAt 63 = .ok (.iload_n 3, 1) := kd_dk0 kd_o29 kd_ncX9_howManyAt rfl
theorem dX9_howManyAt_64 : decode cX9_howManyAt 64 = .ok (.iaload, 1) := kd_dk0 kd_o46 kd_ncX9_howManyAt rfl
theorem dX9_howManyAt_65 : decode cX9_howManyAt 65 = .ok (.iload_n 1, 1) := kd_dk0 kd_o27 kd_ncX9_howManyAt rfl
theorem dX9_howManyAt_66 : decode cX9_howManyAt 66 = .ok (.if_icmp .ne 7, 3) := kd_dj2 kd_o160 (w := 7) kd_ncX9_howManyAt rfl rfl
theorem dX9_howManyAt_69 : decode cX9_howManyAt 69 = .ok (.iconst 1, 1) := kd_dk0 kd_o4 kd_ncX9_howManyAt rfl
theorem dX9_howManyAt_70 : decode cX9_howManyAt 70 = .ok (.goto 4, 3) := kd_dj2 kd_o167 (w := 4) kd_ncX9_howManyAt rfl rfl
theorem dX9_howManyAt_73 : decode cX9_howManyAt 73 = .ok (.iconst 0, 1) := kd_dk0 kd_o3 kd_ncX9_howManyAt rfl
theorem dX9_howManyAt_74 : decode cX9_howManyAt 74 = .ok (.iadd, 1) := kd_dk0 kd_o96 kd_ncX9_howManyAt rfl
theorem dX9_howManyAt_75 : decode cX9_howManyAt 75 = .ok (.istore_n 2, 1) := kd_dk0 kd_o61 kd_ncX9_howManyAt rfl
theorem dX9_howManyAt_76 : decode cX9_howManyAt 76 = .ok (.iinc 3 1, 3) := kd_dji kd_o132 (w := 1) kd_ncX9_howManyAt rfl rfl
theorem dX9_howManyAt_79 : decode cX9_howManyAt 79 = .ok (.goto (-35), 3) := kd_dj2 kd_o167 (w := 65501) kd_ncX9_howManyAt rfl rfl
theorem dX9_howManyAt_82 : decode cX9_howManyAt 82 = .ok (.iload_n 2, 1) := kd_dk0 kd_o28 kd_ncX9_howManyAt rfl
theorem dX9_howManyAt_83 : decode cX9_howManyAt 83 = .ok (.ireturn, 1) := kd_dk0 kd_o172 kd_ncX9_howManyAt rfl
set_option maxHeartbeats 8000000 in
set_option maxRecDepth 100000 in
theorem c_g_howManyAt (l : Launch) (G : zz_G) (ob0 : Nat) (ut : Nat) (uf1 : Int32) (h1 : Nat) (uf3 : Int32) (sc : Nat) (dr0 : Nat) (k0 : Nat) (my0 : Nat) (c0 : Nat) (ga : Nat) (pa0 : Nat) (t0 : Nat) (sl0 : Nat) (hd0 : Nat) (s1 : Nat) (s2 : Nat) (s3 : Nat) (s4 : Nat) (s5 : Nat) (s6 : Nat) (s7 : Nat) (s8 : Nat) (s9 : Nat) (pp : Nat) (pq : Nat) (i3 : Int32) (i4 : Int32) (b1 : Nat) (b2 : Nat) (b3 : Nat) (b4 : Nat) (e1 : Nat → Int32) (e2 : Nat → Int32) (e3 : Nat → Int32) (e4 : Nat → Int32) (o1 : Int32) (o2 : Int32) (o3 : Int32) (ar1 : Int32) (hpp : pp ≤ 7) (hpq : pq ≤ 6) : zz_M l G mX9_howManyAt 0 0 0 [.ref ob0, .int ar1] [(ob0, .inr (9, [.ref ut, .int uf1, .ref h1, .int uf3, .ref sc, .ref dr0, .ref k0, .ref my0, .ref c0, .ref ga, .ref pa0, .ref t0, .ref sl0, .ref hd0])), (sc, .inr (5, [.ref s1, .ref s2, .ref s3, .ref s4, .ref s5, .ref s6, .ref s7, .ref s8, .ref s9, .int (nI pp), .int (nI pq), .int i3, .int i4])), (k0, .inr (6, [.ref b1, .ref b2, .ref b3, .ref b4, .int o1, .int o2, .int o3])), (b1, .inl (G.2 0, 7, .inl e1)), (b2, .inl (G.2 0, 6, .inl e2)), (b3, .inl (G.2 0, 7, .inl e3)), (b4, .inl (G.2 0, 42, .inl e4))] (fun rr u => ∃ (rv : Int32), rr = some (.int rv) ∧ u = [(ob0, .inr (9, [.ref ut, .int uf1, .ref h1, .int uf3, .ref sc, .ref dr0, .ref k0, .ref my0, .ref c0, .ref ga, .ref pa0, .ref t0, .ref sl0, .ref hd0])), (sc, .inr (5, [.ref s1, .ref s2, .ref s3, .ref s4, .ref s5, .ref s6, .ref s7, .ref s8, .ref s9, .int (nI pp), .int (nI pq), .int i3, .int i4])), (k0, .inr (6, [.ref b1, .ref b2, .ref b3, .ref b4, .int o1, .int o2, .int o3])), (b1, .inl (G.2 0, 7, .inl e1)), (b2, .inl (G.2 0, 6, .inl e2)), (b3, .inl (G.2 0, 7, .inl e3)), (b4, .inl (G.2 0, 42, .inl e4))] ∧ (rv = (zS (fun a => zC1 (e1 a = ar1)) pp + zS (fun p => zC1 (e2 p = ar1)) pq))) := by
  refine zz_enteri (by decide +kernel) (Nat.le_of_ble_eq_true rfl) ?_
  intro p e s m args below meth c A Q ls S hnm hret hw hl
  have hl : lv_has ls 4 [(0, .ref ob0), (1, .int ar1)] := hl
  have hx := S.1
  have hb := S.2.1
  refine lv_iconst (v := 0) hx hb dX9_howManyAt_0 (by decide) ?_
  refine lv_istore_n (lv' := [(2, .int 0), (0, .ref ob0), (1, .int ar1)]) hx hb dX9_howManyAt_1 rfl hl (by decide) rfl (fun ls hl => ?_)
  refine lv_iconst (v := 0) hx hb dX9_howManyAt_2 (by decide) ?_
  refine lv_istore_n (lv' := [(3, .int 0), (2, .int 0), (0, .ref ob0), (1, .int ar1)]) hx hb dX9_howManyAt_3 rfl hl (by decide) rfl (fun ls hl => ?_)
  have lp4_39 : ∀ (vn2 vi1 : Nat) (vy20 : Int32) (H : Heap) (locs : List Loc) (ls : Array Slot), vi1 ≤ pp → pp < vi1 + vn2 → vy20 = zS (fun a => zC1 (e1 a = ar1)) vi1 → zz_w G A s [(ob0, .inr (9, [.ref ut, .int uf1, .ref h1, .int uf3, .ref sc, .ref dr0, .ref k0, .ref my0, .ref c0, .ref ga, .ref pa0, .ref t0, .ref sl0, .ref hd0])), (sc, .inr (5, [.ref s1, .ref s2, .ref s3, .ref s4, .ref s5, .ref s6, .ref s7, .ref s8, .ref s9, .int (nI pp), .int (nI pq), .int i3, .int i4])), (k0, .inr (6, [.ref b1, .ref b2, .ref b3, .ref b4, .int o1, .int o2, .int o3])), (b1, .inl (G.2 0, 7, .inl e1)), (b2, .inl (G.2 0, 6, .inl e2)), (b3, .inl (G.2 0, 7, .inl e3)), (b4, .inl (G.2 0, 42, .inl e4))] H locs → lv_has ls 4 [(3, .int (nI vi1)), (2, .int vy20), (0, .ref ob0), (1, .int ar1)] → W p l e (zz_rm 0 0 0) s m args below meth c H locs (0) (0) Q (F0 m 4 ls []) := by
    intro vn2
    induction vn2 with
    | zero => intro vi1 vy20 H locs ls hi1 hi2; exact absurd hi2 (by omega)
    | succ vn2 ih4 =>
      intro vi1 vy20 H locs ls hi4a hi4b hv4_38 hw hl
      refine lv_iload_n hx hb dX9_howManyAt_4 rfl (lv_at hl 0 rfl) ?_
      refine lv_aload_n hx hb dX9_howManyAt_5 rfl (lv_at hl 2 rfl) ?_
      refine zz_get (v := .ref sc) S hw fgX9_30 0 rfl rfl dX9_howManyAt_6 ?_
      refine zz_get (v := .int (nI pp)) S hw fgX9_105 1 rfl rfl dX9_howManyAt_9 ?_
      refine lv_icmp_ge (tgt := 42) hx hb dX9_howManyAt_12 (by decide) (fun c12_40 => ?_) (fun c12_40 => ?_)
      · skip
        have c12_40n : pp ≤ vi1 := (zz_le (a := pp) (b := vi1) rfl rfl (by omega) (by omega)).mp c12_40
        refine lv_iconst (v := 0) hx hb dX9_howManyAt_42 (by decide) ?_
        refine lv_istore_n (lv' := [(3, .int 0), (2, .int vy20), (0, .ref ob0), (1, .int ar1)]) hx hb dX9_howManyAt_43 rfl hl (by decide) rfl (fun ls hl => ?_)
        have lp44_51 : ∀ (vn42 vi41 : Nat) (vy46 : Int32) (H : Heap) (locs : List Loc) (ls : Array Slot), vi41 ≤ pq → pq < vi41 + vn42 → vy46 = zS (fun a => zC1 (e1 a = ar1)) pp + zS (fun p => zC1 (e2 p = ar1)) vi41 → zz_w G A s [(ob0, .inr (9, [.ref ut, .int uf1, .ref h1, .int uf3, .ref sc, .ref dr0, .ref k0, .ref my0, .ref c0, .ref ga, .ref pa0, .ref t0, .ref sl0, .ref hd0])), (sc, .inr (5, [.ref s1, .ref s2, .ref s3, .ref s4, .ref s5, .ref s6, .ref s7, .ref s8, .ref s9, .int (nI pp), .int (nI pq), .int i3, .int i4])), (k0, .inr (6, [.ref b1, .ref b2, .ref b3, .ref b4, .int o1, .int o2, .int o3])), (b1, .inl (G.2 0, 7, .inl e1)), (b2, .inl (G.2 0, 6, .inl e2)), (b3, .inl (G.2 0, 7, .inl e3)), (b4, .inl (G.2 0, 42, .inl e4))] H locs → lv_has ls 4 [(3, .int (nI vi41)), (2, .int vy46), (0, .ref ob0), (1, .int ar1)] → W p l e (zz_rm 0 0 0) s m args below meth c H locs (0) (0) Q (F0 m 44 ls []) := by
          intro vn42
          induction vn42 with
          | zero => intro vi41 vy46 H locs ls hi1 hi2; exact absurd hi2 (by omega)
          | succ vn42 ih44 =>
            intro vi41 vy46 H locs ls hi44a hi44b hv44_50 hw hl
            refine lv_iload_n hx hb dX9_howManyAt_44 rfl (lv_at hl 0 rfl) ?_
            refine lv_aload_n hx hb dX9_howManyAt_45 rfl (lv_at hl 2 rfl) ?_
            refine zz_get (v := .ref sc) S hw fgX9_30 0 rfl rfl dX9_howManyAt_46 ?_
            refine zz_get (v := .int (nI pq)) S hw fgX9_108 1 rfl rfl dX9_howManyAt_49 ?_
            refine W.eq (g2 := F0 m 52 ls [.int (nI pq), .int (nI vi41)]) rfl ?_
            refine lv_icmp_ge (tgt := 82) hx hb dX9_howManyAt_52 (by decide) (fun c52_52 => ?_) (fun c52_52 => ?_)
            · skip
              have c52_52n : pq ≤ vi41 := (zz_le (a := pq) (b := vi41) rfl rfl (by omega) (by omega)).mp c52_52
              refine lv_iload_n hx hb dX9_howManyAt_82 rfl (lv_at hl 1 rfl) ?_
              exact hret _ _ _ _ _ _ ⟨vy46, rfl, rfl, (zS_e2 hv44_50 (by omega))⟩ hw rfl dX9_howManyAt_83
            · skip
              have c52_52n : ¬ (pq ≤ vi41) := fun z => c52_52 ((zz_le (a := pq) (b := vi41) rfl rfl (by omega) (by omega)).mpr z)
              refine lv_iload_n hx hb dX9_howManyAt_55 rfl (lv_at hl 1 rfl) ?_
              refine lv_aload_n hx hb dX9_howManyAt_56 rfl (lv_at hl 2 rfl) ?_
              refine zz_get (v := .ref k0) S hw fgX9_40 0 rfl rfl dX9_howManyAt_57 ?_
              refine zz_get (v := .ref b2) S hw fgX9_157 2 rfl rfl dX9_howManyAt_60 ?_
              refine lv_iload_n hx hb dX9_howManyAt_63 rfl (lv_at hl 0 rfl) ?_
              refine zz_iald (v := (e2 vi41)) S hw 4 rfl (vp_in_nI (n := vi41) (by omega) (by decide)) (congrArg e2 (nI_clamp (n := vi41) (by omega))) dX9_howManyAt_64 ?_
              refine lv_iload_n hx hb dX9_howManyAt_65 rfl (lv_at hl 3 rfl) ?_
              refine lv_icmp_ne (tgt := 73) hx hb dX9_howManyAt_66 (by decide) (fun c66_53 => ?_) (fun c66_53 => ?_)
              · skip
                refine lv_iconst (v := 0) hx hb dX9_howManyAt_73 (by decide) ?_
                refine lv_iadd hx hb dX9_howManyAt_74 ?_
                refine zz_topi (y := vy46) (Int32.add_zero _) ?_
                refine lv_istore_n (lv' := [(2, .int vy46), (3, .int (nI vi41)), (0, .ref ob0), (1, .int ar1)]) hx hb dX9_howManyAt_75 rfl hl (by decide) rfl (fun ls hl => ?_)
                refine lv_iinc (v := (nI (vi41 + 1))) (lv' := [(3, .int (nI (vi41 + 1))), (2, .int vy46), (0, .ref ob0), (1, .int ar1)]) hx hb dX9_howManyAt_76 hl (k := 1) rfl (nI_add _ 1) (by decide) rfl (fun ls hl => ?_)
                refine lv_goto (tgt := 44) hx hb dX9_howManyAt_79 (by decide) ?_
                exact ih44 (vi41 + 1) vy46 _ _ _ (by omega) (by omega) (by first | exact zS_s2 hv44_50 (by assumption) (zC_1 (by assumption)).symm | exact zS_12 hv44_50 (zC_1 (by assumption)) | exact zS_02 hv44_50 (zC_0 (by assumption))) hw (lv_sub hl [0, 1, 2, 3] rfl)
              · skip
                refine lv_iconst (v := 1) hx hb dX9_howManyAt_69 (by decide) ?_
                refine W.eq (g2 := F0 m 70 ls [.int 1, .int vy46]) rfl ?_
                refine lv_goto (tgt := 74) hx hb dX9_howManyAt_70 (by decide) ?_
                refine lv_iadd hx hb dX9_howManyAt_74 ?_
                refine lv_topi (fun z54 ez54 => ?_)
                refine lv_istore_n (lv' := [(2, .int z54), (3, .int (nI vi41)), (0, .ref ob0), (1, .int ar1)]) hx hb dX9_howManyAt_75 rfl hl (by decide) rfl (fun ls hl => ?_)
                refine lv_iinc (v := (nI (vi41 + 1))) (lv' := [(3, .int (nI (vi41 + 1))), (2, .int z54), (0, .ref ob0), (1, .int ar1)]) hx hb dX9_howManyAt_76 hl (k := 1) rfl (nI_add _ 1) (by decide) rfl (fun ls hl => ?_)
                refine lv_goto (tgt := 44) hx hb dX9_howManyAt_79 (by decide) ?_
                exact ih44 (vi41 + 1) z54 _ _ _ (by omega) (by omega) (by first | exact zS_s2 hv44_50 (by assumption) (zC_1 (by assumption)).symm | exact zS_12 hv44_50 (zC_1 (by assumption)) | exact zS_02 hv44_50 (zC_0 (by assumption))) hw (lv_sub hl [0, 1, 2, 3] rfl)
        exact lp44_51 (pq + 1 - 0) 0 vy20 _ _ _ (by omega) (by omega) (zS_i2 hv4_38 (by omega)) hw (lv_sub hl [0, 1, 2, 3] rfl)
      · skip
        have c12_40n : ¬ (pp ≤ vi1) := fun z => c12_40 ((zz_le (a := pp) (b := vi1) rfl rfl (by omega) (by omega)).mpr z)
        refine lv_iload_n hx hb dX9_howManyAt_15 rfl (lv_at hl 1 rfl) ?_
        refine lv_aload_n hx hb dX9_howManyAt_16 rfl (lv_at hl 2 rfl) ?_
        refine zz_get (v := .ref k0) S hw fgX9_40 0 rfl rfl dX9_howManyAt_17 ?_
        refine zz_get (v := .ref b1) S hw fgX9_125 2 rfl rfl dX9_howManyAt_20 ?_
        refine lv_iload_n hx hb dX9_howManyAt_23 rfl (lv_at hl 0 rfl) ?_
        refine zz_iald (v := (e1 vi1)) S hw 3 rfl (vp_in_nI (n := vi1) (by omega) (by decide)) (congrArg e1 (nI_clamp (n := vi1) (by omega))) dX9_howManyAt_24 ?_
        refine lv_iload_n hx hb dX9_howManyAt_25 rfl (lv_at hl 3 rfl) ?_
        refine lv_icmp_ne (tgt := 33) hx hb dX9_howManyAt_26 (by decide) (fun c26_55 => ?_) (fun c26_55 => ?_)
        · skip
          refine lv_iconst (v := 0) hx hb dX9_howManyAt_33 (by decide) ?_
          refine lv_iadd hx hb dX9_howManyAt_34 ?_
          refine zz_topi (y := vy20) (Int32.add_zero _) ?_
          refine W.eq (g2 := F0 m 35 ls [.int vy20]) rfl ?_
          refine lv_istore_n (lv' := [(2, .int vy20), (3, .int (nI vi1)), (0, .ref ob0), (1, .int ar1)]) hx hb dX9_howManyAt_35 rfl hl (by decide) rfl (fun ls hl => ?_)
          refine lv_iinc (v := (nI (vi1 + 1))) (lv' := [(3, .int (nI (vi1 + 1))), (2, .int vy20), (0, .ref ob0), (1, .int ar1)]) hx hb dX9_howManyAt_36 hl (k := 1) rfl (nI_add _ 1) (by decide) rfl (fun ls hl => ?_)
          refine lv_goto (tgt := 4) hx hb dX9_howManyAt_39 (by decide) ?_
          exact ih4 (vi1 + 1) vy20 _ _ _ (by omega) (by omega) (by first | exact zS_s hv4_38 (by assumption) (zC_1 (by assumption)).symm | exact zS_1 hv4_38 (zC_1 (by assumption)) | exact zS_0 hv4_38 (zC_0 (by assumption))) hw (lv_sub hl [0, 1, 2, 3] rfl)
        · skip
          refine lv_iconst (v := 1) hx hb dX9_howManyAt_29 (by decide) ?_
          refine lv_goto (tgt := 34) hx hb dX9_howManyAt_30 (by decide) ?_
          refine lv_iadd hx hb dX9_howManyAt_34 ?_
          refine lv_topi (fun z56 ez56 => ?_)
          refine lv_istore_n (lv' := [(2, .int z56), (3, .int (nI vi1)), (0, .ref ob0), (1, .int ar1)]) hx hb dX9_howManyAt_35 rfl hl (by decide) rfl (fun ls hl => ?_)
          refine lv_iinc (v := (nI (vi1 + 1))) (lv' := [(3, .int (nI (vi1 + 1))), (2, .int z56), (0, .ref ob0), (1, .int ar1)]) hx hb dX9_howManyAt_36 hl (k := 1) rfl (nI_add _ 1) (by decide) rfl (fun ls hl => ?_)
          refine lv_goto (tgt := 4) hx hb dX9_howManyAt_39 (by decide) ?_
          exact ih4 (vi1 + 1) z56 _ _ _ (by omega) (by omega) (by first | exact zS_s hv4_38 (by assumption) (zC_1 (by assumption)).symm | exact zS_1 hv4_38 (zC_1 (by assumption)) | exact zS_0 hv4_38 (zC_0 (by assumption))) hw (lv_sub hl [0, 1, 2, 3] rfl)
  exact lp4_39 (pp + 1 - 0) 0 0 _ _ _ (by omega) (by omega) rfl hw (lv_sub hl [0, 1, 2, 3] rfl)
theorem kd_ncX9_crowd : kd_ck 8198464613192570978452089836848742437597026453476263132255408826841367167798597736090858597252446045026534737692303530063650720768720434673691 59 cX9_crowd.data.toList 0 = true := by decide +kernel
theorem dX9_crowd_0 : decode cX9_crowd 0 = .ok (.iload_n 1, 1) := kd_dk0 kd_o27 kd_ncX9_crowd rfl
theorem dX9_crowd_1 : decode cX9_crowd 1 = .ok (.invokestatic 210, 3) := kd_dk2 kd_o184 kd_ncX9_crowd rfl
theorem dX9_crowd_4 : decode cX9_crowd 4 = .ok (.ifCond .ne 5, 3) := kd_dj2 kd_o154 (w := 5) kd_ncX9_crowd rfl rfl
theorem dX9_crowd_7 : decode cX9_crowd 7 = .ok (.iconst (-1), 1) := kd_dk0 kd_o2 kd_ncX9_crowd rfl
theorem dX9_crowd_8 : decode cX9_crowd 8 = .ok (.ireturn, 1) := kd_dk0 kd_o172 kd_ncX9_crowd rfl
theorem dX9_crowd_9 : decode cX9_crowd 9 = .ok (.iconst 0, 1) := kd_dk0 kd_o3 kd_ncX9_crowd rfl
theorem dX9_crowd_10 : decode cX9_crowd 10 = .ok (.istore_n 2, 1) := kd_dk0 kd_o61 kd_ncX9_crowd rfl
theorem dX9_crowd_11 : decode cX9_crowd 11 = .ok (.iconst 0, 1) := kd_dk0 kd_o3 kd_ncX9_crowd rfl
theorem dX9_crowd_12 : decode cX9_crowd 12 = .ok (.istore_n 3, 1) := kd_dk0 kd_o62 kd_ncX9_crowd rfl
theorem dX9_crowd_13 : decode cX9_crowd 13 = .ok (.iconst 0, 1) := kd_dk0 kd_o3 kd_ncX9_crowd rfl
theorem dX9_crowd_14 : decode cX9_crowd 14 = .ok (.istore 4, 2) := kd_dk1 kd_o54 kd_ncX9_crowd rfl
theorem dX9_crowd_16 : decode cX9_crowd 16 = .ok (.iload 4, 2) := kd_dk1 kd_o21 kd_ncX9_crowd rfl
theorem dX9_crowd_18 : decode cX9_crowd 18 = .ok (.bipush 24, 2) := kd_dj1 kd_o16 (w := 24) kd_ncX9_crowd rfl rfl
theorem dX9_crowd_20 : decode cX9_crowd 20 = .ok (.if_icmp .ge 29, 3) := kd_dj2 kd_o162 (w := 29) kd_ncX9_crowd rfl rfl
theorem dX9_crowd_23 : decode cX9_crowd 23 = .ok (.aload_n 0, 1) := kd_dk0 kd_o42 kd_ncX9_crowd rfl
theorem dX9_crowd_24 : decode cX9_crowd 24 = .ok (.iload 4, 2) := kd_dk1 kd_o21 kd_ncX9_crowd rfl
theorem dX9_crowd_26 : decode cX9_crowd 26 = .ok (.invokevirtual 268, 3) := kd_dk2 kd_o182 kd_ncX9_crowd rfl
theorem dX9_crowd_29 : decode cX9_crowd 29 = .ok (.istore 5, 2) := kd_dk1 kd_o54 kd_ncX9_crowd rfl
theorem dX9_crowd_31 : decode cX9_crowd 31 = .ok (.iload 5, 2) := kd_dk1 kd_o21 kd_ncX9_crowd rfl
theorem dX9_crowd_33 : decode cX9_crowd 33 = .ok (.iload_n 3, 1) := kd_dk0 kd_o29 kd_ncX9_crowd rfl
theorem dX9_crowd_34 : decode cX9_crowd 34 = .ok (.if_icmp .le 9, 3) := kd_dj2 kd_o164 (w := 9) kd_ncX9_crowd rfl rfl
theorem dX9_crowd_37 : decode cX9_crowd 37 = .ok (.iload 5, 2) := kd_dk1 kd_o21 kd_ncX9_crowd rfl
theorem dX9_crowd_39 : decode cX9_crowd 39 = .ok (.istore_n 3, 1) := kd_dk0 kd_o62 kd_ncX9_crowd rfl
theorem dX9_crowd_40 : decode cX9_crowd 40 = .ok (.iload 4, 2) := kd_dk1 kd_o21 kd_ncX9_crowd rfl
theorem dX9_crowd_42 : decode cX9_crowd 42 = .ok (.istore_n 2, 1) := kd_dk0 kd_o61 kd_ncX9_crowd rfl
theorem dX9_crowd_43 : decode cX9_crowd 43 = .ok (.iinc 4 1, 3) := kd_dji kd_o132 (w := 1) kd_ncX9_crowd rfl rfl
theorem dX9_crowd_46 : decode cX9_crowd 46 = .ok (.goto (-30), 3) := kd_dj2 kd_o167 (w := 65506) kd_ncX9_crowd rfl rfl
theorem dX9_crowd_49 : decode cX9_crowd 49 = .ok (.iload_n 1, 1) := kd_dk0 kd_o27 kd_ncX9_crowd rfl
theorem dX9_crowd_50 : decode cX9_crowd 50 = .ok (.ifCond .ne 7, 3) := kd_dj2 kd_o154 (w := 7) kd_ncX9_crowd rfl rfl
theorem dX9_crowd_53 : decode cX9_crowd 53 = .ok (.iload_n 2, 1) := kd_dk0 kd_o28 kd_ncX9_crowd rfl
theorem dX9_crowd_54 : decode cX9_crowd 54 = .ok (.goto 4, 3) := kd_dj2 kd_o167 (w := 4) kd_ncX9_crowd rfl rfl
theorem dX9_crowd_57 : decode cX9_crowd 57 = .ok (.iload_n 3, 1) := kd_dk0 kd_o29 kd_ncX9_crowd rfl
theorem dX9_crowd_58 : decode cX9_crowd 58 = .ok (.ireturn, 1) := kd_dk0 kd_o172 kd_ncX9_crowd rfl
set_option maxHeartbeats 8000000 in
set_option maxRecDepth 100000 in
theorem c_g_crowd (l : Launch) (G : zz_G) (ob0 : Nat) (ut : Nat) (uf1 : Int32) (h1 : Nat) (uf3 : Int32) (sc : Nat) (dr0 : Nat) (k0 : Nat) (my0 : Nat) (c0 : Nat) (ga : Nat) (pa0 : Nat) (t0 : Nat) (sl0 : Nat) (hd0 : Nat) (s1 : Nat) (s2 : Nat) (s3 : Nat) (s4 : Nat) (s5 : Nat) (s6 : Nat) (s7 : Nat) (s8 : Nat) (s9 : Nat) (pp : Nat) (pq : Nat) (i3 : Int32) (i4 : Int32) (b1 : Nat) (b2 : Nat) (b3 : Nat) (b4 : Nat) (e1 : Nat → Int32) (e2 : Nat → Int32) (e3 : Nat → Int32) (e4 : Nat → Int32) (o1 : Int32) (o2 : Int32) (o3 : Int32) (ar1 : Int32) (hpp : pp ≤ 7) (hpq : pq ≤ 6) : zz_M l G mX9_crowd 1 0 0 [.ref ob0, .int ar1] [(ob0, .inr (9, [.ref ut, .int uf1, .ref h1, .int uf3, .ref sc, .ref dr0, .ref k0, .ref my0, .ref c0, .ref ga, .ref pa0, .ref t0, .ref sl0, .ref hd0])), (sc, .inr (5, [.ref s1, .ref s2, .ref s3, .ref s4, .ref s5, .ref s6, .ref s7, .ref s8, .ref s9, .int (nI pp), .int (nI pq), .int i3, .int i4])), (k0, .inr (6, [.ref b1, .ref b2, .ref b3, .ref b4, .int o1, .int o2, .int o3])), (b1, .inl (G.2 0, 7, .inl e1)), (b2, .inl (G.2 0, 6, .inl e2)), (b3, .inl (G.2 0, 7, .inl e3)), (b4, .inl (G.2 0, 42, .inl e4))] (fun rr u => ∃ (rv : Int32), rr = some (.int rv) ∧ u = [(ob0, .inr (9, [.ref ut, .int uf1, .ref h1, .int uf3, .ref sc, .ref dr0, .ref k0, .ref my0, .ref c0, .ref ga, .ref pa0, .ref t0, .ref sl0, .ref hd0])), (sc, .inr (5, [.ref s1, .ref s2, .ref s3, .ref s4, .ref s5, .ref s6, .ref s7, .ref s8, .ref s9, .int (nI pp), .int (nI pq), .int i3, .int i4])), (k0, .inr (6, [.ref b1, .ref b2, .ref b3, .ref b4, .int o1, .int o2, .int o3])), (b1, .inl (G.2 0, 7, .inl e1)), (b2, .inl (G.2 0, 6, .inl e2)), (b3, .inl (G.2 0, 7, .inl e3)), (b4, .inl (G.2 0, 42, .inl e4))] ∧ (zA (zz_In 2 ar1) (rv = zP ar1 (zB (0, 0) (fun h => (zS (fun a => zC1 (e1 a = nI h)) pp + zS (fun p => zC1 (e2 p = nI h)) pq)) 24)) rv (-1))) := by
  refine zz_enteri (by decide +kernel) (Nat.le_of_ble_eq_true rfl) ?_
  intro p e s m args below meth c A Q ls S hnm hret hw hl
  have hl : lv_has ls 6 [(0, .ref ob0), (1, .int ar1)] := hl
  have hx := S.1
  have hb := S.2.1
  refine lv_iload_n hx hb dX9_crowd_0 rfl (lv_at hl 1 rfl) ?_
  refine zz_callS (As := [.int ar1]) (rest := []) (wr := [(ob0, .inr (9, [.ref ut, .int uf1, .ref h1, .int uf3, .ref sc, .ref dr0, .ref k0, .ref my0, .ref c0, .ref ga, .ref pa0, .ref t0, .ref sl0, .ref hd0])), (sc, .inr (5, [.ref s1, .ref s2, .ref s3, .ref s4, .ref s5, .ref s6, .ref s7, .ref s8, .ref s9, .int (nI pp), .int (nI pq), .int i3, .int i4])), (k0, .inr (6, [.ref b1, .ref b2, .ref b3, .ref b4, .int o1, .int o2, .int o3])), (b1, .inl (G.2 0, 7, .inl e1)), (b2, .inl (G.2 0, 6, .inl e2)), (b3, .inl (G.2 0, 7, .inl e3)), (b4, .inl (G.2 0, 42, .inl e4))]) S hw hl.1 lX9_210 (c_g_isOneOfTwo l G ar1) ⟨Nat.le_of_ble_eq_true rfl, Nat.le_of_ble_eq_true rfl⟩ ⟨Nat.le_of_ble_eq_true rfl, Nat.le_of_ble_eq_true rfl⟩ [] [0, 1, 2, 3, 4, 5, 6] (by decide) rfl rfl (by decide) (by decide) rfl rfl (Nat.le_of_ble_eq_true rfl) dX9_crowd_1 ?_
  clear hw
  intro rr u H locs hp hw
  refine hp.elim fun rv_1 zg0 => zg0.elim fun zee1 zg1 => zg1.elim fun zee2 zg2 => zg2.elim fun hq1_0 hq1_1 => ?_
  clear hp zg0 zg1 zg2
  subst zee1
  subst zee2
  replace hw : zz_w G A s [(ob0, .inr (9, [.ref ut, .int uf1, .ref h1, .int uf3, .ref sc, .ref dr0, .ref k0, .ref my0, .ref c0, .ref ga, .ref pa0, .ref t0, .ref sl0, .ref hd0])), (sc, .inr (5, [.ref s1, .ref s2, .ref s3, .ref s4, .ref s5, .ref s6, .ref s7, .ref s8, .ref s9, .int (nI pp), .int (nI pq), .int i3, .int i4])), (k0, .inr (6, [.ref b1, .ref b2, .ref b3, .ref b4, .int o1, .int o2, .int o3])), (b1, .inl (G.2 0, 7, .inl e1)), (b2, .inl (G.2 0, 6, .inl e2)), (b3, .inl (G.2 0, 7, .inl e3)), (b4, .inl (G.2 0, 42, .inl e4))] H _ := hw
  refine W.eq (g2 := F0 m 4 ls [.int rv_1]) rfl ?_
  refine lv_if_ne (tgt := 9) hx hb dX9_crowd_4 (by decide) (fun c4_2 => ?_) (fun c4_2 => ?_)
  · skip
    refine lv_iconst (v := 0) hx hb dX9_crowd_9 (by decide) ?_
    refine lv_istore_n (lv' := [(2, .int 0), (0, .ref ob0), (1, .int ar1)]) hx hb dX9_crowd_10 rfl hl (by decide) rfl (fun ls hl => ?_)
    refine lv_iconst (v := 0) hx hb dX9_crowd_11 (by decide) ?_
    refine lv_istore_n (lv' := [(3, .int 0), (2, .int 0), (0, .ref ob0), (1, .int ar1)]) hx hb dX9_crowd_12 rfl hl (by decide) rfl (fun ls hl => ?_)
    refine lv_iconst (v := 0) hx hb dX9_crowd_13 (by decide) ?_
    refine lv_istore (lv' := [(4, .int 0), (3, .int 0), (2, .int 0), (0, .ref ob0), (1, .int ar1)]) hx hb dX9_crowd_14 hl (by decide) rfl (fun ls hl => ?_)
    have lp16_18 : ∀ (vn4 vi3 : Nat) (vy11 : Int32) (vy12 : Int32) (H : Heap) (locs : List Loc) (ls : Array Slot), vi3 ≤ 24 → 24 < vi3 + vn4 → (vy12, vy11) = zB (0, 0) (fun h => (zS (fun a => zC1 (e1 a = nI h)) pp + zS (fun p => zC1 (e2 p = nI h)) pq)) vi3 → zz_w G A s [(ob0, .inr (9, [.ref ut, .int uf1, .ref h1, .int uf3, .ref sc, .ref dr0, .ref k0, .ref my0, .ref c0, .ref ga, .ref pa0, .ref t0, .ref sl0, .ref hd0])), (sc, .inr (5, [.ref s1, .ref s2, .ref s3, .ref s4, .ref s5, .ref s6, .ref s7, .ref s8, .ref s9, .int (nI pp), .int (nI pq), .int i3, .int i4])), (k0, .inr (6, [.ref b1, .ref b2, .ref b3, .ref b4, .int o1, .int o2, .int o3])), (b1, .inl (G.2 0, 7, .inl e1)), (b2, .inl (G.2 0, 6, .inl e2)), (b3, .inl (G.2 0, 7, .inl e3)), (b4, .inl (G.2 0, 42, .inl e4))] H locs → lv_has ls 6 [(4, .int (nI vi3)), (3, .int vy11), (2, .int vy12), (0, .ref ob0), (1, .int ar1)] → W p l e (zz_rm 1 0 0) s m args below meth c H locs (0) (0) Q (F0 m 16 ls []) := by
      intro vn4
      induction vn4 with
      | zero => intro vi3 vy11 vy12 H locs ls hi1 hi2; exact absurd hi2 (by omega)
      | succ vn4 ih16 =>
        intro vi3 vy11 vy12 H locs ls hi16a hi16b hv16_17 hw hl
        refine lv_iload hx hb dX9_crowd_16 (lv_at hl 0 rfl) ?_
        refine lv_bipush (v := 24) hx hb dX9_crowd_18 (by decide) ?_
        refine lv_icmp_ge (tgt := 49) hx hb dX9_crowd_20 (by decide) (fun c20_19 => ?_) (fun c20_19 => ?_)
        · skip
          have c20_19n : 24 ≤ vi3 := (zz_le (a := 24) (b := vi3) rfl rfl (by omega) (by omega)).mp c20_19
          refine lv_iload_n hx hb dX9_crowd_49 rfl (lv_at hl 4 rfl) ?_
          refine lv_if_ne (tgt := 57) hx hb dX9_crowd_50 (by decide) (fun c50_20 => ?_) (fun c50_20 => ?_)
          · skip
            refine lv_iload_n hx hb dX9_crowd_57 rfl (lv_at hl 1 rfl) ?_
            exact hret _ _ _ _ _ _ ⟨vy11, rfl, rfl, (by first | exact zA0 (zA_Tn hq1_1 (by assumption)) | exact zA1 (zA_Ti hq1_1 (by assumption)) (zP_0 (zB_e hv16_17 (by omega)) (by assumption)) | exact zA1 (zA_Ti hq1_1 (by assumption)) (zP_1 (zB_e hv16_17 (by omega)) (by assumption)))⟩ hw rfl dX9_crowd_58
          · skip
            refine lv_iload_n hx hb dX9_crowd_53 rfl (lv_at hl 2 rfl) ?_
            refine lv_goto (tgt := 58) hx hb dX9_crowd_54 (by decide) ?_
            refine W.eq (g2 := F0 m 58 ls [.int vy12]) rfl ?_
            exact hret _ _ _ _ _ _ ⟨vy12, rfl, rfl, (by first | exact zA0 (zA_Tn hq1_1 (by assumption)) | exact zA1 (zA_Ti hq1_1 (by assumption)) (zP_0 (zB_e hv16_17 (by omega)) (by assumption)) | exact zA1 (zA_Ti hq1_1 (by assumption)) (zP_1 (zB_e hv16_17 (by omega)) (by assumption)))⟩ hw rfl dX9_crowd_58
        · skip
          have c20_19n : ¬ (24 ≤ vi3) := fun z => c20_19 ((zz_le (a := 24) (b := vi3) rfl rfl (by omega) (by omega)).mpr z)
          refine lv_aload_n hx hb dX9_crowd_23 rfl (lv_at hl 3 rfl) ?_
          refine lv_iload hx hb dX9_crowd_24 (lv_at hl 0 rfl) ?_
          refine zz_callV (qb := 0) (As := [.int (nI vi3)]) (rest := []) (wr := []) S hw hl.1 lX9_268 (c_g_howManyAt l G ob0 ut uf1 h1 uf3 sc dr0 k0 my0 c0 ga pa0 t0 sl0 hd0 s1 s2 s3 s4 s5 s6 s7 s8 s9 pp pq i3 i4 b1 b2 b3 b4 e1 e2 e3 e4 o1 o2 o3 (nI vi3) (by first | assumption | omega | exact Or.inr ⟨_, by omega, rfl⟩ | (unfold zz_sok; decide) | decide | exact (fun j hj => (hv7 j hj).1)) (by first | assumption | omega | exact Or.inr ⟨_, by omega, rfl⟩ | (unfold zz_sok; decide) | decide | exact (fun j hj => (hv7 j hj).1))) ⟨Nat.le_of_ble_eq_true rfl, Nat.le_of_ble_eq_true rfl⟩ ⟨Nat.le_of_ble_eq_true rfl, Nat.le_of_ble_eq_true rfl⟩ [0, 1, 2, 3, 4, 5, 6] [] (by decide) rfl rfl (by decide) (by decide) rfl rfl rfl rfl (Nat.le_of_ble_eq_true rfl) dX9_crowd_26 ?_
          clear hw
          intro rr u H locs hp hw
          refine hp.elim fun rv_21 zg0 => zg0.elim fun zee1 zg1 => zg1.elim fun zee2 hq26_0 => ?_
          clear hp zg0 zg1
          subst zee1
          subst zee2
          replace hw : zz_w G A s [(ob0, .inr (9, [.ref ut, .int uf1, .ref h1, .int uf3, .ref sc, .ref dr0, .ref k0, .ref my0, .ref c0, .ref ga, .ref pa0, .ref t0, .ref sl0, .ref hd0])), (sc, .inr (5, [.ref s1, .ref s2, .ref s3, .ref s4, .ref s5, .ref s6, .ref s7, .ref s8, .ref s9, .int (nI pp), .int (nI pq), .int i3, .int i4])), (k0, .inr (6, [.ref b1, .ref b2, .ref b3, .ref b4, .int o1, .int o2, .int o3])), (b1, .inl (G.2 0, 7, .inl e1)), (b2, .inl (G.2 0, 6, .inl e2)), (b3, .inl (G.2 0, 7, .inl e3)), (b4, .inl (G.2 0, 42, .inl e4))] H _ := hw
          refine W.eq (g2 := F0 m 29 ls [.int rv_21]) rfl ?_
          refine lv_istore (lv' := [(5, .int rv_21), (4, .int (nI vi3)), (3, .int vy11), (2, .int vy12), (0, .ref ob0), (1, .int ar1)]) hx hb dX9_crowd_29 hl (by decide) rfl (fun ls hl => ?_)
          refine lv_iload hx hb dX9_crowd_31 (lv_at hl 0 rfl) ?_
          refine lv_iload_n hx hb dX9_crowd_33 rfl (lv_at hl 2 rfl) ?_
          refine lv_icmp_le (tgt := 43) hx hb dX9_crowd_34 (by decide) (fun c34_22 => ?_) (fun c34_22 => ?_)
          · skip
            refine lv_iinc (v := (nI (vi3 + 1))) (lv' := [(4, .int (nI (vi3 + 1))), (5, .int rv_21), (3, .int vy11), (2, .int vy12), (0, .ref ob0), (1, .int ar1)]) hx hb dX9_crowd_43 hl (k := 1) rfl (nI_add _ 1) (by decide) rfl (fun ls hl => ?_)
            refine lv_goto (tgt := 16) hx hb dX9_crowd_46 (by decide) ?_
            exact ih16 (vi3 + 1) vy11 vy12 _ _ _ (by omega) (by omega) (by first | exact zB_y hv16_17 hq26_0 (by first | assumption | exact Int32.not_le.mp (by assumption)) | exact zB_n hv16_17 hq26_0 (by first | assumption | exact Int32.not_lt.mpr (by assumption))) hw (lv_sub hl [0, 2, 3, 4, 5] rfl)
          · skip
            refine lv_iload hx hb dX9_crowd_37 (lv_at hl 0 rfl) ?_
            refine lv_istore_n (lv' := [(3, .int rv_21), (5, .int rv_21), (4, .int (nI vi3)), (2, .int vy12), (0, .ref ob0), (1, .int ar1)]) hx hb dX9_crowd_39 rfl hl (by decide) rfl (fun ls hl => ?_)
            refine lv_iload hx hb dX9_crowd_40 (lv_at hl 2 rfl) ?_
            refine lv_istore_n (lv' := [(2, .int (nI vi3)), (3, .int rv_21), (5, .int rv_21), (4, .int (nI vi3)), (0, .ref ob0), (1, .int ar1)]) hx hb dX9_crowd_42 rfl hl (by decide) rfl (fun ls hl => ?_)
            refine lv_iinc (v := (nI (vi3 + 1))) (lv' := [(4, .int (nI (vi3 + 1))), (2, .int (nI vi3)), (3, .int rv_21), (5, .int rv_21), (0, .ref ob0), (1, .int ar1)]) hx hb dX9_crowd_43 hl (k := 3) rfl (nI_add _ 1) (by decide) rfl (fun ls hl => ?_)
            refine lv_goto (tgt := 16) hx hb dX9_crowd_46 (by decide) ?_
            refine W.eq (g2 := F0 m 16 ls []) rfl ?_
            exact ih16 (vi3 + 1) rv_21 (nI vi3) _ _ _ (by omega) (by omega) (by first | exact zB_y hv16_17 hq26_0 (by first | assumption | exact Int32.not_le.mp (by assumption)) | exact zB_n hv16_17 hq26_0 (by first | assumption | exact Int32.not_lt.mpr (by assumption))) hw (lv_sub hl [0, 2, 1, 4, 5] rfl)
    exact lp16_18 (24 + 1 - 0) 0 0 0 _ _ _ (by omega) (by omega) rfl hw (lv_sub hl [0, 1, 2, 3, 4] rfl)
  · skip
    refine lv_iconst (v := (-1)) hx hb dX9_crowd_7 (by decide) ?_
    exact hret _ _ _ _ _ _ ⟨(-1), rfl, rfl, (by first | exact zA0 (zA_Tn hq1_1 (by assumption)) | exact zA1 (zA_Ti hq1_1 (by assumption)) (zP_0 (zB_e hdry (by omega)) (by assumption)) | exact zA1 (zA_Ti hq1_1 (by assumption)) (zP_1 (zB_e hdry (by omega)) (by assumption)))⟩ hw rfl dX9_crowd_8
theorem kd_ncX9_habit : kd_ck 948780140370446490463905367926883930114366492283362363913266233030699863261321482461093758055479570914131384485378835941942042710382147043756884603432339970790639630523052357873408968376982388806561643543538508047457066 91 cX9_habit.data.toList 0 = true := by decide +kernel
theorem dX9_habit_0 : decode cX9_habit 0 = .ok (.aload_n 0, 1) := kd_dk0 kd_o42 kd_ncX9_habit rfl
theorem dX9_habit_1 : decode cX9_habit 1 = .ok (.iload_n 1, 1) := kd_dk0 kd_o27 kd_ncX9_habit rfl
theorem dX9_habit_2 : decode cX9_habit 2 = .ok (.invokevirtual 121, 3) := kd_dk2 kd_o182 kd_ncX9_habit rfl
theorem dX9_habit_5 : decode cX9_habit 5 = .ok (.ifCond .eq 10, 3) := kd_dj2 kd_o153 (w := 10) kd_ncX9_habit rfl rfl
theorem dX9_habit_8 : decode cX9_habit 8 = .ok (.iload_n 2, 1) := kd_dk0 kd_o28 kd_ncX9_habit rfl
theorem dX9_habit_9 : decode cX9_habit 9 = .ok (.invokestatic 210, 3) := kd_dk2 kd_o184 kd_ncX9_habit rfl
theorem dX9_habit_12 : decode cX9_habit 12 = .ok (.ifCond .ne 5, 3) := kd_dj2 kd_o154 (w := 5) kd_ncX9_habit rfl rfl
theorem dX9_habit_15 : decode cX9_habit 15 = .ok (.iconst (-1), 1) := kd_dk0 kd_o2 kd_ncX9_habit rfl
theorem dX9_habit_16 : decode cX9_habit 16 = .ok (.ireturn, 1) := kd_dk0 kd_o172 kd_ncX9_habit rfl
theorem dX9_habit_17 : decode cX9_habit 17 = .ok (.bipush (-2), 2) := kd_dj1 kd_o16 (w := 254) kd_ncX9_habit rfl rfl
theorem dX9_habit_19 : decode cX9_habit 19 = .ok (.istore_n 3, 1) := kd_dk0 kd_o62 kd_ncX9_habit rfl
theorem dX9_habit_20 : decode cX9_habit 20 = .ok (.iconst 0, 1) := kd_dk0 kd_o3 kd_ncX9_habit rfl
theorem dX9_habit_21 : decode cX9_habit 21 = .ok (.istore 4, 2) := kd_dk1 kd_o54 kd_ncX9_habit rfl
theorem dX9_habit_23 : decode cX9_habit 23 = .ok (.iconst 0, 1) := kd_dk0 kd_o3 kd_ncX9_habit rfl
theorem dX9_habit_24 : decode cX9_habit 24 = .ok (.istore 5, 2) := kd_dk1 kd_o54 kd_ncX9_habit rfl
theorem dX9_habit_26 : decode cX9_habit 26 = .ok (.iload 5, 2) := kd_dk1 kd_o21 kd_ncX9_habit rfl
theorem dX9_habit_28 : decode cX9_habit 28 = .ok (.aload_n 0, 1) := kd_dk0 kd_o42 kd_ncX9_habit rfl
theorem dX9_habit_29 : decode cX9_habit 29 = .ok (.getfield 30, 3) := kd_dk2 kd_o180 kd_ncX9_habit rfl
theorem dX9_habit_32 : decode cX9_habit 32 = .ok (.getfield 108, 3) := kd_dk2 kd_o180 kd_ncX9_habit rfl
theorem dX9_habit_35 : decode cX9_habit 35 = .ok (.if_icmp .ge 39, 3) := kd_dj2 kd_o162 (w := 39) kd_ncX9_habit rfl rfl
theorem dX9_habit_38 : decode cX9_habit 38 = .ok (.aload_n 0, 1) := kd_dk0 kd_o42 kd_ncX9_habit rfl
theorem dX9_habit_39 : decode cX9_habit 39 = .ok (.getfield 40, 3) := kd_dk2 kd_o180 kd_ncX9_habit rfl
theorem dX9_habit_42 : decode cX9_habit 42 = .ok (.iload_n 1, 1) := kd_dk0 kd_o27 kd_ncX9_habit rfl
theorem dX9_habit_43 : decode cX9_habit 43 = .ok (.iload 5, 2) := kd_dk1 kd_o21 kd_ncX9_habit rfl
theorem dX9_habit_45 : decode cX9_habit 45 = .ok (.invokevirtual 151, 3) := kd_dk2 kd_o182 kd_ncX9_habit rfl
theorem dX9_habit_48 : decode cX9_habit 48 = .ok (.iload 4, 2) := kd_dk1 kd_o21 kd_ncX9_habit rfl
theorem dX9_habit_50 : decode cX9_habit 50 = .ok (.if_icmp .le 18, 3) := kd_dj2 kd_o164 (w := 18) kd_ncX9_habit rfl rfl
theorem dX9_habit_53 : decode cX9_habit 53 = .ok (.aload_n 0, 1) := kd_dk0 kd_o42 kd_ncX9_habit rfl
theorem dX9_habit_54 : decode cX9_habit 54 = .ok (.getfield 40, 3) := kd_dk2 kd_o180 kd_ncX9_habit rfl
theorem dX9_habit_57 : decode cX9_habit 57 = .ok (.iload_n 1, 1) := kd_dk0 kd_o27 kd_ncX9_habit rfl
theorem dX9_habit_58 : decode cX9_habit 58 = .ok (.iload 5, 2) := kd_dk1 kd_o21 kd_ncX9_habit rfl
theorem dX9_habit_60 : decode cX9_habit 60 = .ok (.invokevirtual 151, 3) := kd_dk2 kd_o182 kd_ncX9_habit rfl
theorem dX9_habit_63 : decode cX9_habit 63 = .ok (.istore 4, 2) := kd_dk1 kd_o54 kd_ncX9_habit rfl
theorem dX9_habit_65 : decode cX9_habit 65 = .ok (.iload 5, 2) := kd_dk1 kd_o21 kd_ncX9_habit rfl
theorem dX9_habit_67 : decode cX9_habit 67 = .ok (.istore_n 3, 1) := kd_dk0 kd_o62 kd_ncX9_habit rfl
theorem dX9_habit_68 : decode cX9_habit 68 = .ok (.iinc 5 1, 3) := kd_dji kd_o132 (w := 1) kd_ncX9_habit rfl rfl
theorem dX9_habit_71 : decode cX9_habit 71 = .ok (.goto (-45), 3) := kd_dj2 kd_o167 (w := 65491) kd_ncX9_habit rfl rfl
theorem dX9_habit_74 : decode cX9_habit 74 = .ok (.iload_n 2, 1) := kd_dk0 kd_o28 kd_ncX9_habit rfl
theorem dX9_habit_75 : decode cX9_habit 75 = .ok (.ifCond .eq 9, 3) := kd_dj2 kd_o153 (w := 9) kd_ncX9_habit rfl rfl
theorem dX9_habit_78 : decode cX9_habit 78 = .ok (.iload_n 3, 1) := kd_dk0 kd_o29 kd_ncX9_habit rfl
theorem dX9_habit_79 : decode cX9_habit 79 = .ok (.bipush (-2), 2) := kd_dj1 kd_o16 (w := 254) kd_ncX9_habit rfl rfl
theorem dX9_habit_81 : decode cX9_habit 81 = .ok (.if_icmp .ne 7, 3) := kd_dj2 kd_o160 (w := 7) kd_ncX9_habit rfl rfl
theorem dX9_habit_84 : decode cX9_habit 84 = .ok (.iload_n 3, 1) := kd_dk0 kd_o29 kd_ncX9_habit rfl
theorem dX9_habit_85 : decode cX9_habit 85 = .ok (.goto 5, 3) := kd_dj2 kd_o167 (w := 5) kd_ncX9_habit rfl rfl
theorem dX9_habit_88 : decode cX9_habit 88 = .ok (.iload 4, 2) := kd_dk1 kd_o21 kd_ncX9_habit rfl
theorem dX9_habit_90 : decode cX9_habit 90 = .ok (.ireturn, 1) := kd_dk0 kd_o172 kd_ncX9_habit rfl
set_option maxHeartbeats 8000000 in
set_option maxRecDepth 100000 in
theorem c_g_habit (l : Launch) (G : zz_G) (ob0 : Nat) (ut : Nat) (uf1 : Int32) (h1 : Nat) (uf3 : Int32) (sc : Nat) (dr0 : Nat) (k0 : Nat) (my0 : Nat) (c0 : Nat) (ga : Nat) (pa0 : Nat) (t0 : Nat) (sl0 : Nat) (hd0 : Nat) (s1 : Nat) (s2 : Nat) (s3 : Nat) (s4 : Nat) (s5 : Nat) (s6 : Nat) (s7 : Nat) (s8 : Nat) (s9 : Nat) (pp : Nat) (pq : Nat) (i3 : Int32) (i4 : Int32) (b1 : Nat) (b2 : Nat) (b3 : Nat) (b4 : Nat) (e1 : Nat → Int32) (e2 : Nat → Int32) (e3 : Nat → Int32) (e4 : Nat → Int32) (o1 : Int32) (o2 : Int32) (o3 : Int32) (ar1 : Int32) (ar2 : Int32) (hpp : pp ≤ 7) (hpq : pq ≤ 6) : zz_M l G mX9_habit 1 0 0 [.ref ob0, .int ar1, .int ar2] [(ob0, .inr (9, [.ref ut, .int uf1, .ref h1, .int uf3, .ref sc, .ref dr0, .ref k0, .ref my0, .ref c0, .ref ga, .ref pa0, .ref t0, .ref sl0, .ref hd0])), (sc, .inr (5, [.ref s1, .ref s2, .ref s3, .ref s4, .ref s5, .ref s6, .ref s7, .ref s8, .ref s9, .int (nI pp), .int (nI pq), .int i3, .int i4])), (k0, .inr (6, [.ref b1, .ref b2, .ref b3, .ref b4, .int o1, .int o2, .int o3])), (b1, .inl (G.2 0, 7, .inl e1)), (b2, .inl (G.2 0, 6, .inl e2)), (b3, .inl (G.2 0, 7, .inl e3)), (b4, .inl (G.2 0, 42, .inl e4))] (fun rr u => ∃ (rv : Int32), rr = some (.int rv) ∧ u = [(ob0, .inr (9, [.ref ut, .int uf1, .ref h1, .int uf3, .ref sc, .ref dr0, .ref k0, .ref my0, .ref c0, .ref ga, .ref pa0, .ref t0, .ref sl0, .ref hd0])), (sc, .inr (5, [.ref s1, .ref s2, .ref s3, .ref s4, .ref s5, .ref s6, .ref s7, .ref s8, .ref s9, .int (nI pp), .int (nI pq), .int i3, .int i4])), (k0, .inr (6, [.ref b1, .ref b2, .ref b3, .ref b4, .int o1, .int o2, .int o3])), (b1, .inl (G.2 0, 7, .inl e1)), (b2, .inl (G.2 0, 6, .inl e2)), (b3, .inl (G.2 0, 7, .inl e3)), (b4, .inl (G.2 0, 42, .inl e4))] ∧ (zA (zz_In pp ar1 ∧ zz_In 2 ar2) (∃ a : Nat, a < pp ∧ ar1 = nI a ∧ rv = zP2 ar2 (zB (-2, 0) (fun p => e4 (a * 6 + p)) pq)) rv (-1))) := by
  refine zz_enteri (by decide +kernel) (Nat.le_of_ble_eq_true rfl) ?_
  intro p e s m args below meth c A Q ls S hnm hret hw hl
  have hl : lv_has ls 6 [(0, .ref ob0), (1, .int ar1), (2, .int ar2)] := hl
  have hx := S.1
  have hb := S.2.1
  refine lv_aload_n hx hb dX9_habit_0 rfl (lv_at hl 0 rfl) ?_
  refine lv_iload_n hx hb dX9_habit_1 rfl (lv_at hl 1 rfl) ?_
  refine zz_callV (qb := 0) (As := [.int ar1]) (rest := []) (wr := [(k0, .inr (6, [.ref b1, .ref b2, .ref b3, .ref b4, .int o1, .int o2, .int o3])), (b1, .inl (G.2 0, 7, .inl e1)), (b2, .inl (G.2 0, 6, .inl e2)), (b3, .inl (G.2 0, 7, .inl e3)), (b4, .inl (G.2 0, 42, .inl e4))]) S hw hl.1 lX9_121 (c_g_isPerson l G ob0 ut uf1 h1 uf3 sc dr0 k0 my0 c0 ga pa0 t0 sl0 hd0 s1 s2 s3 s4 s5 s6 s7 s8 s9 pp pq i3 i4 ar1 (by first | assumption | omega | exact Or.inr ⟨_, by omega, rfl⟩ | (unfold zz_sok; decide) | decide | exact (fun j hj => (hv7 j hj).1)) (by first | assumption | omega | exact Or.inr ⟨_, by omega, rfl⟩ | (unfold zz_sok; decide) | decide | exact (fun j hj => (hv7 j hj).1))) ⟨Nat.le_of_ble_eq_true rfl, Nat.le_of_ble_eq_true rfl⟩ ⟨Nat.le_of_ble_eq_true rfl, Nat.le_of_ble_eq_true rfl⟩ [0, 1] [2, 3, 4, 5, 6] (by decide) rfl rfl (by decide) (by decide) rfl rfl rfl rfl (Nat.le_of_ble_eq_true rfl) dX9_habit_2 ?_
  clear hw
  intro rr u H locs hp hw
  refine hp.elim fun rv_1 zg0 => zg0.elim fun zee1 zg1 => zg1.elim fun zee2 zg2 => zg2.elim fun hq2_0 hq2_1 => ?_
  clear hp zg0 zg1 zg2
  subst zee1
  subst zee2
  replace hw : zz_w G A s [(k0, .inr (6, [.ref b1, .ref b2, .ref b3, .ref b4, .int o1, .int o2, .int o3])), (b1, .inl (G.2 0, 7, .inl e1)), (b2, .inl (G.2 0, 6, .inl e2)), (b3, .inl (G.2 0, 7, .inl e3)), (b4, .inl (G.2 0, 42, .inl e4)), (ob0, .inr (9, [.ref ut, .int uf1, .ref h1, .int uf3, .ref sc, .ref dr0, .ref k0, .ref my0, .ref c0, .ref ga, .ref pa0, .ref t0, .ref sl0, .ref hd0])), (sc, .inr (5, [.ref s1, .ref s2, .ref s3, .ref s4, .ref s5, .ref s6, .ref s7, .ref s8, .ref s9, .int (nI pp), .int (nI pq), .int i3, .int i4]))] H _ := hw
  refine W.eq (g2 := F0 m 5 ls [.int rv_1]) rfl ?_
  refine lv_if_eq (tgt := 15) hx hb dX9_habit_5 (by decide) (fun c5_2 => ?_) (fun c5_2 => ?_)
  · skip
    refine lv_iconst (v := (-1)) hx hb dX9_habit_15 (by decide) ?_
    exact hret _ _ _ _ _ _ ⟨(-1), rfl, rfl, (by first | exact zA0 (fun z => hq2_1 (by assumption) z.1) | exact zA0 (fun z => zA_Tn hq9_1 (by assumption) z.2) | exact zA1 ⟨⟨_, by assumption, rfl⟩, zA_Ti hq9_1 (by assumption)⟩ ⟨_, by assumption, rfl, zP2_0 (zB_e hdry (by omega)) (Or.inl (by assumption))⟩ | exact zA1 ⟨⟨_, by assumption, rfl⟩, zA_Ti hq9_1 (by assumption)⟩ ⟨_, by assumption, rfl, zP2_1 (zB_e hdry (by omega)) (by assumption) (by assumption)⟩ | exact zA1 ⟨⟨_, by assumption, rfl⟩, zA_Ti hq9_1 (by assumption)⟩ ⟨_, by assumption, rfl, zP2_0 (zB_e hdry (by omega)) (Or.inr (by assumption))⟩)⟩ (hw.sub [5, 6, 0, 1, 2, 3, 4] (by decide) rfl) rfl dX9_habit_16
  · skip
    obtain ⟨vq3, hvq3, rfl⟩ := hq2_0.resolve_left c5_2
    refine lv_iload_n hx hb dX9_habit_8 rfl (lv_at hl 2 rfl) ?_
    refine zz_callS (As := [.int ar2]) (rest := []) (wr := [(k0, .inr (6, [.ref b1, .ref b2, .ref b3, .ref b4, .int o1, .int o2, .int o3])), (b1, .inl (G.2 0, 7, .inl e1)), (b2, .inl (G.2 0, 6, .inl e2)), (b3, .inl (G.2 0, 7, .inl e3)), (b4, .inl (G.2 0, 42, .inl e4)), (ob0, .inr (9, [.ref ut, .int uf1, .ref h1, .int uf3, .ref sc, .ref dr0, .ref k0, .ref my0, .ref c0, .ref ga, .ref pa0, .ref t0, .ref sl0, .ref hd0])), (sc, .inr (5, [.ref s1, .ref s2, .ref s3, .ref s4, .ref s5, .ref s6, .ref s7, .ref s8, .ref s9, .int (nI pp), .int (nI pq), .int i3, .int i4]))]) S hw hl.1 lX9_210 (c_g_isOneOfTwo l G ar2) ⟨Nat.le_of_ble_eq_true rfl, Nat.le_of_ble_eq_true rfl⟩ ⟨Nat.le_of_ble_eq_true rfl, Nat.le_of_ble_eq_true rfl⟩ [] [0, 1, 2, 3, 4, 5, 6] (by decide) rfl rfl (by decide) (by decide) rfl rfl (Nat.le_of_ble_eq_true rfl) dX9_habit_9 ?_
    clear hw
    intro rr u H locs hp hw
    refine hp.elim fun rv_4 zg0 => zg0.elim fun zee1 zg1 => zg1.elim fun zee2 zg2 => zg2.elim fun hq9_0 hq9_1 => ?_
    clear hp zg0 zg1 zg2
    subst zee1
    subst zee2
    replace hw : zz_w G A s [(k0, .inr (6, [.ref b1, .ref b2, .ref b3, .ref b4, .int o1, .int o2, .int o3])), (b1, .inl (G.2 0, 7, .inl e1)), (b2, .inl (G.2 0, 6, .inl e2)), (b3, .inl (G.2 0, 7, .inl e3)), (b4, .inl (G.2 0, 42, .inl e4)), (ob0, .inr (9, [.ref ut, .int uf1, .ref h1, .int uf3, .ref sc, .ref dr0, .ref k0, .ref my0, .ref c0, .ref ga, .ref pa0, .ref t0, .ref sl0, .ref hd0])), (sc, .inr (5, [.ref s1, .ref s2, .ref s3, .ref s4, .ref s5, .ref s6, .ref s7, .ref s8, .ref s9, .int (nI pp), .int (nI pq), .int i3, .int i4]))] H _ := hw
    refine W.eq (g2 := F0 m 12 ls [.int rv_4]) rfl ?_
    refine lv_if_ne (tgt := 17) hx hb dX9_habit_12 (by decide) (fun c12_5 => ?_) (fun c12_5 => ?_)
    · skip
      refine lv_bipush (v := (-2)) hx hb dX9_habit_17 (by decide) ?_
      refine lv_istore_n (lv' := [(3, .int (-2)), (0, .ref ob0), (1, .int (nI vq3)), (2, .int ar2)]) hx hb dX9_habit_19 rfl hl (by decide) rfl (fun ls hl => ?_)
      refine lv_iconst (v := 0) hx hb dX9_habit_20 (by decide) ?_
      refine lv_istore (lv' := [(4, .int 0), (3, .int (-2)), (0, .ref ob0), (1, .int (nI vq3)), (2, .int ar2)]) hx hb dX9_habit_21 hl (by decide) rfl (fun ls hl => ?_)
      refine lv_iconst (v := 0) hx hb dX9_habit_23 (by decide) ?_
      refine lv_istore (lv' := [(5, .int 0), (4, .int 0), (3, .int (-2)), (0, .ref ob0), (1, .int (nI vq3)), (2, .int ar2)]) hx hb dX9_habit_24 hl (by decide) rfl (fun ls hl => ?_)
      have lp26_25 : ∀ (vn7 vi6 : Nat) (vy16 : Int32) (vy17 : Int32) (H : Heap) (locs : List Loc) (ls : Array Slot), vi6 ≤ pq → pq < vi6 + vn7 → (vy17, vy16) = zB (-2, 0) (fun p => e4 (vq3 * 6 + p)) vi6 → zz_w G A s [(k0, .inr (6, [.ref b1, .ref b2, .ref b3, .ref b4, .int o1, .int o2, .int o3])), (b1, .inl (G.2 0, 7, .inl e1)), (b2, .inl (G.2 0, 6, .inl e2)), (b3, .inl (G.2 0, 7, .inl e3)), (b4, .inl (G.2 0, 42, .inl e4)), (ob0, .inr (9, [.ref ut, .int uf1, .ref h1, .int uf3, .ref sc, .ref dr0, .ref k0, .ref my0, .ref c0, .ref ga, .ref pa0, .ref t0, .ref sl0, .ref hd0])), (sc, .inr (5, [.ref s1, .ref s2, .ref s3, .ref s4, .ref s5, .ref s6, .ref s7, .ref s8, .ref s9, .int (nI pp), .int (nI pq), .int i3, .int i4]))] H locs → lv_has ls 6 [(5, .int (nI vi6)), (4, .int vy16), (3, .int vy17), (0, .ref ob0), (1, .int (nI vq3)), (2, .int ar2)] → W p l e (zz_rm 1 0 0) s m args below meth c H locs (0) (0) Q (F0 m 26 ls []) := by
        intro vn7
        induction vn7 with
        | zero => intro vi6 vy16 vy17 H locs ls hi1 hi2; exact absurd hi2 (by omega)
        | succ vn7 ih26 =>
          intro vi6 vy16 vy17 H locs ls hi26a hi26b hv26_24 hw hl
          refine lv_iload hx hb dX9_habit_26 (lv_at hl 0 rfl) ?_
          refine lv_aload_n hx hb dX9_habit_28 rfl (lv_at hl 3 rfl) ?_
          refine W.eq (g2 := F0 m 29 ls [.ref ob0, .int (nI vi6)]) rfl ?_
          refine zz_get (v := .ref sc) S hw fgX9_30 5 rfl rfl dX9_habit_29 ?_
          refine zz_get (v := .int (nI pq)) S hw fgX9_108 6 rfl rfl dX9_habit_32 ?_
          refine lv_icmp_ge (tgt := 74) hx hb dX9_habit_35 (by decide) (fun c35_26 => ?_) (fun c35_26 => ?_)
          · skip
            have c35_26n : pq ≤ vi6 := (zz_le (a := pq) (b := vi6) rfl rfl (by omega) (by omega)).mp c35_26
            refine lv_iload_n hx hb dX9_habit_74 rfl (lv_at hl 5 rfl) ?_
            refine lv_if_eq (tgt := 84) hx hb dX9_habit_75 (by decide) (fun c75_27 => ?_) (fun c75_27 => ?_)
            · skip
              refine lv_iload_n hx hb dX9_habit_84 rfl (lv_at hl 2 rfl) ?_
              refine lv_goto (tgt := 90) hx hb dX9_habit_85 (by decide) ?_
              exact hret _ _ _ _ _ _ ⟨vy17, rfl, rfl, (by first | exact zA0 (fun z => hq2_1 (by assumption) z.1) | exact zA0 (fun z => zA_Tn hq9_1 (by assumption) z.2) | exact zA1 ⟨⟨_, by assumption, rfl⟩, zA_Ti hq9_1 (by assumption)⟩ ⟨_, by assumption, rfl, zP2_0 (zB_e hv26_24 (by omega)) (Or.inl (by assumption))⟩ | exact zA1 ⟨⟨_, by assumption, rfl⟩, zA_Ti hq9_1 (by assumption)⟩ ⟨_, by assumption, rfl, zP2_1 (zB_e hv26_24 (by omega)) (by assumption) (by assumption)⟩ | exact zA1 ⟨⟨_, by assumption, rfl⟩, zA_Ti hq9_1 (by assumption)⟩ ⟨_, by assumption, rfl, zP2_0 (zB_e hv26_24 (by omega)) (Or.inr (by assumption))⟩)⟩ (hw.sub [5, 6, 0, 1, 2, 3, 4] (by decide) rfl) rfl dX9_habit_90
            · skip
              refine lv_iload_n hx hb dX9_habit_78 rfl (lv_at hl 2 rfl) ?_
              refine lv_bipush (v := (-2)) hx hb dX9_habit_79 (by decide) ?_
              refine lv_icmp_ne (tgt := 88) hx hb dX9_habit_81 (by decide) (fun c81_28 => ?_) (fun c81_28 => ?_)
              · skip
                refine lv_iload hx hb dX9_habit_88 (lv_at hl 1 rfl) ?_
                exact hret _ _ _ _ _ _ ⟨vy16, rfl, rfl, (by first | exact zA0 (fun z => hq2_1 (by assumption) z.1) | exact zA0 (fun z => zA_Tn hq9_1 (by assumption) z.2) | exact zA1 ⟨⟨_, by assumption, rfl⟩, zA_Ti hq9_1 (by assumption)⟩ ⟨_, by assumption, rfl, zP2_0 (zB_e hv26_24 (by omega)) (Or.inl (by assumption))⟩ | exact zA1 ⟨⟨_, by assumption, rfl⟩, zA_Ti hq9_1 (by assumption)⟩ ⟨_, by assumption, rfl, zP2_1 (zB_e hv26_24 (by omega)) (by assumption) (by assumption)⟩ | exact zA1 ⟨⟨_, by assumption, rfl⟩, zA_Ti hq9_1 (by assumption)⟩ ⟨_, by assumption, rfl, zP2_0 (zB_e hv26_24 (by omega)) (Or.inr (by assumption))⟩)⟩ (hw.sub [5, 6, 0, 1, 2, 3, 4] (by decide) rfl) rfl dX9_habit_90
              · skip
                refine lv_iload_n hx hb dX9_habit_84 rfl (lv_at hl 2 rfl) ?_
                refine lv_goto (tgt := 90) hx hb dX9_habit_85 (by decide) ?_
                exact hret _ _ _ _ _ _ ⟨vy17, rfl, rfl, (by first | exact zA0 (fun z => hq2_1 (by assumption) z.1) | exact zA0 (fun z => zA_Tn hq9_1 (by assumption) z.2) | exact zA1 ⟨⟨_, by assumption, rfl⟩, zA_Ti hq9_1 (by assumption)⟩ ⟨_, by assumption, rfl, zP2_0 (zB_e hv26_24 (by omega)) (Or.inl (by assumption))⟩ | exact zA1 ⟨⟨_, by assumption, rfl⟩, zA_Ti hq9_1 (by assumption)⟩ ⟨_, by assumption, rfl, zP2_1 (zB_e hv26_24 (by omega)) (by assumption) (by assumption)⟩ | exact zA1 ⟨⟨_, by assumption, rfl⟩, zA_Ti hq9_1 (by assumption)⟩ ⟨_, by assumption, rfl, zP2_0 (zB_e hv26_24 (by omega)) (Or.inr (by assumption))⟩)⟩ (hw.sub [5, 6, 0, 1, 2, 3, 4] (by decide) rfl) rfl dX9_habit_90
          · skip
            have c35_26n : ¬ (pq ≤ vi6) := fun z => c35_26 ((zz_le (a := pq) (b := vi6) rfl rfl (by omega) (by omega)).mpr z)
            refine lv_aload_n hx hb dX9_habit_38 rfl (lv_at hl 3 rfl) ?_
            refine zz_get (v := .ref k0) S hw fgX9_40 5 rfl rfl dX9_habit_39 ?_
            refine lv_iload_n hx hb dX9_habit_42 rfl (lv_at hl 4 rfl) ?_
            refine lv_iload hx hb dX9_habit_43 (lv_at hl 0 rfl) ?_
            refine W.eq (g2 := F0 m 45 ls [.int (nI vi6), .int (nI vq3), .ref k0]) rfl ?_
            refine zz_callV (qb := 0) (As := [.int (nI vq3), .int (nI vi6)]) (rest := []) (wr := [(b1, .inl (G.2 0, 7, .inl e1)), (b2, .inl (G.2 0, 6, .inl e2)), (b3, .inl (G.2 0, 7, .inl e3)), (ob0, .inr (9, [.ref ut, .int uf1, .ref h1, .int uf3, .ref sc, .ref dr0, .ref k0, .ref my0, .ref c0, .ref ga, .ref pa0, .ref t0, .ref sl0, .ref hd0])), (sc, .inr (5, [.ref s1, .ref s2, .ref s3, .ref s4, .ref s5, .ref s6, .ref s7, .ref s8, .ref s9, .int (nI pp), .int (nI pq), .int i3, .int i4]))]) S hw hl.1 lX9_151 (c_gseenAs l G k0 b1 b2 b3 b4 e4 o1 o2 o3 vq3 vi6 (by first | assumption | omega | exact Or.inr ⟨_, by omega, rfl⟩ | (unfold zz_sok; decide) | decide | exact (fun j hj => (hv7 j hj).1)) (by first | assumption | omega | exact Or.inr ⟨_, by omega, rfl⟩ | (unfold zz_sok; decide) | decide | exact (fun j hj => (hv7 j hj).1))) ⟨Nat.le_of_ble_eq_true rfl, Nat.le_of_ble_eq_true rfl⟩ ⟨Nat.le_of_ble_eq_true rfl, Nat.le_of_ble_eq_true rfl⟩ [0, 4] [1, 2, 3, 5, 6] (by decide) rfl rfl (by decide) (by decide) rfl rfl rfl rfl (Nat.le_of_ble_eq_true rfl) dX9_habit_45 ?_
            clear hw
            intro rr u H locs hp hw
            refine hp.elim fun rv_29 zg0 => zg0.elim fun zee1 zg1 => zg1.elim fun zee2 hq45_0 => ?_
            clear hp zg0 zg1
            subst zee1
            subst zee2
            replace hw : zz_w G A s [(b1, .inl (G.2 0, 7, .inl e1)), (b2, .inl (G.2 0, 6, .inl e2)), (b3, .inl (G.2 0, 7, .inl e3)), (ob0, .inr (9, [.ref ut, .int uf1, .ref h1, .int uf3, .ref sc, .ref dr0, .ref k0, .ref my0, .ref c0, .ref ga, .ref pa0, .ref t0, .ref sl0, .ref hd0])), (sc, .inr (5, [.ref s1, .ref s2, .ref s3, .ref s4, .ref s5, .ref s6, .ref s7, .ref s8, .ref s9, .int (nI pp), .int (nI pq), .int i3, .int i4])), (k0, .inr (6, [.ref b1, .ref b2, .ref b3, .ref b4, .int o1, .int o2, .int o3])), (b4, .inl (G.2 0, 42, .inl e4))] H _ := hw
            refine W.eq (g2 := F0 m 48 ls [.int rv_29]) rfl ?_
            refine lv_iload hx hb dX9_habit_48 (lv_at hl 1 rfl) ?_
            refine lv_icmp_le (tgt := 68) hx hb dX9_habit_50 (by decide) (fun c50_30 => ?_) (fun c50_30 => ?_)
            · skip
              refine lv_iinc (v := (nI (vi6 + 1))) (lv' := [(5, .int (nI (vi6 + 1))), (4, .int vy16), (3, .int vy17), (0, .ref ob0), (1, .int (nI vq3)), (2, .int ar2)]) hx hb dX9_habit_68 hl (k := 0) rfl (nI_add _ 1) (by decide) rfl (fun ls hl => ?_)
              refine lv_goto (tgt := 26) hx hb dX9_habit_71 (by decide) ?_
              exact ih26 (vi6 + 1) vy16 vy17 _ _ _ (by omega) (by omega) (by first | exact zB_y2 hv26_24 hq45_0 hq60_0 (by first | assumption | exact Int32.not_le.mp (by assumption)) | exact zB_n hv26_24 hq45_0 (by first | assumption | exact Int32.not_lt.mpr (by assumption))) (hw.sub [5, 0, 1, 2, 6, 3, 4] (by decide) rfl) (lv_sub hl [0, 1, 2, 3, 4, 5] rfl)
            · skip
              refine lv_aload_n hx hb dX9_habit_53 rfl (lv_at hl 3 rfl) ?_
              refine zz_get (v := .ref k0) S hw fgX9_40 3 rfl rfl dX9_habit_54 ?_
              refine lv_iload_n hx hb dX9_habit_57 rfl (lv_at hl 4 rfl) ?_
              refine lv_iload hx hb dX9_habit_58 (lv_at hl 0 rfl) ?_
              refine zz_callV (qb := 5) (As := [.int (nI vq3), .int (nI vi6)]) (rest := []) (wr := [(b1, .inl (G.2 0, 7, .inl e1)), (b2, .inl (G.2 0, 6, .inl e2)), (b3, .inl (G.2 0, 7, .inl e3)), (ob0, .inr (9, [.ref ut, .int uf1, .ref h1, .int uf3, .ref sc, .ref dr0, .ref k0, .ref my0, .ref c0, .ref ga, .ref pa0, .ref t0, .ref sl0, .ref hd0])), (sc, .inr (5, [.ref s1, .ref s2, .ref s3, .ref s4, .ref s5, .ref s6, .ref s7, .ref s8, .ref s9, .int (nI pp), .int (nI pq), .int i3, .int i4]))]) S hw hl.1 lX9_151 (c_gseenAs l G k0 b1 b2 b3 b4 e4 o1 o2 o3 vq3 vi6 (by first | assumption | omega | exact Or.inr ⟨_, by omega, rfl⟩ | (unfold zz_sok; decide) | decide | exact (fun j hj => (hv7 j hj).1)) (by first | assumption | omega | exact Or.inr ⟨_, by omega, rfl⟩ | (unfold zz_sok; decide) | decide | exact (fun j hj => (hv7 j hj).1))) ⟨Nat.le_of_ble_eq_true rfl, Nat.le_of_ble_eq_true rfl⟩ ⟨Nat.le_of_ble_eq_true rfl, Nat.le_of_ble_eq_true rfl⟩ [5, 6] [0, 1, 2, 3, 4] (by decide) rfl rfl (by decide) (by decide) rfl rfl rfl rfl (Nat.le_of_ble_eq_true rfl) dX9_habit_60 ?_
              clear hw
              intro rr u H locs hp hw
              refine hp.elim fun rv_31 zg0 => zg0.elim fun zee1 zg1 => zg1.elim fun zee2 hq60_0 => ?_
              clear hp zg0 zg1
              subst zee1
              subst zee2
              replace hw : zz_w G A s [(b1, .inl (G.2 0, 7, .inl e1)), (b2, .inl (G.2 0, 6, .inl e2)), (b3, .inl (G.2 0, 7, .inl e3)), (ob0, .inr (9, [.ref ut, .int uf1, .ref h1, .int uf3, .ref sc, .ref dr0, .ref k0, .ref my0, .ref c0, .ref ga, .ref pa0, .ref t0, .ref sl0, .ref hd0])), (sc, .inr (5, [.ref s1, .ref s2, .ref s3, .ref s4, .ref s5, .ref s6, .ref s7, .ref s8, .ref s9, .int (nI pp), .int (nI pq), .int i3, .int i4])), (k0, .inr (6, [.ref b1, .ref b2, .ref b3, .ref b4, .int o1, .int o2, .int o3])), (b4, .inl (G.2 0, 42, .inl e4))] H _ := hw
              refine W.eq (g2 := F0 m 63 ls [.int rv_31]) rfl ?_
              refine lv_istore (lv' := [(4, .int rv_31), (5, .int (nI vi6)), (3, .int vy17), (0, .ref ob0), (1, .int (nI vq3)), (2, .int ar2)]) hx hb dX9_habit_63 hl (by decide) rfl (fun ls hl => ?_)
              refine lv_iload hx hb dX9_habit_65 (lv_at hl 1 rfl) ?_
              refine lv_istore_n (lv' := [(3, .int (nI vi6)), (4, .int rv_31), (5, .int (nI vi6)), (0, .ref ob0), (1, .int (nI vq3)), (2, .int ar2)]) hx hb dX9_habit_67 rfl hl (by decide) rfl (fun ls hl => ?_)
              refine lv_iinc (v := (nI (vi6 + 1))) (lv' := [(5, .int (nI (vi6 + 1))), (3, .int (nI vi6)), (4, .int rv_31), (0, .ref ob0), (1, .int (nI vq3)), (2, .int ar2)]) hx hb dX9_habit_68 hl (k := 2) rfl (nI_add _ 1) (by decide) rfl (fun ls hl => ?_)
              refine lv_goto (tgt := 26) hx hb dX9_habit_71 (by decide) ?_
              refine W.eq (g2 := F0 m 26 ls []) rfl ?_
              exact ih26 (vi6 + 1) rv_31 (nI vi6) _ _ _ (by omega) (by omega) (by first | exact zB_y2 hv26_24 hq45_0 hq60_0 (by first | assumption | exact Int32.not_le.mp (by assumption)) | exact zB_n hv26_24 hq45_0 (by first | assumption | exact Int32.not_lt.mpr (by assumption))) (hw.sub [5, 0, 1, 2, 6, 3, 4] (by decide) rfl) (lv_sub hl [0, 2, 1, 3, 4, 5] rfl)
      exact lp26_25 (pq + 1 - 0) 0 0 (-2) _ _ _ (by omega) (by omega) rfl hw (lv_sub hl [0, 1, 2, 3, 4, 5] rfl)
    · skip
      refine lv_iconst (v := (-1)) hx hb dX9_habit_15 (by decide) ?_
      exact hret _ _ _ _ _ _ ⟨(-1), rfl, rfl, (by first | exact zA0 (fun z => hq2_1 (by assumption) z.1) | exact zA0 (fun z => zA_Tn hq9_1 (by assumption) z.2) | exact zA1 ⟨⟨_, by assumption, rfl⟩, zA_Ti hq9_1 (by assumption)⟩ ⟨_, by assumption, rfl, zP2_0 (zB_e hdry (by omega)) (Or.inl (by assumption))⟩ | exact zA1 ⟨⟨_, by assumption, rfl⟩, zA_Ti hq9_1 (by assumption)⟩ ⟨_, by assumption, rfl, zP2_1 (zB_e hdry (by omega)) (by assumption) (by assumption)⟩ | exact zA1 ⟨⟨_, by assumption, rfl⟩, zA_Ti hq9_1 (by assumption)⟩ ⟨_, by assumption, rfl, zP2_0 (zB_e hdry (by omega)) (Or.inr (by assumption))⟩)⟩ (hw.sub [5, 6, 0, 1, 2, 3, 4] (by decide) rfl) rfl dX9_habit_16
theorem kd_ncX9_regular : kd_ck 948780140370446490463905367926883930114366492283362363913266233030699863261588994465070091129520878394544185826762780587439610046183458080494899842871075974594679508144709713404182927629692105751109997644461018900208426 91 cX9_regular.data.toList 0 = true := by decide +kernel
theorem dX9_regular_0 : decode cX9_regular 0 = .ok (.aload_n 0, 1) := kd_dk0 kd_o42 kd_ncX9_regular rfl
theorem dX9_regular_1 : decode cX9_regular 1 = .ok (.iload_n 1, 1) := kd_dk0 kd_o27 kd_ncX9_regular rfl
theorem dX9_regular_2 : decode cX9_regular 2 = .ok (.invokevirtual 154, 3) := kd_dk2 kd_o182 kd_ncX9_regular rfl
theorem dX9_regular_5 : decode cX9_regular 5 = .ok (.ifCond .eq 10, 3) := kd_dj2 kd_o153 (w := 10) kd_ncX9_regular rfl rfl
theorem dX9_regular_8 : decode cX9_regular 8 = .ok (.iload_n 2, 1) := kd_dk0 kd_o28 kd_ncX9_regular rfl
theorem dX9_regular_9 : decode cX9_regular 9 = .ok (.invokestatic 210, 3) := kd_dk2 kd_o184 kd_ncX9_regular rfl
theorem dX9_regular_12 : decode cX9_regular 12 = .ok (.ifCond .ne 5, 3) := kd_dj2 kd_o154 (w := 5) kd_ncX9_regular rfl rfl
theorem dX9_regular_15 : decode cX9_regular 15 = .ok (.iconst (-1), 1) := kd_dk0 kd_o2 kd_ncX9_regular rfl
theorem dX9_regular_16 : decode cX9_regular 16 = .ok (.ireturn, 1) := kd_dk0 kd_o172 kd_ncX9_regular rfl
theorem dX9_regular_17 : decode cX9_regular 17 = .ok (.bipush (-2), 2) := kd_dj1 kd_o16 (w := 254) kd_ncX9_regular rfl rfl
theorem dX9_regular_19 : decode cX9_regular 19 = .ok (.istore_n 3, 1) := kd_dk0 kd_o62 kd_ncX9_regular rfl
theorem dX9_regular_20 : decode cX9_regular 20 = .ok (.iconst 0, 1) := kd_dk0 kd_o3 kd_ncX9_regular rfl
theorem dX9_regular_21 : decode cX9_regular 21 = .ok (.istore 4, 2) := kd_dk1 kd_o54 kd_ncX9_regular rfl
theorem dX9_regular_23 : decode cX9_regular 23 = .ok (.iconst 0, 1) := kd_dk0 kd_o3 kd_ncX9_regular rfl
theorem dX9_regular_24 : decode cX9_regular 24 = .ok (.istore 5, 2) := kd_dk1 kd_o54 kd_ncX9_regular rfl
theorem dX9_regular_26 : decode cX9_regular 26 = .ok (.iload 5, 2) := kd_dk1 kd_o21 kd_ncX9_regular rfl
theorem dX9_regular_28 : decode cX9_regular 28 = .ok (.aload_n 0, 1) := kd_dk0 kd_o42 kd_ncX9_regular rfl
theorem dX9_regular_29 : decode cX9_regular 29 = .ok (.getfield 30, 3) := kd_dk2 kd_o180 kd_ncX9_regular rfl
theorem dX9_regular_32 : decode cX9_regular 32 = .ok (.getfield 105, 3) := kd_dk2 kd_o180 kd_ncX9_regular rfl
theorem dX9_regular_35 : decode cX9_regular 35 = .ok (.if_icmp .ge 39, 3) := kd_dj2 kd_o162 (w := 39) kd_ncX9_regular rfl rfl
theorem dX9_regular_38 : decode cX9_regular 38 = .ok (.aload_n 0, 1) := kd_dk0 kd_o42 kd_ncX9_regular rfl
theorem dX9_regular_39 : decode cX9_regular 39 = .ok (.getfield 40, 3) := kd_dk2 kd_o180 kd_ncX9_regular rfl
theorem dX9_regular_42 : decode cX9_regular 42 = .ok (.iload 5, 2) := kd_dk1 kd_o21 kd_ncX9_regular rfl
theorem dX9_regular_44 : decode cX9_regular 44 = .ok (.iload_n 1, 1) := kd_dk0 kd_o27 kd_ncX9_regular rfl
theorem dX9_regular_45 : decode cX9_regular 45 = .ok (.invokevirtual 151, 3) := kd_dk2 kd_o182 kd_ncX9_regular rfl
theorem dX9_regular_48 : decode cX9_regular 48 = .ok (.iload 4, 2) := kd_dk1 kd_o21 kd_ncX9_regular rfl
theorem dX9_regular_50 : decode cX9_regular 50 = .ok (.if_icmp .le 18, 3) := kd_dj2 kd_o164 (w := 18) kd_ncX9_regular rfl rfl
theorem dX9_regular_53 : decode cX9_regular 53 = .ok (.aload_n 0, 1) := kd_dk0 kd_o42 kd_ncX9_regular rfl
theorem dX9_regular_54 : decode cX9_regular 54 = .ok (.getfield 40, 3) := kd_dk2 kd_o180 kd_ncX9_regular rfl
theorem dX9_regular_57 : decode cX9_regular 57 = .ok (.iload 5, 2) := kd_dk1 kd_o21 kd_ncX9_regular rfl
theorem dX9_regular_59 : decode cX9_regular 59 = .ok (.iload_n 1, 1) := kd_dk0 kd_o27 kd_ncX9_regular rfl
theorem dX9_regular_60 : decode cX9_regular 60 = .ok (.invokevirtual 151, 3) := kd_dk2 kd_o182 kd_ncX9_regular rfl
theorem dX9_regular_63 : decode cX9_regular 63 = .ok (.istore 4, 2) := kd_dk1 kd_o54 kd_ncX9_regular rfl
theorem dX9_regular_65 : decode cX9_regular 65 = .ok (.iload 5, 2) := kd_dk1 kd_o21 kd_ncX9_regular rfl
theorem dX9_regular_67 : decode cX9_regular 67 = .ok (.istore_n 3, 1) := kd_dk0 kd_o62 kd_ncX9_regular rfl
theorem dX9_regular_68 : decode cX9_regular 68 = .ok (.iinc 5 1, 3) := kd_dji kd_o132 (w := 1) kd_ncX9_regular rfl rfl
theorem dX9_regular_71 : decode cX9_regular 71 = .ok (.goto (-45), 3) := kd_dj2 kd_o167 (w := 65491) kd_ncX9_regular rfl rfl
theorem dX9_regular_74 : decode cX9_regular 74 = .ok (.iload_n 2, 1) := kd_dk0 kd_o28 kd_ncX9_regular rfl
theorem dX9_regular_75 : decode cX9_regular 75 = .ok (.ifCond .eq 9, 3) := kd_dj2 kd_o153 (w := 9) kd_ncX9_regular rfl rfl
theorem dX9_regular_78 : decode cX9_regular 78 = .ok (.iload_n 3, 1) := kd_dk0 kd_o29 kd_ncX9_regular rfl
theorem dX9_regular_79 : decode cX9_regular 79 = .ok (.bipush (-2), 2) := kd_dj1 kd_o16 (w := 254) kd_ncX9_regular rfl rfl
theorem dX9_regular_81 : decode cX9_regular 81 = .ok (.if_icmp .ne 7, 3) := kd_dj2 kd_o160 (w := 7) kd_ncX9_regular rfl rfl
theorem dX9_regular_84 : decode cX9_regular 84 = .ok (.iload_n 3, 1) := kd_dk0 kd_o29 kd_ncX9_regular rfl
theorem dX9_regular_85 : decode cX9_regular 85 = .ok (.goto 5, 3) := kd_dj2 kd_o167 (w := 5) kd_ncX9_regular rfl rfl
theorem dX9_regular_88 : decode cX9_regular 88 = .ok (.iload 4, 2) := kd_dk1 kd_o21 kd_ncX9_regular rfl
theorem dX9_regular_90 : decode cX9_regular 90 = .ok (.ireturn, 1) := kd_dk0 kd_o172 kd_ncX9_regular rfl
set_option maxHeartbeats 8000000 in
set_option maxRecDepth 100000 in
theorem c_g_regular (l : Launch) (G : zz_G) (ob0 : Nat) (ut : Nat) (uf1 : Int32) (h1 : Nat) (uf3 : Int32) (sc : Nat) (dr0 : Nat) (k0 : Nat) (my0 : Nat) (c0 : Nat) (ga : Nat) (pa0 : Nat) (t0 : Nat) (sl0 : Nat) (hd0 : Nat) (s1 : Nat) (s2 : Nat) (s3 : Nat) (s4 : Nat) (s5 : Nat) (s6 : Nat) (s7 : Nat) (s8 : Nat) (s9 : Nat) (pp : Nat) (pq : Nat) (i3 : Int32) (i4 : Int32) (b1 : Nat) (b2 : Nat) (b3 : Nat) (b4 : Nat) (e1 : Nat → Int32) (e2 : Nat → Int32) (e3 : Nat → Int32) (e4 : Nat → Int32) (o1 : Int32) (o2 : Int32) (o3 : Int32) (ar1 : Int32) (ar2 : Int32) (hpp : pp ≤ 7) (hpq : pq ≤ 6) : zz_M l G mX9_regular 1 0 0 [.ref ob0, .int ar1, .int ar2] [(ob0, .inr (9, [.ref ut, .int uf1, .ref h1, .int uf3, .ref sc, .ref dr0, .ref k0, .ref my0, .ref c0, .ref ga, .ref pa0, .ref t0, .ref sl0, .ref hd0])), (sc, .inr (5, [.ref s1, .ref s2, .ref s3, .ref s4, .ref s5, .ref s6, .ref s7, .ref s8, .ref s9, .int (nI pp), .int (nI pq), .int i3, .int i4])), (k0, .inr (6, [.ref b1, .ref b2, .ref b3, .ref b4, .int o1, .int o2, .int o3])), (b1, .inl (G.2 0, 7, .inl e1)), (b2, .inl (G.2 0, 6, .inl e2)), (b3, .inl (G.2 0, 7, .inl e3)), (b4, .inl (G.2 0, 42, .inl e4))] (fun rr u => ∃ (rv : Int32), rr = some (.int rv) ∧ u = [(ob0, .inr (9, [.ref ut, .int uf1, .ref h1, .int uf3, .ref sc, .ref dr0, .ref k0, .ref my0, .ref c0, .ref ga, .ref pa0, .ref t0, .ref sl0, .ref hd0])), (sc, .inr (5, [.ref s1, .ref s2, .ref s3, .ref s4, .ref s5, .ref s6, .ref s7, .ref s8, .ref s9, .int (nI pp), .int (nI pq), .int i3, .int i4])), (k0, .inr (6, [.ref b1, .ref b2, .ref b3, .ref b4, .int o1, .int o2, .int o3])), (b1, .inl (G.2 0, 7, .inl e1)), (b2, .inl (G.2 0, 6, .inl e2)), (b3, .inl (G.2 0, 7, .inl e3)), (b4, .inl (G.2 0, 42, .inl e4))] ∧ (zA (zz_In pq ar1 ∧ zz_In 2 ar2) (∃ a : Nat, a < pq ∧ ar1 = nI a ∧ rv = zP2 ar2 (zB (-2, 0) (fun p => e4 (p * 6 + a)) pp)) rv (-1))) := by
  refine zz_enteri (by decide +kernel) (Nat.le_of_ble_eq_true rfl) ?_
  intro p e s m args below meth c A Q ls S hnm hret hw hl
  have hl : lv_has ls 6 [(0, .ref ob0), (1, .int ar1), (2, .int ar2)] := hl
  have hx := S.1
  have hb := S.2.1
  refine lv_aload_n hx hb dX9_regular_0 rfl (lv_at hl 0 rfl) ?_
  refine lv_iload_n hx hb dX9_regular_1 rfl (lv_at hl 1 rfl) ?_
  refine zz_callV (qb := 0) (As := [.int ar1]) (rest := []) (wr := [(k0, .inr (6, [.ref b1, .ref b2, .ref b3, .ref b4, .int o1, .int o2, .int o3])), (b1, .inl (G.2 0, 7, .inl e1)), (b2, .inl (G.2 0, 6, .inl e2)), (b3, .inl (G.2 0, 7, .inl e3)), (b4, .inl (G.2 0, 42, .inl e4))]) S hw hl.1 lX9_154 (c_g_isPart l G ob0 ut uf1 h1 uf3 sc dr0 k0 my0 c0 ga pa0 t0 sl0 hd0 s1 s2 s3 s4 s5 s6 s7 s8 s9 pp pq i3 i4 ar1 (by first | assumption | omega | exact Or.inr ⟨_, by omega, rfl⟩ | (unfold zz_sok; decide) | decide | exact (fun j hj => (hv7 j hj).1)) (by first | assumption | omega | exact Or.inr ⟨_, by omega, rfl⟩ | (unfold zz_sok; decide) | decide | exact (fun j hj => (hv7 j hj).1))) ⟨Nat.le_of_ble_eq_true rfl, Nat.le_of_ble_eq_true rfl⟩ ⟨Nat.le_of_ble_eq_true rfl, Nat.le_of_ble_eq_true rfl⟩ [0, 1] [2, 3, 4, 5, 6] (by decide) rfl rfl (by decide) (by decide) rfl rfl rfl rfl (Nat.le_of_ble_eq_true rfl) dX9_regular_2 ?_
  clear hw
  intro rr u H locs hp hw
  refine hp.elim fun rv_1 zg0 => zg0.elim fun zee1 zg1 => zg1.elim fun zee2 zg2 => zg2.elim fun hq2_0 hq2_1 => ?_
  clear hp zg0 zg1 zg2
  subst zee1
  subst zee2
  replace hw : zz_w G A s [(k0, .inr (6, [.ref b1, .ref b2, .ref b3, .ref b4, .int o1, .int o2, .int o3])), (b1, .inl (G.2 0, 7, .inl e1)), (b2, .inl (G.2 0, 6, .inl e2)), (b3, .inl (G.2 0, 7, .inl e3)), (b4, .inl (G.2 0, 42, .inl e4)), (ob0, .inr (9, [.ref ut, .int uf1, .ref h1, .int uf3, .ref sc, .ref dr0, .ref k0, .ref my0, .ref c0, .ref ga, .ref pa0, .ref t0, .ref sl0, .ref hd0])), (sc, .inr (5, [.ref s1, .ref s2, .ref s3, .ref s4, .ref s5, .ref s6, .ref s7, .ref s8, .ref s9, .int (nI pp), .int (nI pq), .int i3, .int i4]))] H _ := hw
  refine W.eq (g2 := F0 m 5 ls [.int rv_1]) rfl ?_
  refine lv_if_eq (tgt := 15) hx hb dX9_regular_5 (by decide) (fun c5_2 => ?_) (fun c5_2 => ?_)
  · skip
    refine lv_iconst (v := (-1)) hx hb dX9_regular_15 (by decide) ?_
    exact hret _ _ _ _ _ _ ⟨(-1), rfl, rfl, (by first | exact zA0 (fun z => hq2_1 (by assumption) z.1) | exact zA0 (fun z => zA_Tn hq9_1 (by assumption) z.2) | exact zA1 ⟨⟨_, by assumption, rfl⟩, zA_Ti hq9_1 (by assumption)⟩ ⟨_, by assumption, rfl, zP2_0 (zB_e hdry (by omega)) (Or.inl (by assumption))⟩ | exact zA1 ⟨⟨_, by assumption, rfl⟩, zA_Ti hq9_1 (by assumption)⟩ ⟨_, by assumption, rfl, zP2_1 (zB_e hdry (by omega)) (by assumption) (by assumption)⟩ | exact zA1 ⟨⟨_, by assumption, rfl⟩, zA_Ti hq9_1 (by assumption)⟩ ⟨_, by assumption, rfl, zP2_0 (zB_e hdry (by omega)) (Or.inr (by assumption))⟩)⟩ (hw.sub [5, 6, 0, 1, 2, 3, 4] (by decide) rfl) rfl dX9_regular_16
  · skip
    obtain ⟨vq3, hvq3, rfl⟩ := hq2_0.resolve_left c5_2
    refine lv_iload_n hx hb dX9_regular_8 rfl (lv_at hl 2 rfl) ?_
    refine zz_callS (As := [.int ar2]) (rest := []) (wr := [(k0, .inr (6, [.ref b1, .ref b2, .ref b3, .ref b4, .int o1, .int o2, .int o3])), (b1, .inl (G.2 0, 7, .inl e1)), (b2, .inl (G.2 0, 6, .inl e2)), (b3, .inl (G.2 0, 7, .inl e3)), (b4, .inl (G.2 0, 42, .inl e4)), (ob0, .inr (9, [.ref ut, .int uf1, .ref h1, .int uf3, .ref sc, .ref dr0, .ref k0, .ref my0, .ref c0, .ref ga, .ref pa0, .ref t0, .ref sl0, .ref hd0])), (sc, .inr (5, [.ref s1, .ref s2, .ref s3, .ref s4, .ref s5, .ref s6, .ref s7, .ref s8, .ref s9, .int (nI pp), .int (nI pq), .int i3, .int i4]))]) S hw hl.1 lX9_210 (c_g_isOneOfTwo l G ar2) ⟨Nat.le_of_ble_eq_true rfl, Nat.le_of_ble_eq_true rfl⟩ ⟨Nat.le_of_ble_eq_true rfl, Nat.le_of_ble_eq_true rfl⟩ [] [0, 1, 2, 3, 4, 5, 6] (by decide) rfl rfl (by decide) (by decide) rfl rfl (Nat.le_of_ble_eq_true rfl) dX9_regular_9 ?_
    clear hw
    intro rr u H locs hp hw
    refine hp.elim fun rv_4 zg0 => zg0.elim fun zee1 zg1 => zg1.elim fun zee2 zg2 => zg2.elim fun hq9_0 hq9_1 => ?_
    clear hp zg0 zg1 zg2
    subst zee1
    subst zee2
    replace hw : zz_w G A s [(k0, .inr (6, [.ref b1, .ref b2, .ref b3, .ref b4, .int o1, .int o2, .int o3])), (b1, .inl (G.2 0, 7, .inl e1)), (b2, .inl (G.2 0, 6, .inl e2)), (b3, .inl (G.2 0, 7, .inl e3)), (b4, .inl (G.2 0, 42, .inl e4)), (ob0, .inr (9, [.ref ut, .int uf1, .ref h1, .int uf3, .ref sc, .ref dr0, .ref k0, .ref my0, .ref c0, .ref ga, .ref pa0, .ref t0, .ref sl0, .ref hd0])), (sc, .inr (5, [.ref s1, .ref s2, .ref s3, .ref s4, .ref s5, .ref s6, .ref s7, .ref s8, .ref s9, .int (nI pp), .int (nI pq), .int i3, .int i4]))] H _ := hw
    refine W.eq (g2 := F0 m 12 ls [.int rv_4]) rfl ?_
    refine lv_if_ne (tgt := 17) hx hb dX9_regular_12 (by decide) (fun c12_5 => ?_) (fun c12_5 => ?_)
    · skip
      refine lv_bipush (v := (-2)) hx hb dX9_regular_17 (by decide) ?_
      refine lv_istore_n (lv' := [(3, .int (-2)), (0, .ref ob0), (1, .int (nI vq3)), (2, .int ar2)]) hx hb dX9_regular_19 rfl hl (by decide) rfl (fun ls hl => ?_)
      refine lv_iconst (v := 0) hx hb dX9_regular_20 (by decide) ?_
      refine lv_istore (lv' := [(4, .int 0), (3, .int (-2)), (0, .ref ob0), (1, .int (nI vq3)), (2, .int ar2)]) hx hb dX9_regular_21 hl (by decide) rfl (fun ls hl => ?_)
      refine lv_iconst (v := 0) hx hb dX9_regular_23 (by decide) ?_
      refine lv_istore (lv' := [(5, .int 0), (4, .int 0), (3, .int (-2)), (0, .ref ob0), (1, .int (nI vq3)), (2, .int ar2)]) hx hb dX9_regular_24 hl (by decide) rfl (fun ls hl => ?_)
      have lp26_25 : ∀ (vn7 vi6 : Nat) (vy16 : Int32) (vy17 : Int32) (H : Heap) (locs : List Loc) (ls : Array Slot), vi6 ≤ pp → pp < vi6 + vn7 → (vy17, vy16) = zB (-2, 0) (fun p => e4 (p * 6 + vq3)) vi6 → zz_w G A s [(k0, .inr (6, [.ref b1, .ref b2, .ref b3, .ref b4, .int o1, .int o2, .int o3])), (b1, .inl (G.2 0, 7, .inl e1)), (b2, .inl (G.2 0, 6, .inl e2)), (b3, .inl (G.2 0, 7, .inl e3)), (b4, .inl (G.2 0, 42, .inl e4)), (ob0, .inr (9, [.ref ut, .int uf1, .ref h1, .int uf3, .ref sc, .ref dr0, .ref k0, .ref my0, .ref c0, .ref ga, .ref pa0, .ref t0, .ref sl0, .ref hd0])), (sc, .inr (5, [.ref s1, .ref s2, .ref s3, .ref s4, .ref s5, .ref s6, .ref s7, .ref s8, .ref s9, .int (nI pp), .int (nI pq), .int i3, .int i4]))] H locs → lv_has ls 6 [(5, .int (nI vi6)), (4, .int vy16), (3, .int vy17), (0, .ref ob0), (1, .int (nI vq3)), (2, .int ar2)] → W p l e (zz_rm 1 0 0) s m args below meth c H locs (0) (0) Q (F0 m 26 ls []) := by
        intro vn7
        induction vn7 with
        | zero => intro vi6 vy16 vy17 H locs ls hi1 hi2; exact absurd hi2 (by omega)
        | succ vn7 ih26 =>
          intro vi6 vy16 vy17 H locs ls hi26a hi26b hv26_24 hw hl
          refine lv_iload hx hb dX9_regular_26 (lv_at hl 0 rfl) ?_
          refine lv_aload_n hx hb dX9_regular_28 rfl (lv_at hl 3 rfl) ?_
          refine W.eq (g2 := F0 m 29 ls [.ref ob0, .int (nI vi6)]) rfl ?_
          refine zz_get (v := .ref sc) S hw fgX9_30 5 rfl rfl dX9_regular_29 ?_
          refine zz_get (v := .int (nI pp)) S hw fgX9_105 6 rfl rfl dX9_regular_32 ?_
          refine lv_icmp_ge (tgt := 74) hx hb dX9_regular_35 (by decide) (fun c35_26 => ?_) (fun c35_26 => ?_)
          · skip
            have c35_26n : pp ≤ vi6 := (zz_le (a := pp) (b := vi6) rfl rfl (by omega) (by omega)).mp c35_26
            refine lv_iload_n hx hb dX9_regular_74 rfl (lv_at hl 5 rfl) ?_
            refine lv_if_eq (tgt := 84) hx hb dX9_regular_75 (by decide) (fun c75_27 => ?_) (fun c75_27 => ?_)
            · skip
              refine lv_iload_n hx hb dX9_regular_84 rfl (lv_at hl 2 rfl) ?_
              refine lv_goto (tgt := 90) hx hb dX9_regular_85 (by decide) ?_
              exact hret _ _ _ _ _ _ ⟨vy17, rfl, rfl, (by first | exact zA0 (fun z => hq2_1 (by assumption) z.1) | exact zA0 (fun z => zA_Tn hq9_1 (by assumption) z.2) | exact zA1 ⟨⟨_, by assumption, rfl⟩, zA_Ti hq9_1 (by assumption)⟩ ⟨_, by assumption, rfl, zP2_0 (zB_e hv26_24 (by omega)) (Or.inl (by assumption))⟩ | exact zA1 ⟨⟨_, by assumption, rfl⟩, zA_Ti hq9_1 (by assumption)⟩ ⟨_, by assumption, rfl, zP2_1 (zB_e hv26_24 (by omega)) (by assumption) (by assumption)⟩ | exact zA1 ⟨⟨_, by assumption, rfl⟩, zA_Ti hq9_1 (by assumption)⟩ ⟨_, by assumption, rfl, zP2_0 (zB_e hv26_24 (by omega)) (Or.inr (by assumption))⟩)⟩ (hw.sub [5, 6, 0, 1, 2, 3, 4] (by decide) rfl) rfl dX9_regular_90
            · skip
              refine lv_iload_n hx hb dX9_regular_78 rfl (lv_at hl 2 rfl) ?_
              refine lv_bipush (v := (-2)) hx hb dX9_regular_79 (by decide) ?_
              refine lv_icmp_ne (tgt := 88) hx hb dX9_regular_81 (by decide) (fun c81_28 => ?_) (fun c81_28 => ?_)
              · skip
                refine lv_iload hx hb dX9_regular_88 (lv_at hl 1 rfl) ?_
                exact hret _ _ _ _ _ _ ⟨vy16, rfl, rfl, (by first | exact zA0 (fun z => hq2_1 (by assumption) z.1) | exact zA0 (fun z => zA_Tn hq9_1 (by assumption) z.2) | exact zA1 ⟨⟨_, by assumption, rfl⟩, zA_Ti hq9_1 (by assumption)⟩ ⟨_, by assumption, rfl, zP2_0 (zB_e hv26_24 (by omega)) (Or.inl (by assumption))⟩ | exact zA1 ⟨⟨_, by assumption, rfl⟩, zA_Ti hq9_1 (by assumption)⟩ ⟨_, by assumption, rfl, zP2_1 (zB_e hv26_24 (by omega)) (by assumption) (by assumption)⟩ | exact zA1 ⟨⟨_, by assumption, rfl⟩, zA_Ti hq9_1 (by assumption)⟩ ⟨_, by assumption, rfl, zP2_0 (zB_e hv26_24 (by omega)) (Or.inr (by assumption))⟩)⟩ (hw.sub [5, 6, 0, 1, 2, 3, 4] (by decide) rfl) rfl dX9_regular_90
              · skip
                refine lv_iload_n hx hb dX9_regular_84 rfl (lv_at hl 2 rfl) ?_
                refine lv_goto (tgt := 90) hx hb dX9_regular_85 (by decide) ?_
                exact hret _ _ _ _ _ _ ⟨vy17, rfl, rfl, (by first | exact zA0 (fun z => hq2_1 (by assumption) z.1) | exact zA0 (fun z => zA_Tn hq9_1 (by assumption) z.2) | exact zA1 ⟨⟨_, by assumption, rfl⟩, zA_Ti hq9_1 (by assumption)⟩ ⟨_, by assumption, rfl, zP2_0 (zB_e hv26_24 (by omega)) (Or.inl (by assumption))⟩ | exact zA1 ⟨⟨_, by assumption, rfl⟩, zA_Ti hq9_1 (by assumption)⟩ ⟨_, by assumption, rfl, zP2_1 (zB_e hv26_24 (by omega)) (by assumption) (by assumption)⟩ | exact zA1 ⟨⟨_, by assumption, rfl⟩, zA_Ti hq9_1 (by assumption)⟩ ⟨_, by assumption, rfl, zP2_0 (zB_e hv26_24 (by omega)) (Or.inr (by assumption))⟩)⟩ (hw.sub [5, 6, 0, 1, 2, 3, 4] (by decide) rfl) rfl dX9_regular_90
          · skip
            have c35_26n : ¬ (pp ≤ vi6) := fun z => c35_26 ((zz_le (a := pp) (b := vi6) rfl rfl (by omega) (by omega)).mpr z)
            refine lv_aload_n hx hb dX9_regular_38 rfl (lv_at hl 3 rfl) ?_
            refine zz_get (v := .ref k0) S hw fgX9_40 5 rfl rfl dX9_regular_39 ?_
            refine lv_iload hx hb dX9_regular_42 (lv_at hl 0 rfl) ?_
            refine lv_iload_n hx hb dX9_regular_44 rfl (lv_at hl 4 rfl) ?_
            refine W.eq (g2 := F0 m 45 ls [.int (nI vq3), .int (nI vi6), .ref k0]) rfl ?_
            refine zz_callV (qb := 0) (As := [.int (nI vi6), .int (nI vq3)]) (rest := []) (wr := [(b1, .inl (G.2 0, 7, .inl e1)), (b2, .inl (G.2 0, 6, .inl e2)), (b3, .inl (G.2 0, 7, .inl e3)), (ob0, .inr (9, [.ref ut, .int uf1, .ref h1, .int uf3, .ref sc, .ref dr0, .ref k0, .ref my0, .ref c0, .ref ga, .ref pa0, .ref t0, .ref sl0, .ref hd0])), (sc, .inr (5, [.ref s1, .ref s2, .ref s3, .ref s4, .ref s5, .ref s6, .ref s7, .ref s8, .ref s9, .int (nI pp), .int (nI pq), .int i3, .int i4]))]) S hw hl.1 lX9_151 (c_gseenAs l G k0 b1 b2 b3 b4 e4 o1 o2 o3 vi6 vq3 (by first | assumption | omega | exact Or.inr ⟨_, by omega, rfl⟩ | (unfold zz_sok; decide) | decide | exact (fun j hj => (hv7 j hj).1)) (by first | assumption | omega | exact Or.inr ⟨_, by omega, rfl⟩ | (unfold zz_sok; decide) | decide | exact (fun j hj => (hv7 j hj).1))) ⟨Nat.le_of_ble_eq_true rfl, Nat.le_of_ble_eq_true rfl⟩ ⟨Nat.le_of_ble_eq_true rfl, Nat.le_of_ble_eq_true rfl⟩ [0, 4] [1, 2, 3, 5, 6] (by decide) rfl rfl (by decide) (by decide) rfl rfl rfl rfl (Nat.le_of_ble_eq_true rfl) dX9_regular_45 ?_
            clear hw
            intro rr u H locs hp hw
            refine hp.elim fun rv_29 zg0 => zg0.elim fun zee1 zg1 => zg1.elim fun zee2 hq45_0 => ?_
            clear hp zg0 zg1
            subst zee1
            subst zee2
            replace hw : zz_w G A s [(b1, .inl (G.2 0, 7, .inl e1)), (b2, .inl (G.2 0, 6, .inl e2)), (b3, .inl (G.2 0, 7, .inl e3)), (ob0, .inr (9, [.ref ut, .int uf1, .ref h1, .int uf3, .ref sc, .ref dr0, .ref k0, .ref my0, .ref c0, .ref ga, .ref pa0, .ref t0, .ref sl0, .ref hd0])), (sc, .inr (5, [.ref s1, .ref s2, .ref s3, .ref s4, .ref s5, .ref s6, .ref s7, .ref s8, .ref s9, .int (nI pp), .int (nI pq), .int i3, .int i4])), (k0, .inr (6, [.ref b1, .ref b2, .ref b3, .ref b4, .int o1, .int o2, .int o3])), (b4, .inl (G.2 0, 42, .inl e4))] H _ := hw
            refine W.eq (g2 := F0 m 48 ls [.int rv_29]) rfl ?_
            refine lv_iload hx hb dX9_regular_48 (lv_at hl 1 rfl) ?_
            refine lv_icmp_le (tgt := 68) hx hb dX9_regular_50 (by decide) (fun c50_30 => ?_) (fun c50_30 => ?_)
            · skip
              refine lv_iinc (v := (nI (vi6 + 1))) (lv' := [(5, .int (nI (vi6 + 1))), (4, .int vy16), (3, .int vy17), (0, .ref ob0), (1, .int (nI vq3)), (2, .int ar2)]) hx hb dX9_regular_68 hl (k := 0) rfl (nI_add _ 1) (by decide) rfl (fun ls hl => ?_)
              refine lv_goto (tgt := 26) hx hb dX9_regular_71 (by decide) ?_
              exact ih26 (vi6 + 1) vy16 vy17 _ _ _ (by omega) (by omega) (by first | exact zB_y2 hv26_24 hq45_0 hq60_0 (by first | assumption | exact Int32.not_le.mp (by assumption)) | exact zB_n hv26_24 hq45_0 (by first | assumption | exact Int32.not_lt.mpr (by assumption))) (hw.sub [5, 0, 1, 2, 6, 3, 4] (by decide) rfl) (lv_sub hl [0, 1, 2, 3, 4, 5] rfl)
            · skip
              refine lv_aload_n hx hb dX9_regular_53 rfl (lv_at hl 3 rfl) ?_
              refine zz_get (v := .ref k0) S hw fgX9_40 3 rfl rfl dX9_regular_54 ?_
              refine lv_iload hx hb dX9_regular_57 (lv_at hl 0 rfl) ?_
              refine lv_iload_n hx hb dX9_regular_59 rfl (lv_at hl 4 rfl) ?_
              refine zz_callV (qb := 5) (As := [.int (nI vi6), .int (nI vq3)]) (rest := []) (wr := [(b1, .inl (G.2 0, 7, .inl e1)), (b2, .inl (G.2 0, 6, .inl e2)), (b3, .inl (G.2 0, 7, .inl e3)), (ob0, .inr (9, [.ref ut, .int uf1, .ref h1, .int uf3, .ref sc, .ref dr0, .ref k0, .ref my0, .ref c0, .ref ga, .ref pa0, .ref t0, .ref sl0, .ref hd0])), (sc, .inr (5, [.ref s1, .ref s2, .ref s3, .ref s4, .ref s5, .ref s6, .ref s7, .ref s8, .ref s9, .int (nI pp), .int (nI pq), .int i3, .int i4]))]) S hw hl.1 lX9_151 (c_gseenAs l G k0 b1 b2 b3 b4 e4 o1 o2 o3 vi6 vq3 (by first | assumption | omega | exact Or.inr ⟨_, by omega, rfl⟩ | (unfold zz_sok; decide) | decide | exact (fun j hj => (hv7 j hj).1)) (by first | assumption | omega | exact Or.inr ⟨_, by omega, rfl⟩ | (unfold zz_sok; decide) | decide | exact (fun j hj => (hv7 j hj).1))) ⟨Nat.le_of_ble_eq_true rfl, Nat.le_of_ble_eq_true rfl⟩ ⟨Nat.le_of_ble_eq_true rfl, Nat.le_of_ble_eq_true rfl⟩ [5, 6] [0, 1, 2, 3, 4] (by decide) rfl rfl (by decide) (by decide) rfl rfl rfl rfl (Nat.le_of_ble_eq_true rfl) dX9_regular_60 ?_
              clear hw
              intro rr u H locs hp hw
              refine hp.elim fun rv_31 zg0 => zg0.elim fun zee1 zg1 => zg1.elim fun zee2 hq60_0 => ?_
              clear hp zg0 zg1
              subst zee1
              subst zee2
              replace hw : zz_w G A s [(b1, .inl (G.2 0, 7, .inl e1)), (b2, .inl (G.2 0, 6, .inl e2)), (b3, .inl (G.2 0, 7, .inl e3)), (ob0, .inr (9, [.ref ut, .int uf1, .ref h1, .int uf3, .ref sc, .ref dr0, .ref k0, .ref my0, .ref c0, .ref ga, .ref pa0, .ref t0, .ref sl0, .ref hd0])), (sc, .inr (5, [.ref s1, .ref s2, .ref s3, .ref s4, .ref s5, .ref s6, .ref s7, .ref s8, .ref s9, .int (nI pp), .int (nI pq), .int i3, .int i4])), (k0, .inr (6, [.ref b1, .ref b2, .ref b3, .ref b4, .int o1, .int o2, .int o3])), (b4, .inl (G.2 0, 42, .inl e4))] H _ := hw
              refine W.eq (g2 := F0 m 63 ls [.int rv_31]) rfl ?_
              refine lv_istore (lv' := [(4, .int rv_31), (5, .int (nI vi6)), (3, .int vy17), (0, .ref ob0), (1, .int (nI vq3)), (2, .int ar2)]) hx hb dX9_regular_63 hl (by decide) rfl (fun ls hl => ?_)
              refine lv_iload hx hb dX9_regular_65 (lv_at hl 1 rfl) ?_
              refine lv_istore_n (lv' := [(3, .int (nI vi6)), (4, .int rv_31), (5, .int (nI vi6)), (0, .ref ob0), (1, .int (nI vq3)), (2, .int ar2)]) hx hb dX9_regular_67 rfl hl (by decide) rfl (fun ls hl => ?_)
              refine lv_iinc (v := (nI (vi6 + 1))) (lv' := [(5, .int (nI (vi6 + 1))), (3, .int (nI vi6)), (4, .int rv_31), (0, .ref ob0), (1, .int (nI vq3)), (2, .int ar2)]) hx hb dX9_regular_68 hl (k := 2) rfl (nI_add _ 1) (by decide) rfl (fun ls hl => ?_)
              refine lv_goto (tgt := 26) hx hb dX9_regular_71 (by decide) ?_
              refine W.eq (g2 := F0 m 26 ls []) rfl ?_
              exact ih26 (vi6 + 1) rv_31 (nI vi6) _ _ _ (by omega) (by omega) (by first | exact zB_y2 hv26_24 hq45_0 hq60_0 (by first | assumption | exact Int32.not_le.mp (by assumption)) | exact zB_n hv26_24 hq45_0 (by first | assumption | exact Int32.not_lt.mpr (by assumption))) (hw.sub [5, 0, 1, 2, 6, 3, 4] (by decide) rfl) (lv_sub hl [0, 2, 1, 3, 4, 5] rfl)
      exact lp26_25 (pp + 1 - 0) 0 0 (-2) _ _ _ (by omega) (by omega) rfl hw (lv_sub hl [0, 1, 2, 3, 4, 5] rfl)
    · skip
      refine lv_iconst (v := (-1)) hx hb dX9_regular_15 (by decide) ?_
      exact hret _ _ _ _ _ _ ⟨(-1), rfl, rfl, (by first | exact zA0 (fun z => hq2_1 (by assumption) z.1) | exact zA0 (fun z => zA_Tn hq9_1 (by assumption) z.2) | exact zA1 ⟨⟨_, by assumption, rfl⟩, zA_Ti hq9_1 (by assumption)⟩ ⟨_, by assumption, rfl, zP2_0 (zB_e hdry (by omega)) (Or.inl (by assumption))⟩ | exact zA1 ⟨⟨_, by assumption, rfl⟩, zA_Ti hq9_1 (by assumption)⟩ ⟨_, by assumption, rfl, zP2_1 (zB_e hdry (by omega)) (by assumption) (by assumption)⟩ | exact zA1 ⟨⟨_, by assumption, rfl⟩, zA_Ti hq9_1 (by assumption)⟩ ⟨_, by assumption, rfl, zP2_0 (zB_e hdry (by omega)) (Or.inr (by assumption))⟩)⟩ (hw.sub [5, 6, 0, 1, 2, 3, 4] (by decide) rfl) rfl dX9_regular_16
theorem kd_ncX9_settles : kd_ck 8240339860028863716594909988948196397863081057109699957595953991028288891658988583015162860518832435019638893601123495211884548976009455645738 59 cX9_settles.data.toList 0 = true := by decide +kernel
theorem dX9_settles_0 : decode cX9_settles 0 = .ok (.aload_n 0, 1) := kd_dk0 kd_o42 kd_ncX9_settles rfl
theorem dX9_settles_1 : decode cX9_settles 1 = .ok (.getfield 44, 3) := kd_dk2 kd_o180 kd_ncX9_settles rfl
theorem dX9_settles_4 : decode cX9_settles 4 = .ok (.aload_n 0, 1) := kd_dk0 kd_o42 kd_ncX9_settles rfl
theorem dX9_settles_5 : decode cX9_settles 5 = .ok (.getfield 40, 3) := kd_dk2 kd_o180 kd_ncX9_settles rfl
theorem dX9_settles_8 : decode cX9_settles 8 = .ok (.invokevirtual 244, 3) := kd_dk2 kd_o182 kd_ncX9_settles rfl
theorem dX9_settles_11 : decode cX9_settles 11 = .ok (.iconst 0, 1) := kd_dk0 kd_o3 kd_ncX9_settles rfl
theorem dX9_settles_12 : decode cX9_settles 12 = .ok (.istore_n 1, 1) := kd_dk0 kd_o60 kd_ncX9_settles rfl
theorem dX9_settles_13 : decode cX9_settles 13 = .ok (.iload_n 1, 1) := kd_dk0 kd_o27 kd_ncX9_settles rfl
theorem dX9_settles_14 : decode cX9_settles 14 = .ok (.bipush 100, 2) := kd_dj1 kd_o16 (w := 100) kd_ncX9_settles rfl rfl
theorem dX9_settles_16 : decode cX9_settles 16 = .ok (.if_icmp .gt 40, 3) := kd_dj2 kd_o163 (w := 40) kd_ncX9_settles rfl rfl
theorem dX9_settles_19 : decode cX9_settles 19 = .ok (.aload_n 0, 1) := kd_dk0 kd_o42 kd_ncX9_settles rfl
theorem dX9_settles_20 : decode cX9_settles 20 = .ok (.getfield 50, 3) := kd_dk2 kd_o180 kd_ncX9_settles rfl
theorem dX9_settles_23 : decode cX9_settles 23 = .ok (.aload_n 0, 1) := kd_dk0 kd_o42 kd_ncX9_settles rfl
theorem dX9_settles_24 : decode cX9_settles 24 = .ok (.getfield 30, 3) := kd_dk2 kd_o180 kd_ncX9_settles rfl
theorem dX9_settles_27 : decode cX9_settles 27 = .ok (.aload_n 0, 1) := kd_dk0 kd_o42 kd_ncX9_settles rfl
theorem dX9_settles_28 : decode cX9_settles 28 = .ok (.getfield 44, 3) := kd_dk2 kd_o180 kd_ncX9_settles rfl
theorem dX9_settles_31 : decode cX9_settles 31 = .ok (.iconst 1, 1) := kd_dk0 kd_o4 kd_ncX9_settles rfl
theorem dX9_settles_32 : decode cX9_settles 32 = .ok (.aload_n 0, 1) := kd_dk0 kd_o42 kd_ncX9_settles rfl
theorem dX9_settles_33 : decode cX9_settles 33 = .ok (.getfield 30, 3) := kd_dk2 kd_o180 kd_ncX9_settles rfl
theorem dX9_settles_36 : decode cX9_settles 36 = .ok (.getfield 190, 3) := kd_dk2 kd_o180 kd_ncX9_settles rfl
theorem dX9_settles_39 : decode cX9_settles 39 = .ok (.iconst 0, 1) := kd_dk0 kd_o3 kd_ncX9_settles rfl
theorem dX9_settles_40 : decode cX9_settles 40 = .ok (.invokevirtual 193, 3) := kd_dk2 kd_o182 kd_ncX9_settles rfl
theorem dX9_settles_43 : decode cX9_settles 43 = .ok (.istore_n 2, 1) := kd_dk0 kd_o61 kd_ncX9_settles rfl
theorem dX9_settles_44 : decode cX9_settles 44 = .ok (.iload_n 2, 1) := kd_dk0 kd_o28 kd_ncX9_settles rfl
theorem dX9_settles_45 : decode cX9_settles 45 = .ok (.ifCond .ne 5, 3) := kd_dj2 kd_o154 (w := 5) kd_ncX9_settles rfl rfl
theorem dX9_settles_48 : decode cX9_settles 48 = .ok (.iload_n 1, 1) := kd_dk0 kd_o27 kd_ncX9_settles rfl
theorem dX9_settles_49 : decode cX9_settles 49 = .ok (.ireturn, 1) := kd_dk0 kd_o172 kd_ncX9_settles rfl
theorem dX9_settles_50 : decode cX9_settles 50 = .ok (.iinc 1 1, 3) := kd_dji kd_o132 (w := 1) kd_ncX9_settles rfl rfl
theorem dX9_settles_53 : decode cX9_settles 53 = .ok (.goto (-40), 3) := kd_dj2 kd_o167 (w := 65496) kd_ncX9_settles rfl rfl
theorem dX9_settles_56 : decode cX9_settles 56 = .ok (.bipush (-2), 2) := kd_dj1 kd_o16 (w := 254) kd_ncX9_settles rfl rfl
theorem dX9_settles_58 : decode cX9_settles 58 = .ok (.ireturn, 1) := kd_dk0 kd_o172 kd_ncX9_settles rfl
set_option maxHeartbeats 8000000 in
set_option maxRecDepth 100000 in
theorem c_g_settles (l : Launch) (G : zz_G) (ob0 : Nat) (ut : Nat) (uf1 : Int32) (h1 : Nat) (uf3 : Int32) (sc : Nat) (dr0 : Nat) (k0 : Nat) (my0 : Nat) (c0 : Nat) (ga : Nat) (pa0 : Nat) (t0 : Nat) (sl0 : Nat) (hd0 : Nat) (s1 : Nat) (s2 : Nat) (s3 : Nat) (s4 : Nat) (s5 : Nat) (s6 : Nat) (s7 : Nat) (s8 : Nat) (s9 : Nat) (w0 : Nat) (w1 : Nat) (w2 : Nat) (w3 : Nat) (x0 : Nat) (x1 : Nat) (x2 : Nat) (x3 : Nat) (x4 : Nat) (x5 : Nat) (x6 : Nat) (x7 : Nat) (x8 : Nat) (x9 : Nat) (x10 : Nat) (x11 : Nat) (pp : Nat) (pq : Nat) (i3 : Int32) (i4 : Int32) (m3 : Nat → Int32) (m4 : Nat → Int32) (m6 : Nat → Int32) (m7 : Nat → Int32) (fc : Nat → Int32) (f0 : Nat → Int32) (g0 : Nat → Int32) (n0 : Nat) (u0 : Nat) (z0_ : Nat → Int32) (f1 : Nat → Int32) (g1 : Nat → Int32) (n1 : Nat) (u1 : Nat) (z1_ : Nat → Int32) (f2 : Nat → Int32) (g2 : Nat → Int32) (n2 : Nat) (u2 : Nat) (z2_ : Nat → Int32) (f3 : Nat → Int32) (g3 : Nat → Int32) (n3 : Nat) (u3 : Nat) (z3_ : Nat → Int32) (m5 : Nat → Int32) (b1 : Nat) (b2 : Nat) (b3 : Nat) (b4 : Nat) (e1 : Nat → Int32) (e2 : Nat → Int32) (e3 : Nat → Int32) (e4 : Nat → Int32) (o1 : Int32) (o2 : Int32) (o3 : Int32) (my1 : Nat) (my2 : Nat) (my3 : Nat) (my4 : Nat) (mf1 : Nat → Int32) (mf2 : Nat → Int32) (mf3 : Nat → Int32) (mf4 : Nat → Int32) (mi1 : Int32) (mi2 : Int32) (mi3 : Int32) (a1 : Nat) (a2 : Nat) (wf : Nat → Int32) (af : Nat → Int32) (fi : Int32) (sd : Int32) (hv0 : zz_lwv f0 g0 n0 u0) (hv1 : zz_lwv f1 g1 n1 u1) (hv2 : zz_lwv f2 g2 n2 u2) (hv3 : zz_lwv f3 g3 n3 u3) (hpp : pp ≤ 7) (hpq : pq ≤ 6) (hw6 : ∀ j, j < 6 → zz_ok 7 (wf j)) (ha7 : ∀ j, j < 7 → zz_ok 6 (af j)) : zz_M l G mX9_settles 7 0 0 [.ref ob0] [(ob0, .inr (9, [.ref ut, .int uf1, .ref h1, .int uf3, .ref sc, .ref dr0, .ref k0, .ref my0, .ref c0, .ref ga, .ref pa0, .ref t0, .ref sl0, .ref hd0])), (sc, .inr (5, [.ref s1, .ref s2, .ref s3, .ref s4, .ref s5, .ref s6, .ref s7, .ref s8, .ref s9, .int (nI pp), .int (nI pq), .int i3, .int i4])), (s3, .inl (G.2 0, 7, .inl m3)), (s4, .inl (G.2 0, 7, .inl m4)), (s6, .inl (G.2 0, 6, .inl m6)), (s7, .inl (G.2 0, 6, .inl m7)), (s9, .inl (G.2 0, 9, .inl fc)), (s8, .inl (G.2 4, 4, .inr (.inr (.inr (.inr (va_up (va_up (va_up (va_up (fun _ => none) 0 (some w0)) 1 (some w1)) 2 (some w2)) 3 (some w3))))))), (w0, .inr (2, [.ref x0, .ref x1, .ref x2, .int (nI n0), .int (nI u0)])), (x0, .inl (G.2 0, 400, .inl f0)), (x1, .inl (G.2 0, 14, .inl g0)), (x2, .inl (G.2 0, 32, .inl z0_)), (w1, .inr (2, [.ref x3, .ref x4, .ref x5, .int (nI n1), .int (nI u1)])), (x3, .inl (G.2 0, 400, .inl f1)), (x4, .inl (G.2 0, 14, .inl g1)), (x5, .inl (G.2 0, 32, .inl z1_)), (w2, .inr (2, [.ref x6, .ref x7, .ref x8, .int (nI n2), .int (nI u2)])), (x6, .inl (G.2 0, 400, .inl f2)), (x7, .inl (G.2 0, 14, .inl g2)), (x8, .inl (G.2 0, 32, .inl z2_)), (w3, .inr (2, [.ref x9, .ref x10, .ref x11, .int (nI n3), .int (nI u3)])), (x9, .inl (G.2 0, 400, .inl f3)), (x10, .inl (G.2 0, 14, .inl g3)), (x11, .inl (G.2 0, 32, .inl z3_)), (s5, .inl (G.2 0, 6, .inl m5)), (k0, .inr (6, [.ref b1, .ref b2, .ref b3, .ref b4, .int o1, .int o2, .int o3])), (b1, .inl (G.2 0, 7, .inl e1)), (b2, .inl (G.2 0, 6, .inl e2)), (b3, .inl (G.2 0, 7, .inl e3)), (b4, .inl (G.2 0, 42, .inl e4)), (my0, .inr (6, [.ref my1, .ref my2, .ref my3, .ref my4, .int mi1, .int mi2, .int mi3])), (my1, .inl (G.2 0, 7, .inl mf1)), (my2, .inl (G.2 0, 6, .inl mf2)), (my3, .inl (G.2 0, 7, .inl mf3)), (my4, .inl (G.2 0, 42, .inl mf4)), (c0, .inr (0, [.ref a1, .ref a2, .int fi, .int sd])), (a1, .inl (G.2 0, 6, .inl wf)), (a2, .inl (G.2 0, 7, .inl af))] (fun rr u => ∃ (rv : Int32), ∃ (fcc : Nat → Int32), ∃ (zz0 : Nat → Int32), ∃ (zz1 : Nat → Int32), ∃ (zz2 : Nat → Int32), ∃ (zz3 : Nat → Int32), ∃ (nf1 : Nat → Int32), ∃ (nf2 : Nat → Int32), ∃ (nf3 : Nat → Int32), ∃ (nf4 : Nat → Int32), ∃ (ni1 : Int32), ∃ (ni2 : Int32), ∃ (ni3 : Int32), ∃ (ww : Nat → Int32), ∃ (aa : Nat → Int32), ∃ (fi2 : Int32), ∃ (sd2 : Int32), rr = some (.int rv) ∧ u = [(ob0, .inr (9, [.ref ut, .int uf1, .ref h1, .int uf3, .ref sc, .ref dr0, .ref k0, .ref my0, .ref c0, .ref ga, .ref pa0, .ref t0, .ref sl0, .ref hd0])), (sc, .inr (5, [.ref s1, .ref s2, .ref s3, .ref s4, .ref s5, .ref s6, .ref s7, .ref s8, .ref s9, .int (nI pp), .int (nI pq), .int i3, .int i4])), (s3, .inl (G.2 0, 7, .inl m3)), (s4, .inl (G.2 0, 7, .inl m4)), (s6, .inl (G.2 0, 6, .inl m6)), (s7, .inl (G.2 0, 6, .inl m7)), (s9, .inl (G.2 0, 9, .inl fcc)), (s8, .inl (G.2 4, 4, .inr (.inr (.inr (.inr (va_up (va_up (va_up (va_up (fun _ => none) 0 (some w0)) 1 (some w1)) 2 (some w2)) 3 (some w3))))))), (w0, .inr (2, [.ref x0, .ref x1, .ref x2, .int (nI n0), .int (nI u0)])), (x0, .inl (G.2 0, 400, .inl f0)), (x1, .inl (G.2 0, 14, .inl g0)), (x2, .inl (G.2 0, 32, .inl zz0)), (w1, .inr (2, [.ref x3, .ref x4, .ref x5, .int (nI n1), .int (nI u1)])), (x3, .inl (G.2 0, 400, .inl f1)), (x4, .inl (G.2 0, 14, .inl g1)), (x5, .inl (G.2 0, 32, .inl zz1)), (w2, .inr (2, [.ref x6, .ref x7, .ref x8, .int (nI n2), .int (nI u2)])), (x6, .inl (G.2 0, 400, .inl f2)), (x7, .inl (G.2 0, 14, .inl g2)), (x8, .inl (G.2 0, 32, .inl zz2)), (w3, .inr (2, [.ref x9, .ref x10, .ref x11, .int (nI n3), .int (nI u3)])), (x9, .inl (G.2 0, 400, .inl f3)), (x10, .inl (G.2 0, 14, .inl g3)), (x11, .inl (G.2 0, 32, .inl zz3)), (s5, .inl (G.2 0, 6, .inl m5)), (k0, .inr (6, [.ref b1, .ref b2, .ref b3, .ref b4, .int o1, .int o2, .int o3])), (b1, .inl (G.2 0, 7, .inl e1)), (b2, .inl (G.2 0, 6, .inl e2)), (b3, .inl (G.2 0, 7, .inl e3)), (b4, .inl (G.2 0, 42, .inl e4)), (my0, .inr (6, [.ref my1, .ref my2, .ref my3, .ref my4, .int ni1, .int ni2, .int ni3])), (my1, .inl (G.2 0, 7, .inl nf1)), (my2, .inl (G.2 0, 6, .inl nf2)), (my3, .inl (G.2 0, 7, .inl nf3)), (my4, .inl (G.2 0, 42, .inl nf4)), (c0, .inr (0, [.ref a1, .ref a2, .int fi2, .int sd2])), (a1, .inl (G.2 0, 6, .inl ww)), (a2, .inl (G.2 0, 7, .inl aa))] ∧ (∀ j, j < 6 → zz_ok 7 (ww j)) ∧ (∀ j, j < 7 → zz_ok 6 (aa j))) := by
  refine zz_enteri (by decide +kernel) (Nat.le_of_ble_eq_true rfl) ?_
  intro p e s m args below meth c A Q ls S hnm hret hw hl
  have hl : lv_has ls 3 [(0, .ref ob0)] := hl
  have hx := S.1
  have hb := S.2.1
  refine lv_aload_n hx hb dX9_settles_0 rfl (lv_at hl 0 rfl) ?_
  refine zz_get (v := .ref my0) S hw fgX9_44 0 rfl rfl dX9_settles_1 ?_
  refine lv_aload_n hx hb dX9_settles_4 rfl (lv_at hl 0 rfl) ?_
  refine zz_get (v := .ref k0) S hw fgX9_40 0 rfl rfl dX9_settles_5 ?_
  refine zz_callV (qb := 30) (As := [.ref k0]) (rest := []) (wr := [(ob0, .inr (9, [.ref ut, .int uf1, .ref h1, .int uf3, .ref sc, .ref dr0, .ref k0, .ref my0, .ref c0, .ref ga, .ref pa0, .ref t0, .ref sl0, .ref hd0])), (sc, .inr (5, [.ref s1, .ref s2, .ref s3, .ref s4, .ref s5, .ref s6, .ref s7, .ref s8, .ref s9, .int (nI pp), .int (nI pq), .int i3, .int i4])), (s3, .inl (G.2 0, 7, .inl m3)), (s4, .inl (G.2 0, 7, .inl m4)), (s6, .inl (G.2 0, 6, .inl m6)), (s7, .inl (G.2 0, 6, .inl m7)), (s9, .inl (G.2 0, 9, .inl fc)), (s8, .inl (G.2 4, 4, .inr (.inr (.inr (.inr (va_up (va_up (va_up (va_up (fun _ => none) 0 (some w0)) 1 (some w1)) 2 (some w2)) 3 (some w3))))))), (w0, .inr (2, [.ref x0, .ref x1, .ref x2, .int (nI n0), .int (nI u0)])), (x0, .inl (G.2 0, 400, .inl f0)), (x1, .inl (G.2 0, 14, .inl g0)), (x2, .inl (G.2 0, 32, .inl z0_)), (w1, .inr (2, [.ref x3, .ref x4, .ref x5, .int (nI n1), .int (nI u1)])), (x3, .inl (G.2 0, 400, .inl f1)), (x4, .inl (G.2 0, 14, .inl g1)), (x5, .inl (G.2 0, 32, .inl z1_)), (w2, .inr (2, [.ref x6, .ref x7, .ref x8, .int (nI n2), .int (nI u2)])), (x6, .inl (G.2 0, 400, .inl f2)), (x7, .inl (G.2 0, 14, .inl g2)), (x8, .inl (G.2 0, 32, .inl z2_)), (w3, .inr (2, [.ref x9, .ref x10, .ref x11, .int (nI n3), .int (nI u3)])), (x9, .inl (G.2 0, 400, .inl f3)), (x10, .inl (G.2 0, 14, .inl g3)), (x11, .inl (G.2 0, 32, .inl z3_)), (s5, .inl (G.2 0, 6, .inl m5)), (c0, .inr (0, [.ref a1, .ref a2, .int fi, .int sd])), (a1, .inl (G.2 0, 6, .inl wf)), (a2, .inl (G.2 0, 7, .inl af))]) S hw hl.1 lX9_244 (c_gcopyFrom l G my0 my1 my2 my3 my4 mf1 mf2 mf3 mf4 mi1 mi2 mi3 k0 b1 b2 b3 b4 e1 e2 e3 e4 o1 o2 o3) ⟨Nat.le_of_ble_eq_true rfl, Nat.le_of_ble_eq_true rfl⟩ ⟨Nat.le_of_ble_eq_true rfl, Nat.le_of_ble_eq_true rfl⟩ [30, 31, 32, 33, 34, 25, 26, 27, 28, 29] [0, 1, 2, 3, 4, 5, 6, 7, 8, 9, 10, 11, 12, 13, 14, 15, 16, 17, 18, 19, 20, 21, 22, 23, 24, 35, 36, 37] (by decide +kernel) rfl rfl (by decide +kernel) (by decide +kernel) rfl rfl rfl rfl (Nat.le_of_ble_eq_true rfl) dX9_settles_8 ?_
  clear hw
  intro rr u H locs hp hw
  refine hp.elim fun hh1_1 zg0 => zg0.elim fun hh2_2 zg1 => zg1.elim fun hh3_3 zg2 => zg2.elim fun hh4_4 zg3 => zg3.elim fun zee1 zg4 => zg4.elim fun zee2 hq8_0 => ?_
  clear hp zg0 zg1 zg2 zg3 zg4
  subst zee1
  subst zee2
  replace hw : zz_w G A s [(ob0, .inr (9, [.ref ut, .int uf1, .ref h1, .int uf3, .ref sc, .ref dr0, .ref k0, .ref my0, .ref c0, .ref ga, .ref pa0, .ref t0, .ref sl0, .ref hd0])), (sc, .inr (5, [.ref s1, .ref s2, .ref s3, .ref s4, .ref s5, .ref s6, .ref s7, .ref s8, .ref s9, .int (nI pp), .int (nI pq), .int i3, .int i4])), (s3, .inl (G.2 0, 7, .inl m3)), (s4, .inl (G.2 0, 7, .inl m4)), (s6, .inl (G.2 0, 6, .inl m6)), (s7, .inl (G.2 0, 6, .inl m7)), (s9, .inl (G.2 0, 9, .inl fc)), (s8, .inl (G.2 4, 4, .inr (.inr (.inr (.inr (va_up (va_up (va_up (va_up (fun _ => none) 0 (some w0)) 1 (some w1)) 2 (some w2)) 3 (some w3))))))), (w0, .inr (2, [.ref x0, .ref x1, .ref x2, .int (nI n0), .int (nI u0)])), (x0, .inl (G.2 0, 400, .inl f0)), (x1, .inl (G.2 0, 14, .inl g0)), (x2, .inl (G.2 0, 32, .inl z0_)), (w1, .inr (2, [.ref x3, .ref x4, .ref x5, .int (nI n1), .int (nI u1)])), (x3, .inl (G.2 0, 400, .inl f1)), (x4, .inl (G.2 0, 14, .inl g1)), (x5, .inl (G.2 0, 32, .inl z1_)), (w2, .inr (2, [.ref x6, .ref x7, .ref x8, .int (nI n2), .int (nI u2)])), (x6, .inl (G.2 0, 400, .inl f2)), (x7, .inl (G.2 0, 14, .inl g2)), (x8, .inl (G.2 0, 32, .inl z2_)), (w3, .inr (2, [.ref x9, .ref x10, .ref x11, .int (nI n3), .int (nI u3)])), (x9, .inl (G.2 0, 400, .inl f3)), (x10, .inl (G.2 0, 14, .inl g3)), (x11, .inl (G.2 0, 32, .inl z3_)), (s5, .inl (G.2 0, 6, .inl m5)), (c0, .inr (0, [.ref a1, .ref a2, .int fi, .int sd])), (a1, .inl (G.2 0, 6, .inl wf)), (a2, .inl (G.2 0, 7, .inl af)), (my0, .inr (6, [.ref my1, .ref my2, .ref my3, .ref my4, .int o1, .int o2, .int o3])), (my1, .inl (G.2 0, 7, .inl hh1_1)), (my2, .inl (G.2 0, 6, .inl hh2_2)), (my3, .inl (G.2 0, 7, .inl hh3_3)), (my4, .inl (G.2 0, 42, .inl hh4_4)), (k0, .inr (6, [.ref b1, .ref b2, .ref b3, .ref b4, .int o1, .int o2, .int o3])), (b1, .inl (G.2 0, 7, .inl e1)), (b2, .inl (G.2 0, 6, .inl e2)), (b3, .inl (G.2 0, 7, .inl e3)), (b4, .inl (G.2 0, 42, .inl e4))] H _ := hw
  refine W.eq (g2 := F0 m 11 ls []) rfl ?_
  refine lv_iconst (v := 0) hx hb dX9_settles_11 (by decide) ?_
  refine lv_istore_n (lv' := [(1, .int 0), (0, .ref ob0)]) hx hb dX9_settles_12 rfl hl (by decide) rfl (fun ls hl => ?_)
  have lp13_57 : ∀ (vn6 vi5 : Nat) (vF24 : Nat → Int32) (vF25 : Nat → Int32) (vF26 : Nat → Int32) (vF27 : Nat → Int32) (vF28 : Nat → Int32) (vy29 : Int32) (vy30 : Int32) (vF31 : Nat → Int32) (vF32 : Nat → Int32) (vy33 : Int32) (vy34 : Int32) (vF35 : Nat → Int32) (vF36 : Nat → Int32) (vF37 : Nat → Int32) (H : Heap) (locs : List Loc) (ls : Array Slot), vi5 ≤ 101 → 101 < vi5 + vn6 → (∀ j, j < 6 → zz_ok 7 (vF31 j)) → (∀ j, j < 7 → zz_ok 6 (vF32 j)) → zz_w G A s [(ob0, .inr (9, [.ref ut, .int uf1, .ref h1, .int uf3, .ref sc, .ref dr0, .ref k0, .ref my0, .ref c0, .ref ga, .ref pa0, .ref t0, .ref sl0, .ref hd0])), (sc, .inr (5, [.ref s1, .ref s2, .ref s3, .ref s4, .ref s5, .ref s6, .ref s7, .ref s8, .ref s9, .int (nI pp), .int (nI pq), .int i3, .int i4])), (s3, .inl (G.2 0, 7, .inl m3)), (s4, .inl (G.2 0, 7, .inl m4)), (s6, .inl (G.2 0, 6, .inl m6)), (s7, .inl (G.2 0, 6, .inl m7)), (s9, .inl (G.2 0, 9, .inl vF24)), (s8, .inl (G.2 4, 4, .inr (.inr (.inr (.inr (va_up (va_up (va_up (va_up (fun _ => none) 0 (some w0)) 1 (some w1)) 2 (some w2)) 3 (some w3))))))), (w0, .inr (2, [.ref x0, .ref x1, .ref x2, .int (nI n0), .int (nI u0)])), (x0, .inl (G.2 0, 400, .inl f0)), (x1, .inl (G.2 0, 14, .inl g0)), (x2, .inl (G.2 0, 32, .inl vF25)), (w1, .inr (2, [.ref x3, .ref x4, .ref x5, .int (nI n1), .int (nI u1)])), (x3, .inl (G.2 0, 400, .inl f1)), (x4, .inl (G.2 0, 14, .inl g1)), (x5, .inl (G.2 0, 32, .inl vF26)), (w2, .inr (2, [.ref x6, .ref x7, .ref x8, .int (nI n2), .int (nI u2)])), (x6, .inl (G.2 0, 400, .inl f2)), (x7, .inl (G.2 0, 14, .inl g2)), (x8, .inl (G.2 0, 32, .inl vF27)), (w3, .inr (2, [.ref x9, .ref x10, .ref x11, .int (nI n3), .int (nI u3)])), (x9, .inl (G.2 0, 400, .inl f3)), (x10, .inl (G.2 0, 14, .inl g3)), (x11, .inl (G.2 0, 32, .inl vF28)), (s5, .inl (G.2 0, 6, .inl m5)), (c0, .inr (0, [.ref a1, .ref a2, .int vy29, .int vy30])), (a1, .inl (G.2 0, 6, .inl vF31)), (a2, .inl (G.2 0, 7, .inl vF32)), (my0, .inr (6, [.ref my1, .ref my2, .ref my3, .ref my4, .int o1, .int vy33, .int vy34])), (my1, .inl (G.2 0, 7, .inl hh1_1)), (my2, .inl (G.2 0, 6, .inl vF35)), (my3, .inl (G.2 0, 7, .inl vF36)), (my4, .inl (G.2 0, 42, .inl vF37)), (k0, .inr (6, [.ref b1, .ref b2, .ref b3, .ref b4, .int o1, .int o2, .int o3])), (b1, .inl (G.2 0, 7, .inl e1)), (b2, .inl (G.2 0, 6, .inl e2)), (b3, .inl (G.2 0, 7, .inl e3)), (b4, .inl (G.2 0, 42, .inl e4))] H locs → lv_has ls 3 [(1, .int (nI vi5)), (0, .ref ob0)] → W p l e (zz_rm 7 0 0) s m args below meth c H locs (0) (0) Q (F0 m 13 ls []) := by
    intro vn6
    induction vn6 with
    | zero => intro vi5 vF24 vF25 vF26 vF27 vF28 vy29 vy30 vF31 vF32 vy33 vy34 vF35 vF36 vF37 H locs ls hi1 hi2; exact absurd hi2 (by omega)
    | succ vn6 ih13 =>
      intro vi5 vF24 vF25 vF26 vF27 vF28 vy29 vy30 vF31 vF32 vy33 vy34 vF35 vF36 vF37 H locs ls hi13a hi13b hv13_55 hv13_56 hw hl
      refine lv_iload_n hx hb dX9_settles_13 rfl (lv_at hl 0 rfl) ?_
      refine lv_bipush (v := 100) hx hb dX9_settles_14 (by decide) ?_
      refine lv_icmp_gt (tgt := 56) hx hb dX9_settles_16 (by decide) (fun c16_58 => ?_) (fun c16_58 => ?_)
      · skip
        have c16_58n : 100 < vi5 := (zz_lt (a := 100) (b := vi5) rfl rfl (by omega) (by omega)).mp c16_58
        refine lv_bipush (v := (-2)) hx hb dX9_settles_56 (by decide) ?_
        exact hret _ _ _ _ _ _ ⟨(-2), vF24, vF25, vF26, vF27, vF28, hh1_1, vF35, vF36, vF37, o1, vy33, vy34, vF31, vF32, vy29, vy30, rfl, rfl, (by first | assumption | exact Or.inl rfl | exact Or.inr rfl | omega), (by first | assumption | exact Or.inl rfl | exact Or.inr rfl | omega)⟩ (hw.sub [0, 1, 2, 3, 4, 5, 6, 7, 8, 9, 10, 11, 12, 13, 14, 15, 16, 17, 18, 19, 20, 21, 22, 23, 24, 33, 34, 35, 36, 37, 28, 29, 30, 31, 32, 25, 26, 27] (by decide +kernel) rfl) rfl dX9_settles_58
      · skip
        have c16_58n : ¬ (100 < vi5) := fun z => c16_58 ((zz_lt (a := 100) (b := vi5) rfl rfl (by omega) (by omega)).mpr z)
        refine lv_aload_n hx hb dX9_settles_19 rfl (lv_at hl 1 rfl) ?_
        refine zz_get (v := .ref c0) S hw fgX9_50 0 rfl rfl dX9_settles_20 ?_
        refine lv_aload_n hx hb dX9_settles_23 rfl (lv_at hl 1 rfl) ?_
        refine zz_get (v := .ref sc) S hw fgX9_30 0 rfl rfl dX9_settles_24 ?_
        refine W.eq (g2 := F0 m 27 ls [.ref sc, .ref c0]) rfl ?_
        refine lv_aload_n hx hb dX9_settles_27 rfl (lv_at hl 1 rfl) ?_
        refine zz_get (v := .ref my0) S hw fgX9_44 0 rfl rfl dX9_settles_28 ?_
        refine lv_iconst (v := 1) hx hb dX9_settles_31 (by decide) ?_
        refine lv_aload_n hx hb dX9_settles_32 rfl (lv_at hl 1 rfl) ?_
        refine zz_get (v := .ref sc) S hw fgX9_30 0 rfl rfl dX9_settles_33 ?_
        refine zz_get (v := .int i4) S hw fgX9_190 1 rfl rfl dX9_settles_36 ?_
        refine lv_iconst (v := 0) hx hb dX9_settles_39 (by decide) ?_
        refine zz_callV (qb := 25) (As := [.ref sc, .ref my0, .int 1, .int i4, .int 0]) (rest := []) (wr := [(ob0, .inr (9, [.ref ut, .int uf1, .ref h1, .int uf3, .ref sc, .ref dr0, .ref k0, .ref my0, .ref c0, .ref ga, .ref pa0, .ref t0, .ref sl0, .ref hd0])), (s5, .inl (G.2 0, 6, .inl m5)), (k0, .inr (6, [.ref b1, .ref b2, .ref b3, .ref b4, .int o1, .int o2, .int o3])), (b1, .inl (G.2 0, 7, .inl e1)), (b2, .inl (G.2 0, 6, .inl e2)), (b3, .inl (G.2 0, 7, .inl e3)), (b4, .inl (G.2 0, 42, .inl e4))]) S hw hl.1 lX9_193 (c_gpassDays l G c0 a1 a2 vF31 vF32 vy29 vy30 sc s1 s2 s3 s4 s5 s6 s7 s8 s9 w0 w1 w2 w3 x0 x1 x2 x3 x4 x5 x6 x7 x8 x9 x10 x11 pp pq i3 i4 m3 m4 m6 m7 vF24 f0 g0 n0 u0 vF25 f1 g1 n1 u1 vF26 f2 g2 n2 u2 vF27 f3 g3 n3 u3 vF28 my0 my1 my2 my3 my4 hh1_1 vF35 vF36 vF37 o1 vy33 vy34 1 i4 0 (by first | assumption | omega | exact Or.inr ⟨_, by omega, rfl⟩ | (unfold zz_sok; decide) | decide | exact (fun j hj => (hv7 j hj).1)) (by first | assumption | omega | exact Or.inr ⟨_, by omega, rfl⟩ | (unfold zz_sok; decide) | decide | exact (fun j hj => (hv7 j hj).1)) (by first | assumption | omega | exact Or.inr ⟨_, by omega, rfl⟩ | (unfold zz_sok; decide) | decide | exact (fun j hj => (hv7 j hj).1)) (by first | assumption | omega | exact Or.inr ⟨_, by omega, rfl⟩ | (unfold zz_sok; decide) | decide | exact (fun j hj => (hv7 j hj).1)) (by first | assumption | omega | exact Or.inr ⟨_, by omega, rfl⟩ | (unfold zz_sok; decide) | decide | exact (fun j hj => (hv7 j hj).1)) (by first | assumption | omega | exact Or.inr ⟨_, by omega, rfl⟩ | (unfold zz_sok; decide) | decide | exact (fun j hj => (hv7 j hj).1)) (by first | assumption | omega | exact Or.inr ⟨_, by omega, rfl⟩ | (unfold zz_sok; decide) | decide | exact (fun j hj => (hv7 j hj).1)) (by first | assumption | omega | exact Or.inr ⟨_, by omega, rfl⟩ | (unfold zz_sok; decide) | decide | exact (fun j hj => (hv7 j hj).1)) (by first | assumption | omega | exact Or.inr ⟨_, by omega, rfl⟩ | (unfold zz_sok; decide) | decide | exact (fun j hj => (hv7 j hj).1))) ⟨Nat.le_of_ble_eq_true rfl, Nat.le_of_ble_eq_true rfl⟩ ⟨Nat.le_of_ble_eq_true rfl, Nat.le_of_ble_eq_true rfl⟩ [25, 26, 27, 1, 2, 3, 4, 5, 6, 7, 8, 9, 10, 11, 12, 13, 14, 15, 16, 17, 18, 19, 20, 21, 22, 23, 28, 29, 30, 31, 32] [0, 24, 33, 34, 35, 36, 37] (by decide +kernel) rfl rfl (by decide +kernel) (by decide +kernel) rfl rfl rfl rfl (Nat.le_of_ble_eq_true rfl) dX9_settles_40 ?_
        clear hw
        intro rr u H locs hp hw
        refine hp.elim fun rv_59 zg0 => zg0.elim fun ww_60 zg1 => zg1.elim fun aa_61 zg2 => zg2.elim fun fi2_62 zg3 => zg3.elim fun sd2_63 zg4 => zg4.elim fun fcc_64 zg5 => zg5.elim fun zz0_65 zg6 => zg6.elim fun zz1_66 zg7 => zg7.elim fun zz2_67 zg8 => zg8.elim fun zz3_68 zg9 => zg9.elim fun ee2_69 zg10 => zg10.elim fun ee3_70 zg11 => zg11.elim fun ee4_71 zg12 => zg12.elim fun oo2_72 zg13 => zg13.elim fun oo3_73 zg14 => zg14.elim fun zee1 zg15 => zg15.elim fun zee2 zg16 => zg16.elim fun hq40_0 zg17 => zg17.elim fun hq40_1 zg18 => zg18.elim fun hq40_2 hq40_3 => ?_
        clear hp zg0 zg1 zg2 zg3 zg4 zg5 zg6 zg7 zg8 zg9 zg10 zg11 zg12 zg13 zg14 zg15 zg16 zg17 zg18
        subst zee1
        subst zee2
        replace hw : zz_w G A s [(ob0, .inr (9, [.ref ut, .int uf1, .ref h1, .int uf3, .ref sc, .ref dr0, .ref k0, .ref my0, .ref c0, .ref ga, .ref pa0, .ref t0, .ref sl0, .ref hd0])), (s5, .inl (G.2 0, 6, .inl m5)), (k0, .inr (6, [.ref b1, .ref b2, .ref b3, .ref b4, .int o1, .int o2, .int o3])), (b1, .inl (G.2 0, 7, .inl e1)), (b2, .inl (G.2 0, 6, .inl e2)), (b3, .inl (G.2 0, 7, .inl e3)), (b4, .inl (G.2 0, 42, .inl e4)), (c0, .inr (0, [.ref a1, .ref a2, .int fi2_62, .int sd2_63])), (a1, .inl (G.2 0, 6, .inl ww_60)), (a2, .inl (G.2 0, 7, .inl aa_61)), (sc, .inr (5, [.ref s1, .ref s2, .ref s3, .ref s4, .ref s5, .ref s6, .ref s7, .ref s8, .ref s9, .int (nI pp), .int (nI pq), .int i3, .int i4])), (s3, .inl (G.2 0, 7, .inl m3)), (s4, .inl (G.2 0, 7, .inl m4)), (s6, .inl (G.2 0, 6, .inl m6)), (s7, .inl (G.2 0, 6, .inl m7)), (s9, .inl (G.2 0, 9, .inl fcc_64)), (s8, .inl (G.2 4, 4, .inr (.inr (.inr (.inr (va_up (va_up (va_up (va_up (fun _ => none) 0 (some w0)) 1 (some w1)) 2 (some w2)) 3 (some w3))))))), (w0, .inr (2, [.ref x0, .ref x1, .ref x2, .int (nI n0), .int (nI u0)])), (x0, .inl (G.2 0, 400, .inl f0)), (x1, .inl (G.2 0, 14, .inl g0)), (x2, .inl (G.2 0, 32, .inl zz0_65)), (w1, .inr (2, [.ref x3, .ref x4, .ref x5, .int (nI n1), .int (nI u1)])), (x3, .inl (G.2 0, 400, .inl f1)), (x4, .inl (G.2 0, 14, .inl g1)), (x5, .inl (G.2 0, 32, .inl zz1_66)), (w2, .inr (2, [.ref x6, .ref x7, .ref x8, .int (nI n2), .int (nI u2)])), (x6, .inl (G.2 0, 400, .inl f2)), (x7, .inl (G.2 0, 14, .inl g2)), (x8, .inl (G.2 0, 32, .inl zz2_67)), (w3, .inr (2, [.ref x9, .ref x10, .ref x11, .int (nI n3), .int (nI u3)])), (x9, .inl (G.2 0, 400, .inl f3)), (x10, .inl (G.2 0, 14, .inl g3)), (x11, .inl (G.2 0, 32, .inl zz3_68)), (my0, .inr (6, [.ref my1, .ref my2, .ref my3, .ref my4, .int o1, .int oo2_72, .int oo3_73])), (my1, .inl (G.2 0, 7, .inl hh1_1)), (my2, .inl (G.2 0, 6, .inl ee2_69)), (my3, .inl (G.2 0, 7, .inl ee3_70)), (my4, .inl (G.2 0, 42, .inl ee4_71))] H _ := hw
        refine W.eq (g2 := F0 m 43 ls [.int rv_59]) rfl ?_
        refine lv_istore_n (lv' := [(2, .int rv_59), (1, .int (nI vi5)), (0, .ref ob0)]) hx hb dX9_settles_43 rfl hl (by decide) rfl (fun ls hl => ?_)
        refine lv_iload_n hx hb dX9_settles_44 rfl (lv_at hl 0 rfl) ?_
        refine lv_if_ne (tgt := 50) hx hb dX9_settles_45 (by decide) (fun c45_74 => ?_) (fun c45_74 => ?_)
        · skip
          refine lv_iinc (v := (nI (vi5 + 1))) (lv' := [(1, .int (nI (vi5 + 1))), (2, .int rv_59), (0, .ref ob0)]) hx hb dX9_settles_50 hl (k := 1) rfl (nI_add _ 1) (by decide) rfl (fun ls hl => ?_)
          refine lv_goto (tgt := 13) hx hb dX9_settles_53 (by decide) ?_
          exact ih13 (vi5 + 1) fcc_64 zz0_65 zz1_66 zz2_67 zz3_68 fi2_62 sd2_63 ww_60 aa_61 oo2_72 oo3_73 ee2_69 ee3_70 ee4_71 _ _ _ (by omega) (by omega) (by first | assumption | omega) (by first | assumption | omega) (hw.sub [0, 10, 11, 12, 13, 14, 15, 16, 17, 18, 19, 20, 21, 22, 23, 24, 25, 26, 27, 28, 29, 30, 31, 32, 1, 7, 8, 9, 33, 34, 35, 36, 37, 2, 3, 4, 5, 6] (by decide +kernel) rfl) (lv_sub hl [0, 2] rfl)
        · skip
          refine lv_iload_n hx hb dX9_settles_48 rfl (lv_at hl 1 rfl) ?_
          exact hret _ _ _ _ _ _ ⟨(nI vi5), fcc_64, zz0_65, zz1_66, zz2_67, zz3_68, hh1_1, ee2_69, ee3_70, ee4_71, o1, oo2_72, oo3_73, ww_60, aa_61, fi2_62, sd2_63, rfl, rfl, (by first | assumption | exact Or.inl rfl | exact Or.inr rfl | omega), (by first | assumption | exact Or.inl rfl | exact Or.inr rfl | omega)⟩ (hw.sub [0, 10, 11, 12, 13, 14, 15, 16, 17, 18, 19, 20, 21, 22, 23, 24, 25, 26, 27, 28, 29, 30, 31, 32, 1, 2, 3, 4, 5, 6, 33, 34, 35, 36, 37, 7, 8, 9] (by decide +kernel) rfl) rfl dX9_settles_49
  exact lp13_57 (101 + 1 - 0) 0 fc z0_ z1_ z2_ z3_ fi sd wf af o2 o3 hh2_2 hh3_3 hh4_4 _ _ _ (by omega) (by omega) (by first | assumption | omega | decide) (by first | assumption | omega | decide) hw (lv_sub hl [0, 1] rfl)
theorem kd_ncX9_drift : kd_ck 12022313480769694945149542695111842071785399525746471933338156508343408540829597870066582654073751785008208080354186861517291961087848933283212472326493005096876290514933935268239116726573866 79 cX9_drift.data.toList 0 = true := by decide +kernel
theorem dX9_drift_0 : decode cX9_drift 0 = .ok (.aload_n 0, 1) := kd_dk0 kd_o42 kd_ncX9_drift rfl
theorem dX9_drift_1 : decode cX9_drift 1 = .ok (.iload_n 1, 1) := kd_dk0 kd_o27 kd_ncX9_drift rfl
theorem dX9_drift_2 : decode cX9_drift 2 = .ok (.invokevirtual 154, 3) := kd_dk2 kd_o182 kd_ncX9_drift rfl
theorem dX9_drift_5 : decode cX9_drift 5 = .ok (.ifCond .eq 14, 3) := kd_dj2 kd_o153 (w := 14) kd_ncX9_drift rfl rfl
theorem dX9_drift_8 : decode cX9_drift 8 = .ok (.iload_n 2, 1) := kd_dk0 kd_o28 kd_ncX9_drift rfl
theorem dX9_drift_9 : decode cX9_drift 9 = .ok (.iconst 1, 1) := kd_dk0 kd_o4 kd_ncX9_drift rfl
theorem dX9_drift_10 : decode cX9_drift 10 = .ok (.if_icmp .lt 9, 3) := kd_dj2 kd_o161 (w := 9) kd_ncX9_drift rfl rfl
theorem dX9_drift_13 : decode cX9_drift 13 = .ok (.iload_n 2, 1) := kd_dk0 kd_o28 kd_ncX9_drift rfl
theorem dX9_drift_14 : decode cX9_drift 14 = .ok (.bipush 60, 2) := kd_dj1 kd_o16 (w := 60) kd_ncX9_drift rfl rfl
theorem dX9_drift_16 : decode cX9_drift 16 = .ok (.if_icmp .le 5, 3) := kd_dj2 kd_o164 (w := 5) kd_ncX9_drift rfl rfl
theorem dX9_drift_19 : decode cX9_drift 19 = .ok (.iconst (-1), 1) := kd_dk0 kd_o2 kd_ncX9_drift rfl
theorem dX9_drift_20 : decode cX9_drift 20 = .ok (.ireturn, 1) := kd_dk0 kd_o172 kd_ncX9_drift rfl
theorem dX9_drift_21 : decode cX9_drift 21 = .ok (.aload_n 0, 1) := kd_dk0 kd_o42 kd_ncX9_drift rfl
theorem dX9_drift_22 : decode cX9_drift 22 = .ok (.getfield 44, 3) := kd_dk2 kd_o180 kd_ncX9_drift rfl
theorem dX9_drift_25 : decode cX9_drift 25 = .ok (.aload_n 0, 1) := kd_dk0 kd_o42 kd_ncX9_drift rfl
theorem dX9_drift_26 : decode cX9_drift 26 = .ok (.getfield 40, 3) := kd_dk2 kd_o180 kd_ncX9_drift rfl
theorem dX9_drift_29 : decode cX9_drift 29 = .ok (.invokevirtual 244, 3) := kd_dk2 kd_o182 kd_ncX9_drift rfl
theorem dX9_drift_32 : decode cX9_drift 32 = .ok (.aload_n 0, 1) := kd_dk0 kd_o42 kd_ncX9_drift rfl
theorem dX9_drift_33 : decode cX9_drift 33 = .ok (.getfield 50, 3) := kd_dk2 kd_o180 kd_ncX9_drift rfl
theorem dX9_drift_36 : decode cX9_drift 36 = .ok (.aload_n 0, 1) := kd_dk0 kd_o42 kd_ncX9_drift rfl
theorem dX9_drift_37 : decode cX9_drift 37 = .ok (.getfield 30, 3) := kd_dk2 kd_o180 kd_ncX9_drift rfl
theorem dX9_drift_40 : decode cX9_drift 40 = .ok (.aload_n 0, 1) := kd_dk0 kd_o42 kd_ncX9_drift rfl
theorem dX9_drift_41 : decode cX9_drift 41 = .ok (.getfield 44, 3) := kd_dk2 kd_o180 kd_ncX9_drift rfl
theorem dX9_drift_44 : decode cX9_drift 44 = .ok (.iload_n 2, 1) := kd_dk0 kd_o28 kd_ncX9_drift rfl
theorem dX9_drift_45 : decode cX9_drift 45 = .ok (.aload_n 0, 1) := kd_dk0 kd_o42 kd_ncX9_drift rfl
theorem dX9_drift_46 : decode cX9_drift 46 = .ok (.getfield 30, 3) := kd_dk2 kd_o180 kd_ncX9_drift rfl
theorem dX9_drift_49 : decode cX9_drift 49 = .ok (.getfield 190, 3) := kd_dk2 kd_o180 kd_ncX9_drift rfl
theorem dX9_drift_52 : decode cX9_drift 52 = .ok (.iconst 0, 1) := kd_dk0 kd_o3 kd_ncX9_drift rfl
theorem dX9_drift_53 : decode cX9_drift 53 = .ok (.invokevirtual 193, 3) := kd_dk2 kd_o182 kd_ncX9_drift rfl
theorem dX9_drift_56 : decode cX9_drift 56 = .ok (.pop, 1) := kd_dk0 kd_o87 kd_ncX9_drift rfl
theorem dX9_drift_57 : decode cX9_drift 57 = .ok (.aload_n 0, 1) := kd_dk0 kd_o42 kd_ncX9_drift rfl
theorem dX9_drift_58 : decode cX9_drift 58 = .ok (.getfield 44, 3) := kd_dk2 kd_o180 kd_ncX9_drift rfl
theorem dX9_drift_61 : decode cX9_drift 61 = .ok (.getfield 157, 3) := kd_dk2 kd_o180 kd_ncX9_drift rfl
theorem dX9_drift_64 : decode cX9_drift 64 = .ok (.iload_n 1, 1) := kd_dk0 kd_o27 kd_ncX9_drift rfl
theorem dX9_drift_65 : decode cX9_drift 65 = .ok (.iaload, 1) := kd_dk0 kd_o46 kd_ncX9_drift rfl
theorem dX9_drift_66 : decode cX9_drift 66 = .ok (.aload_n 0, 1) := kd_dk0 kd_o42 kd_ncX9_drift rfl
theorem dX9_drift_67 : decode cX9_drift 67 = .ok (.getfield 40, 3) := kd_dk2 kd_o180 kd_ncX9_drift rfl
theorem dX9_drift_70 : decode cX9_drift 70 = .ok (.getfield 157, 3) := kd_dk2 kd_o180 kd_ncX9_drift rfl
theorem dX9_drift_73 : decode cX9_drift 73 = .ok (.iload_n 1, 1) := kd_dk0 kd_o27 kd_ncX9_drift rfl
theorem dX9_drift_74 : decode cX9_drift 74 = .ok (.iaload, 1) := kd_dk0 kd_o46 kd_ncX9_drift rfl
theorem dX9_drift_75 : decode cX9_drift 75 = .ok (.invokestatic 177, 3) := kd_dk2 kd_o184 kd_ncX9_drift rfl
theorem dX9_drift_78 : decode cX9_drift 78 = .ok (.ireturn, 1) := kd_dk0 kd_o172 kd_ncX9_drift rfl
set_option maxHeartbeats 8000000 in
set_option maxRecDepth 100000 in
theorem c_g_drift (l : Launch) (G : zz_G) (ob0 : Nat) (ut : Nat) (uf1 : Int32) (h1 : Nat) (uf3 : Int32) (sc : Nat) (dr0 : Nat) (k0 : Nat) (my0 : Nat) (c0 : Nat) (ga : Nat) (pa0 : Nat) (t0 : Nat) (sl0 : Nat) (hd0 : Nat) (s1 : Nat) (s2 : Nat) (s3 : Nat) (s4 : Nat) (s5 : Nat) (s6 : Nat) (s7 : Nat) (s8 : Nat) (s9 : Nat) (w0 : Nat) (w1 : Nat) (w2 : Nat) (w3 : Nat) (x0 : Nat) (x1 : Nat) (x2 : Nat) (x3 : Nat) (x4 : Nat) (x5 : Nat) (x6 : Nat) (x7 : Nat) (x8 : Nat) (x9 : Nat) (x10 : Nat) (x11 : Nat) (pp : Nat) (pq : Nat) (i3 : Int32) (i4 : Int32) (m3 : Nat → Int32) (m4 : Nat → Int32) (m6 : Nat → Int32) (m7 : Nat → Int32) (fc : Nat → Int32) (f0 : Nat → Int32) (g0 : Nat → Int32) (n0 : Nat) (u0 : Nat) (z0_ : Nat → Int32) (f1 : Nat → Int32) (g1 : Nat → Int32) (n1 : Nat) (u1 : Nat) (z1_ : Nat → Int32) (f2 : Nat → Int32) (g2 : Nat → Int32) (n2 : Nat) (u2 : Nat) (z2_ : Nat → Int32) (f3 : Nat → Int32) (g3 : Nat → Int32) (n3 : Nat) (u3 : Nat) (z3_ : Nat → Int32) (m5 : Nat → Int32) (b1 : Nat) (b2 : Nat) (b3 : Nat) (b4 : Nat) (e1 : Nat → Int32) (e2 : Nat → Int32) (e3 : Nat → Int32) (e4 : Nat → Int32) (o1 : Int32) (o2 : Int32) (o3 : Int32) (my1 : Nat) (my2 : Nat) (my3 : Nat) (my4 : Nat) (mf1 : Nat → Int32) (mf2 : Nat → Int32) (mf3 : Nat → Int32) (mf4 : Nat → Int32) (mi1 : Int32) (mi2 : Int32) (mi3 : Int32) (a1 : Nat) (a2 : Nat) (wf : Nat → Int32) (af : Nat → Int32) (fi : Int32) (sd : Int32) (ar1 : Int32) (ar2 : Int32) (hv0 : zz_lwv f0 g0 n0 u0) (hv1 : zz_lwv f1 g1 n1 u1) (hv2 : zz_lwv f2 g2 n2 u2) (hv3 : zz_lwv f3 g3 n3 u3) (hpp : pp ≤ 7) (hpq : pq ≤ 6) (hw6 : ∀ j, j < 6 → zz_ok 7 (wf j)) (ha7 : ∀ j, j < 7 → zz_ok 6 (af j)) : zz_M l G mX9_drift 7 0 0 [.ref ob0, .int ar1, .int ar2] [(ob0, .inr (9, [.ref ut, .int uf1, .ref h1, .int uf3, .ref sc, .ref dr0, .ref k0, .ref my0, .ref c0, .ref ga, .ref pa0, .ref t0, .ref sl0, .ref hd0])), (sc, .inr (5, [.ref s1, .ref s2, .ref s3, .ref s4, .ref s5, .ref s6, .ref s7, .ref s8, .ref s9, .int (nI pp), .int (nI pq), .int i3, .int i4])), (s3, .inl (G.2 0, 7, .inl m3)), (s4, .inl (G.2 0, 7, .inl m4)), (s6, .inl (G.2 0, 6, .inl m6)), (s7, .inl (G.2 0, 6, .inl m7)), (s9, .inl (G.2 0, 9, .inl fc)), (s8, .inl (G.2 4, 4, .inr (.inr (.inr (.inr (va_up (va_up (va_up (va_up (fun _ => none) 0 (some w0)) 1 (some w1)) 2 (some w2)) 3 (some w3))))))), (w0, .inr (2, [.ref x0, .ref x1, .ref x2, .int (nI n0), .int (nI u0)])), (x0, .inl (G.2 0, 400, .inl f0)), (x1, .inl (G.2 0, 14, .inl g0)), (x2, .inl (G.2 0, 32, .inl z0_)), (w1, .inr (2, [.ref x3, .ref x4, .ref x5, .int (nI n1), .int (nI u1)])), (x3, .inl (G.2 0, 400, .inl f1)), (x4, .inl (G.2 0, 14, .inl g1)), (x5, .inl (G.2 0, 32, .inl z1_)), (w2, .inr (2, [.ref x6, .ref x7, .ref x8, .int (nI n2), .int (nI u2)])), (x6, .inl (G.2 0, 400, .inl f2)), (x7, .inl (G.2 0, 14, .inl g2)), (x8, .inl (G.2 0, 32, .inl z2_)), (w3, .inr (2, [.ref x9, .ref x10, .ref x11, .int (nI n3), .int (nI u3)])), (x9, .inl (G.2 0, 400, .inl f3)), (x10, .inl (G.2 0, 14, .inl g3)), (x11, .inl (G.2 0, 32, .inl z3_)), (s5, .inl (G.2 0, 6, .inl m5)), (k0, .inr (6, [.ref b1, .ref b2, .ref b3, .ref b4, .int o1, .int o2, .int o3])), (b1, .inl (G.2 0, 7, .inl e1)), (b2, .inl (G.2 0, 6, .inl e2)), (b3, .inl (G.2 0, 7, .inl e3)), (b4, .inl (G.2 0, 42, .inl e4)), (my0, .inr (6, [.ref my1, .ref my2, .ref my3, .ref my4, .int mi1, .int mi2, .int mi3])), (my1, .inl (G.2 0, 7, .inl mf1)), (my2, .inl (G.2 0, 6, .inl mf2)), (my3, .inl (G.2 0, 7, .inl mf3)), (my4, .inl (G.2 0, 42, .inl mf4)), (c0, .inr (0, [.ref a1, .ref a2, .int fi, .int sd])), (a1, .inl (G.2 0, 6, .inl wf)), (a2, .inl (G.2 0, 7, .inl af))] (fun rr u => ∃ (rv : Int32), ∃ (fcc : Nat → Int32), ∃ (zz0 : Nat → Int32), ∃ (zz1 : Nat → Int32), ∃ (zz2 : Nat → Int32), ∃ (zz3 : Nat → Int32), ∃ (nf1 : Nat → Int32), ∃ (nf2 : Nat → Int32), ∃ (nf3 : Nat → Int32), ∃ (nf4 : Nat → Int32), ∃ (ni1 : Int32), ∃ (ni2 : Int32), ∃ (ni3 : Int32), ∃ (ww : Nat → Int32), ∃ (aa : Nat → Int32), ∃ (fi2 : Int32), ∃ (sd2 : Int32), rr = some (.int rv) ∧ u = [(ob0, .inr (9, [.ref ut, .int uf1, .ref h1, .int uf3, .ref sc, .ref dr0, .ref k0, .ref my0, .ref c0, .ref ga, .ref pa0, .ref t0, .ref sl0, .ref hd0])), (sc, .inr (5, [.ref s1, .ref s2, .ref s3, .ref s4, .ref s5, .ref s6, .ref s7, .ref s8, .ref s9, .int (nI pp), .int (nI pq), .int i3, .int i4])), (s3, .inl (G.2 0, 7, .inl m3)), (s4, .inl (G.2 0, 7, .inl m4)), (s6, .inl (G.2 0, 6, .inl m6)), (s7, .inl (G.2 0, 6, .inl m7)), (s9, .inl (G.2 0, 9, .inl fcc)), (s8, .inl (G.2 4, 4, .inr (.inr (.inr (.inr (va_up (va_up (va_up (va_up (fun _ => none) 0 (some w0)) 1 (some w1)) 2 (some w2)) 3 (some w3))))))), (w0, .inr (2, [.ref x0, .ref x1, .ref x2, .int (nI n0), .int (nI u0)])), (x0, .inl (G.2 0, 400, .inl f0)), (x1, .inl (G.2 0, 14, .inl g0)), (x2, .inl (G.2 0, 32, .inl zz0)), (w1, .inr (2, [.ref x3, .ref x4, .ref x5, .int (nI n1), .int (nI u1)])), (x3, .inl (G.2 0, 400, .inl f1)), (x4, .inl (G.2 0, 14, .inl g1)), (x5, .inl (G.2 0, 32, .inl zz1)), (w2, .inr (2, [.ref x6, .ref x7, .ref x8, .int (nI n2), .int (nI u2)])), (x6, .inl (G.2 0, 400, .inl f2)), (x7, .inl (G.2 0, 14, .inl g2)), (x8, .inl (G.2 0, 32, .inl zz2)), (w3, .inr (2, [.ref x9, .ref x10, .ref x11, .int (nI n3), .int (nI u3)])), (x9, .inl (G.2 0, 400, .inl f3)), (x10, .inl (G.2 0, 14, .inl g3)), (x11, .inl (G.2 0, 32, .inl zz3)), (s5, .inl (G.2 0, 6, .inl m5)), (k0, .inr (6, [.ref b1, .ref b2, .ref b3, .ref b4, .int o1, .int o2, .int o3])), (b1, .inl (G.2 0, 7, .inl e1)), (b2, .inl (G.2 0, 6, .inl e2)), (b3, .inl (G.2 0, 7, .inl e3)), (b4, .inl (G.2 0, 42, .inl e4)), (my0, .inr (6, [.ref my1, .ref my2, .ref my3, .ref my4, .int ni1, .int ni2, .int ni3])), (my1, .inl (G.2 0, 7, .inl nf1)), (my2, .inl (G.2 0, 6, .inl nf2)), (my3, .inl (G.2 0, 7, .inl nf3)), (my4, .inl (G.2 0, 42, .inl nf4)), (c0, .inr (0, [.ref a1, .ref a2, .int fi2, .int sd2])), (a1, .inl (G.2 0, 6, .inl ww)), (a2, .inl (G.2 0, 7, .inl aa))] ∧ (zA (zz_In pq ar1 ∧ (zz_In 61 ar2 ∧ ¬ ar2 = 0)) (∃ p k : Nat, p < pq ∧ k ≤ 60 ∧ ar1 = nI p ∧ ar2 = nI k ∧ zA_D f0 g0 n0 u0 f1 g1 n1 u1 f2 g2 n2 u2 f3 g3 n3 u3 e1 e2 e3 e4 o1 o2 o3 m3 m6 m4 m7 i3 pp pq i4 (¬ (0 : Int32) = 0) k (fun h1 E2 E3 E4 O2 O3 => rv = zm_ap (E2 p) (e2 p))) rv (-1)) ∧ (∀ j, j < 6 → zz_ok 7 (ww j)) ∧ (∀ j, j < 7 → zz_ok 6 (aa j))) := by
  refine zz_enteri (by decide +kernel) (Nat.le_of_ble_eq_true rfl) ?_
  intro p e s m args below meth c A Q ls S hnm hret hw hl
  have hl : lv_has ls 3 [(0, .ref ob0), (1, .int ar1), (2, .int ar2)] := hl
  have hx := S.1
  have hb := S.2.1
  refine lv_aload_n hx hb dX9_drift_0 rfl (lv_at hl 0 rfl) ?_
  refine lv_iload_n hx hb dX9_drift_1 rfl (lv_at hl 1 rfl) ?_
  refine zz_callV (qb := 0) (As := [.int ar1]) (rest := []) (wr := [(s3, .inl (G.2 0, 7, .inl m3)), (s4, .inl (G.2 0, 7, .inl m4)), (s6, .inl (G.2 0, 6, .inl m6)), (s7, .inl (G.2 0, 6, .inl m7)), (s9, .inl (G.2 0, 9, .inl fc)), (s8, .inl (G.2 4, 4, .inr (.inr (.inr (.inr (va_up (va_up (va_up (va_up (fun _ => none) 0 (some w0)) 1 (some w1)) 2 (some w2)) 3 (some w3))))))), (w0, .inr (2, [.ref x0, .ref x1, .ref x2, .int (nI n0), .int (nI u0)])), (x0, .inl (G.2 0, 400, .inl f0)), (x1, .inl (G.2 0, 14, .inl g0)), (x2, .inl (G.2 0, 32, .inl z0_)), (w1, .inr (2, [.ref x3, .ref x4, .ref x5, .int (nI n1), .int (nI u1)])), (x3, .inl (G.2 0, 400, .inl f1)), (x4, .inl (G.2 0, 14, .inl g1)), (x5, .inl (G.2 0, 32, .inl z1_)), (w2, .inr (2, [.ref x6, .ref x7, .ref x8, .int (nI n2), .int (nI u2)])), (x6, .inl (G.2 0, 400, .inl f2)), (x7, .inl (G.2 0, 14, .inl g2)), (x8, .inl (G.2 0, 32, .inl z2_)), (w3, .inr (2, [.ref x9, .ref x10, .ref x11, .int (nI n3), .int (nI u3)])), (x9, .inl (G.2 0, 400, .inl f3)), (x10, .inl (G.2 0, 14, .inl g3)), (x11, .inl (G.2 0, 32, .inl z3_)), (s5, .inl (G.2 0, 6, .inl m5)), (k0, .inr (6, [.ref b1, .ref b2, .ref b3, .ref b4, .int o1, .int o2, .int o3])), (b1, .inl (G.2 0, 7, .inl e1)), (b2, .inl (G.2 0, 6, .inl e2)), (b3, .inl (G.2 0, 7, .inl e3)), (b4, .inl (G.2 0, 42, .inl e4)), (my0, .inr (6, [.ref my1, .ref my2, .ref my3, .ref my4, .int mi1, .int mi2, .int mi3])), (my1, .inl (G.2 0, 7, .inl mf1)), (my2, .inl (G.2 0, 6, .inl mf2)), (my3, .inl (G.2 0, 7, .inl mf3)), (my4, .inl (G.2 0, 42, .inl mf4)), (c0, .inr (0, [.ref a1, .ref a2, .int fi, .int sd])), (a1, .inl (G.2 0, 6, .inl wf)), (a2, .inl (G.2 0, 7, .inl af))]) S hw hl.1 lX9_154 (c_g_isPart l G ob0 ut uf1 h1 uf3 sc dr0 k0 my0 c0 ga pa0 t0 sl0 hd0 s1 s2 s3 s4 s5 s6 s7 s8 s9 pp pq i3 i4 ar1 (by first | assumption | omega | exact Or.inr ⟨_, by omega, rfl⟩ | (unfold zz_sok; decide) | decide | exact (fun j hj => (hv7 j hj).1)) (by first | assumption | omega | exact Or.inr ⟨_, by omega, rfl⟩ | (unfold zz_sok; decide) | decide | exact (fun j hj => (hv7 j hj).1))) ⟨Nat.le_of_ble_eq_true rfl, Nat.le_of_ble_eq_true rfl⟩ ⟨Nat.le_of_ble_eq_true rfl, Nat.le_of_ble_eq_true rfl⟩ [0, 1] [2, 3, 4, 5, 6, 7, 8, 9, 10, 11, 12, 13, 14, 15, 16, 17, 18, 19, 20, 21, 22, 23, 24, 25, 26, 27, 28, 29, 30, 31, 32, 33, 34, 35, 36, 37] (by decide +kernel) rfl rfl (by decide +kernel) (by decide +kernel) rfl rfl rfl rfl (Nat.le_of_ble_eq_true rfl) dX9_drift_2 ?_
  clear hw
  intro rr u H locs hp hw
  refine hp.elim fun rv_1 zg0 => zg0.elim fun zee1 zg1 => zg1.elim fun zee2 zg2 => zg2.elim fun hq2_0 hq2_1 => ?_
  clear hp zg0 zg1 zg2
  subst zee1
  subst zee2
  replace hw : zz_w G A s [(s3, .inl (G.2 0, 7, .inl m3)), (s4, .inl (G.2 0, 7, .inl m4)), (s6, .inl (G.2 0, 6, .inl m6)), (s7, .inl (G.2 0, 6, .inl m7)), (s9, .inl (G.2 0, 9, .inl fc)), (s8, .inl (G.2 4, 4, .inr (.inr (.inr (.inr (va_up (va_up (va_up (va_up (fun _ => none) 0 (some w0)) 1 (some w1)) 2 (some w2)) 3 (some w3))))))), (w0, .inr (2, [.ref x0, .ref x1, .ref x2, .int (nI n0), .int (nI u0)])), (x0, .inl (G.2 0, 400, .inl f0)), (x1, .inl (G.2 0, 14, .inl g0)), (x2, .inl (G.2 0, 32, .inl z0_)), (w1, .inr (2, [.ref x3, .ref x4, .ref x5, .int (nI n1), .int (nI u1)])), (x3, .inl (G.2 0, 400, .inl f1)), (x4, .inl (G.2 0, 14, .inl g1)), (x5, .inl (G.2 0, 32, .inl z1_)), (w2, .inr (2, [.ref x6, .ref x7, .ref x8, .int (nI n2), .int (nI u2)])), (x6, .inl (G.2 0, 400, .inl f2)), (x7, .inl (G.2 0, 14, .inl g2)), (x8, .inl (G.2 0, 32, .inl z2_)), (w3, .inr (2, [.ref x9, .ref x10, .ref x11, .int (nI n3), .int (nI u3)])), (x9, .inl (G.2 0, 400, .inl f3)), (x10, .inl (G.2 0, 14, .inl g3)), (x11, .inl (G.2 0, 32, .inl z3_)), (s5, .inl (G.2 0, 6, .inl m5)), (k0, .inr (6, [.ref b1, .ref b2, .ref b3, .ref b4, .int o1, .int o2, .int o3])), (b1, .inl (G.2 0, 7, .inl e1)), (b2, .inl (G.2 0, 6, .inl e2)), (b3, .inl (G.2 0, 7, .inl e3)), (b4, .inl (G.2 0, 42, .inl e4)), (my0, .inr (6, [.ref my1, .ref my2, .ref my3, .ref my4, .int mi1, .int mi2, .int mi3])), (my1, .inl (G.2 0, 7, .inl mf1)), (my2, .inl (G.2 0, 6, .inl mf2)), (my3, .inl (G.2 0, 7, .inl mf3)), (my4, .inl (G.2 0, 42, .inl mf4)), (c0, .inr (0, [.ref a1, .ref a2, .int fi, .int sd])), (a1, .inl (G.2 0, 6, .inl wf)), (a2, .inl (G.2 0, 7, .inl af)), (ob0, .inr (9, [.ref ut, .int uf1, .ref h1, .int uf3, .ref sc, .ref dr0, .ref k0, .ref my0, .ref c0, .ref ga, .ref pa0, .ref t0, .ref sl0, .ref hd0])), (sc, .inr (5, [.ref s1, .ref s2, .ref s3, .ref s4, .ref s5, .ref s6, .ref s7, .ref s8, .ref s9, .int (nI pp), .int (nI pq), .int i3, .int i4]))] H _ := hw
  refine W.eq (g2 := F0 m 5 ls [.int rv_1]) rfl ?_
  refine lv_if_eq (tgt := 19) hx hb dX9_drift_5 (by decide) (fun c5_2 => ?_) (fun c5_2 => ?_)
  · skip
    refine lv_iconst (v := (-1)) hx hb dX9_drift_19 (by decide) ?_
    exact hret _ _ _ _ _ _ ⟨(-1), fc, z0_, z1_, z2_, z3_, mf1, mf2, mf3, mf4, mi1, mi2, mi3, wf, af, fi, sd, rfl, rfl, (by first | exact zA0 (fun z => hq2_1 (by assumption) z.1) | exact zA0 (fun z => zA_1n (by assumption) z.2) | exact zA0 (fun z => zA_lt (by assumption) (by decide) z.2.1) | exact zA0 (fun z => zA_g60 (by assumption) z.2.1) | exact zA0 (fun z => zA_60 (by assumption) z.2.1) | exact zA1 ⟨⟨_, by assumption, rfl⟩, zA_1y (by assumption) (by assumption)⟩ ⟨_, _, by assumption, by assumption, rfl, rfl, _, _, _, _, _, _, _, _, _, _, hq29_0, hq53_3, hq75_0⟩), (by first | assumption | exact Or.inl rfl | exact Or.inr rfl | omega), (by first | assumption | exact Or.inl rfl | exact Or.inr rfl | omega)⟩ (hw.sub [36, 37, 0, 1, 2, 3, 4, 5, 6, 7, 8, 9, 10, 11, 12, 13, 14, 15, 16, 17, 18, 19, 20, 21, 22, 23, 24, 25, 26, 27, 28, 29, 30, 31, 32, 33, 34, 35] (by decide +kernel) rfl) rfl dX9_drift_20
  · skip
    obtain ⟨vq3, hvq3, rfl⟩ := hq2_0.resolve_left c5_2
    refine lv_iload_n hx hb dX9_drift_8 rfl (lv_at hl 2 rfl) ?_
    refine lv_iconst (v := 1) hx hb dX9_drift_9 (by decide) ?_
    refine lv_icmp_lt (tgt := 19) hx hb dX9_drift_10 (by decide) (fun c10_4 => ?_) (fun c10_4 => ?_)
    · skip
      refine lv_iconst (v := (-1)) hx hb dX9_drift_19 (by decide) ?_
      exact hret _ _ _ _ _ _ ⟨(-1), fc, z0_, z1_, z2_, z3_, mf1, mf2, mf3, mf4, mi1, mi2, mi3, wf, af, fi, sd, rfl, rfl, (by first | exact zA0 (fun z => hq2_1 (by assumption) z.1) | exact zA0 (fun z => zA_1n (by assumption) z.2) | exact zA0 (fun z => zA_lt (by assumption) (by decide) z.2.1) | exact zA0 (fun z => zA_g60 (by assumption) z.2.1) | exact zA0 (fun z => zA_60 (by assumption) z.2.1) | exact zA1 ⟨⟨_, by assumption, rfl⟩, zA_1y (by assumption) (by assumption)⟩ ⟨_, _, by assumption, by assumption, rfl, rfl, _, _, _, _, _, _, _, _, _, _, hq29_0, hq53_3, hq75_0⟩), (by first | assumption | exact Or.inl rfl | exact Or.inr rfl | omega), (by first | assumption | exact Or.inl rfl | exact Or.inr rfl | omega)⟩ (hw.sub [36, 37, 0, 1, 2, 3, 4, 5, 6, 7, 8, 9, 10, 11, 12, 13, 14, 15, 16, 17, 18, 19, 20, 21, 22, 23, 24, 25, 26, 27, 28, 29, 30, 31, 32, 33, 34, 35] (by decide +kernel) rfl) rfl dX9_drift_20
    · skip
      have hlo5 : ¬ ar2 < 0 := zz_lo1 c10_4
      refine lv_iload_n hx hb dX9_drift_13 rfl (lv_at hl 2 rfl) ?_
      refine lv_bipush (v := 60) hx hb dX9_drift_14 (by decide) ?_
      refine lv_icmp_le (tgt := 21) hx hb dX9_drift_16 (by decide) (fun c16_6 => ?_) (fun c16_6 => ?_)
      · skip
        obtain ⟨vq7, hvq7, rfl⟩ : ∃ k : Nat, k ≤ 60 ∧ ar2 = nI k := zz_rng hlo5 (Int32.not_lt.mpr c16_6) (by decide)
        refine lv_aload_n hx hb dX9_drift_21 rfl (lv_at hl 0 rfl) ?_
        refine zz_get (v := .ref my0) S hw fgX9_44 36 rfl rfl dX9_drift_22 ?_
        refine lv_aload_n hx hb dX9_drift_25 rfl (lv_at hl 0 rfl) ?_
        refine zz_get (v := .ref k0) S hw fgX9_40 36 rfl rfl dX9_drift_26 ?_
        refine zz_callV (qb := 28) (As := [.ref k0]) (rest := []) (wr := [(s3, .inl (G.2 0, 7, .inl m3)), (s4, .inl (G.2 0, 7, .inl m4)), (s6, .inl (G.2 0, 6, .inl m6)), (s7, .inl (G.2 0, 6, .inl m7)), (s9, .inl (G.2 0, 9, .inl fc)), (s8, .inl (G.2 4, 4, .inr (.inr (.inr (.inr (va_up (va_up (va_up (va_up (fun _ => none) 0 (some w0)) 1 (some w1)) 2 (some w2)) 3 (some w3))))))), (w0, .inr (2, [.ref x0, .ref x1, .ref x2, .int (nI n0), .int (nI u0)])), (x0, .inl (G.2 0, 400, .inl f0)), (x1, .inl (G.2 0, 14, .inl g0)), (x2, .inl (G.2 0, 32, .inl z0_)), (w1, .inr (2, [.ref x3, .ref x4, .ref x5, .int (nI n1), .int (nI u1)])), (x3, .inl (G.2 0, 400, .inl f1)), (x4, .inl (G.2 0, 14, .inl g1)), (x5, .inl (G.2 0, 32, .inl z1_)), (w2, .inr (2, [.ref x6, .ref x7, .ref x8, .int (nI n2), .int (nI u2)])), (x6, .inl (G.2 0, 400, .inl f2)), (x7, .inl (G.2 0, 14, .inl g2)), (x8, .inl (G.2 0, 32, .inl z2_)), (w3, .inr (2, [.ref x9, .ref x10, .ref x11, .int (nI n3), .int (nI u3)])), (x9, .inl (G.2 0, 400, .inl f3)), (x10, .inl (G.2 0, 14, .inl g3)), (x11, .inl (G.2 0, 32, .inl z3_)), (s5, .inl (G.2 0, 6, .inl m5)), (c0, .inr (0, [.ref a1, .ref a2, .int fi, .int sd])), (a1, .inl (G.2 0, 6, .inl wf)), (a2, .inl (G.2 0, 7, .inl af)), (ob0, .inr (9, [.ref ut, .int uf1, .ref h1, .int uf3, .ref sc, .ref dr0, .ref k0, .ref my0, .ref c0, .ref ga, .ref pa0, .ref t0, .ref sl0, .ref hd0])), (sc, .inr (5, [.ref s1, .ref s2, .ref s3, .ref s4, .ref s5, .ref s6, .ref s7, .ref s8, .ref s9, .int (nI pp), .int (nI pq), .int i3, .int i4]))]) S hw hl.1 lX9_244 (c_gcopyFrom l G my0 my1 my2 my3 my4 mf1 mf2 mf3 mf4 mi1 mi2 mi3 k0 b1 b2 b3 b4 e1 e2 e3 e4 o1 o2 o3) ⟨Nat.le_of_ble_eq_true rfl, Nat.le_of_ble_eq_true rfl⟩ ⟨Nat.le_of_ble_eq_true rfl, Nat.le_of_ble_eq_true rfl⟩ [28, 29, 30, 31, 32, 23, 24, 25, 26, 27] [0, 1, 2, 3, 4, 5, 6, 7, 8, 9, 10, 11, 12, 13, 14, 15, 16, 17, 18, 19, 20, 21, 22, 33, 34, 35, 36, 37] (by decide +kernel) rfl rfl (by decide +kernel) (by decide +kernel) rfl rfl rfl rfl (Nat.le_of_ble_eq_true rfl) dX9_drift_29 ?_
        clear hw
        intro rr u H locs hp hw
        refine hp.elim fun hh1_8 zg0 => zg0.elim fun hh2_9 zg1 => zg1.elim fun hh3_10 zg2 => zg2.elim fun hh4_11 zg3 => zg3.elim fun zee1 zg4 => zg4.elim fun zee2 hq29_0 => ?_
        clear hp zg0 zg1 zg2 zg3 zg4
        subst zee1
        subst zee2
        replace hw : zz_w G A s [(s3, .inl (G.2 0, 7, .inl m3)), (s4, .inl (G.2 0, 7, .inl m4)), (s6, .inl (G.2 0, 6, .inl m6)), (s7, .inl (G.2 0, 6, .inl m7)), (s9, .inl (G.2 0, 9, .inl fc)), (s8, .inl (G.2 4, 4, .inr (.inr (.inr (.inr (va_up (va_up (va_up (va_up (fun _ => none) 0 (some w0)) 1 (some w1)) 2 (some w2)) 3 (some w3))))))), (w0, .inr (2, [.ref x0, .ref x1, .ref x2, .int (nI n0), .int (nI u0)])), (x0, .inl (G.2 0, 400, .inl f0)), (x1, .inl (G.2 0, 14, .inl g0)), (x2, .inl (G.2 0, 32, .inl z0_)), (w1, .inr (2, [.ref x3, .ref x4, .ref x5, .int (nI n1), .int (nI u1)])), (x3, .inl (G.2 0, 400, .inl f1)), (x4, .inl (G.2 0, 14, .inl g1)), (x5, .inl (G.2 0, 32, .inl z1_)), (w2, .inr (2, [.ref x6, .ref x7, .ref x8, .int (nI n2), .int (nI u2)])), (x6, .inl (G.2 0, 400, .inl f2)), (x7, .inl (G.2 0, 14, .inl g2)), (x8, .inl (G.2 0, 32, .inl z2_)), (w3, .inr (2, [.ref x9, .ref x10, .ref x11, .int (nI n3), .int (nI u3)])), (x9, .inl (G.2 0, 400, .inl f3)), (x10, .inl (G.2 0, 14, .inl g3)), (x11, .inl (G.2 0, 32, .inl z3_)), (s5, .inl (G.2 0, 6, .inl m5)), (c0, .inr (0, [.ref a1, .ref a2, .int fi, .int sd])), (a1, .inl (G.2 0, 6, .inl wf)), (a2, .inl (G.2 0, 7, .inl af)), (ob0, .inr (9, [.ref ut, .int uf1, .ref h1, .int uf3, .ref sc, .ref dr0, .ref k0, .ref my0, .ref c0, .ref ga, .ref pa0, .ref t0, .ref sl0, .ref hd0])), (sc, .inr (5, [.ref s1, .ref s2, .ref s3, .ref s4, .ref s5, .ref s6, .ref s7, .ref s8, .ref s9, .int (nI pp), .int (nI pq), .int i3, .int i4])), (my0, .inr (6, [.ref my1, .ref my2, .ref my3, .ref my4, .int o1, .int o2, .int o3])), (my1, .inl (G.2 0, 7, .inl hh1_8)), (my2, .inl (G.2 0, 6, .inl hh2_9)), (my3, .inl (G.2 0, 7, .inl hh3_10)), (my4, .inl (G.2 0, 42, .inl hh4_11)), (k0, .inr (6, [.ref b1, .ref b2, .ref b3, .ref b4, .int o1, .int o2, .int o3])), (b1, .inl (G.2 0, 7, .inl e1)), (b2, .inl (G.2 0, 6, .inl e2)), (b3, .inl (G.2 0, 7, .inl e3)), (b4, .inl (G.2 0, 42, .inl e4))] H _ := hw
        refine W.eq (g2 := F0 m 32 ls []) rfl ?_
        refine W.eq (g2 := F0 m 32 ls []) rfl ?_
        refine lv_aload_n hx hb dX9_drift_32 rfl (lv_at hl 0 rfl) ?_
        refine zz_get (v := .ref c0) S hw fgX9_50 26 rfl rfl dX9_drift_33 ?_
        refine lv_aload_n hx hb dX9_drift_36 rfl (lv_at hl 0 rfl) ?_
        refine zz_get (v := .ref sc) S hw fgX9_30 26 rfl rfl dX9_drift_37 ?_
        refine lv_aload_n hx hb dX9_drift_40 rfl (lv_at hl 0 rfl) ?_
        refine zz_get (v := .ref my0) S hw fgX9_44 26 rfl rfl dX9_drift_41 ?_
        refine lv_iload_n hx hb dX9_drift_44 rfl (lv_at hl 2 rfl) ?_
        refine lv_aload_n hx hb dX9_drift_45 rfl (lv_at hl 0 rfl) ?_
        refine zz_get (v := .ref sc) S hw fgX9_30 26 rfl rfl dX9_drift_46 ?_
        refine zz_get (v := .int i4) S hw fgX9_190 27 rfl rfl dX9_drift_49 ?_
        refine lv_iconst (v := 0) hx hb dX9_drift_52 (by decide) ?_
        refine zz_callV (qb := 23) (As := [.ref sc, .ref my0, .int (nI vq7), .int i4, .int 0]) (rest := []) (wr := [(s5, .inl (G.2 0, 6, .inl m5)), (ob0, .inr (9, [.ref ut, .int uf1, .ref h1, .int uf3, .ref sc, .ref dr0, .ref k0, .ref my0, .ref c0, .ref ga, .ref pa0, .ref t0, .ref sl0, .ref hd0])), (k0, .inr (6, [.ref b1, .ref b2, .ref b3, .ref b4, .int o1, .int o2, .int o3])), (b1, .inl (G.2 0, 7, .inl e1)), (b2, .inl (G.2 0, 6, .inl e2)), (b3, .inl (G.2 0, 7, .inl e3)), (b4, .inl (G.2 0, 42, .inl e4))]) S hw hl.1 lX9_193 (c_gpassDays l G c0 a1 a2 wf af fi sd sc s1 s2 s3 s4 s5 s6 s7 s8 s9 w0 w1 w2 w3 x0 x1 x2 x3 x4 x5 x6 x7 x8 x9 x10 x11 pp pq i3 i4 m3 m4 m6 m7 fc f0 g0 n0 u0 z0_ f1 g1 n1 u1 z1_ f2 g2 n2 u2 z2_ f3 g3 n3 u3 z3_ my0 my1 my2 my3 my4 hh1_8 hh2_9 hh3_10 hh4_11 o1 o2 o3 vq7 i4 0 (by first | assumption | omega | exact Or.inr ⟨_, by omega, rfl⟩ | (unfold zz_sok; decide) | decide | exact (fun j hj => (hv7 j hj).1)) (by first | assumption | omega | exact Or.inr ⟨_, by omega, rfl⟩ | (unfold zz_sok; decide) | decide | exact (fun j hj => (hv7 j hj).1)) (by first | assumption | omega | exact Or.inr ⟨_, by omega, rfl⟩ | (unfold zz_sok; decide) | decide | exact (fun j hj => (hv7 j hj).1)) (by first | assumption | omega | exact Or.inr ⟨_, by omega, rfl⟩ | (unfold zz_sok; decide) | decide | exact (fun j hj => (hv7 j hj).1)) (by first | assumption | omega | exact Or.inr ⟨_, by omega, rfl⟩ | (unfold zz_sok; decide) | decide | exact (fun j hj => (hv7 j hj).1)) (by first | assumption | omega | exact Or.inr ⟨_, by omega, rfl⟩ | (unfold zz_sok; decide) | decide | exact (fun j hj => (hv7 j hj).1)) (by first | assumption | omega | exact Or.inr ⟨_, by omega, rfl⟩ | (unfold zz_sok; decide) | decide | exact (fun j hj => (hv7 j hj).1)) (by first | assumption | omega | exact Or.inr ⟨_, by omega, rfl⟩ | (unfold zz_sok; decide) | decide | exact (fun j hj => (hv7 j hj).1)) (by first | assumption | omega | exact Or.inr ⟨_, by omega, rfl⟩ | (unfold zz_sok; decide) | decide | exact (fun j hj => (hv7 j hj).1))) ⟨Nat.le_of_ble_eq_true rfl, Nat.le_of_ble_eq_true rfl⟩ ⟨Nat.le_of_ble_eq_true rfl, Nat.le_of_ble_eq_true rfl⟩ [23, 24, 25, 27, 0, 1, 2, 3, 4, 5, 6, 7, 8, 9, 10, 11, 12, 13, 14, 15, 16, 17, 18, 19, 20, 21, 28, 29, 30, 31, 32] [22, 26, 33, 34, 35, 36, 37] (by decide +kernel) rfl rfl (by decide +kernel) (by decide +kernel) rfl rfl rfl rfl (Nat.le_of_ble_eq_true rfl) dX9_drift_53 ?_
        clear hw
        intro rr u H locs hp hw
        refine hp.elim fun rv_12 zg0 => zg0.elim fun ww_13 zg1 => zg1.elim fun aa_14 zg2 => zg2.elim fun fi2_15 zg3 => zg3.elim fun sd2_16 zg4 => zg4.elim fun fcc_17 zg5 => zg5.elim fun zz0_18 zg6 => zg6.elim fun zz1_19 zg7 => zg7.elim fun zz2_20 zg8 => zg8.elim fun zz3_21 zg9 => zg9.elim fun ee2_22 zg10 => zg10.elim fun ee3_23 zg11 => zg11.elim fun ee4_24 zg12 => zg12.elim fun oo2_25 zg13 => zg13.elim fun oo3_26 zg14 => zg14.elim fun zee1 zg15 => zg15.elim fun zee2 zg16 => zg16.elim fun hq53_0 zg17 => zg17.elim fun hq53_1 zg18 => zg18.elim fun hq53_2 hq53_3 => ?_
        clear hp zg0 zg1 zg2 zg3 zg4 zg5 zg6 zg7 zg8 zg9 zg10 zg11 zg12 zg13 zg14 zg15 zg16 zg17 zg18
        subst zee1
        subst zee2
        replace hw : zz_w G A s [(s5, .inl (G.2 0, 6, .inl m5)), (ob0, .inr (9, [.ref ut, .int uf1, .ref h1, .int uf3, .ref sc, .ref dr0, .ref k0, .ref my0, .ref c0, .ref ga, .ref pa0, .ref t0, .ref sl0, .ref hd0])), (k0, .inr (6, [.ref b1, .ref b2, .ref b3, .ref b4, .int o1, .int o2, .int o3])), (b1, .inl (G.2 0, 7, .inl e1)), (b2, .inl (G.2 0, 6, .inl e2)), (b3, .inl (G.2 0, 7, .inl e3)), (b4, .inl (G.2 0, 42, .inl e4)), (c0, .inr (0, [.ref a1, .ref a2, .int fi2_15, .int sd2_16])), (a1, .inl (G.2 0, 6, .inl ww_13)), (a2, .inl (G.2 0, 7, .inl aa_14)), (sc, .inr (5, [.ref s1, .ref s2, .ref s3, .ref s4, .ref s5, .ref s6, .ref s7, .ref s8, .ref s9, .int (nI pp), .int (nI pq), .int i3, .int i4])), (s3, .inl (G.2 0, 7, .inl m3)), (s4, .inl (G.2 0, 7, .inl m4)), (s6, .inl (G.2 0, 6, .inl m6)), (s7, .inl (G.2 0, 6, .inl m7)), (s9, .inl (G.2 0, 9, .inl fcc_17)), (s8, .inl (G.2 4, 4, .inr (.inr (.inr (.inr (va_up (va_up (va_up (va_up (fun _ => none) 0 (some w0)) 1 (some w1)) 2 (some w2)) 3 (some w3))))))), (w0, .inr (2, [.ref x0, .ref x1, .ref x2, .int (nI n0), .int (nI u0)])), (x0, .inl (G.2 0, 400, .inl f0)), (x1, .inl (G.2 0, 14, .inl g0)), (x2, .inl (G.2 0, 32, .inl zz0_18)), (w1, .inr (2, [.ref x3, .ref x4, .ref x5, .int (nI n1), .int (nI u1)])), (x3, .inl (G.2 0, 400, .inl f1)), (x4, .inl (G.2 0, 14, .inl g1)), (x5, .inl (G.2 0, 32, .inl zz1_19)), (w2, .inr (2, [.ref x6, .ref x7, .ref x8, .int (nI n2), .int (nI u2)])), (x6, .inl (G.2 0, 400, .inl f2)), (x7, .inl (G.2 0, 14, .inl g2)), (x8, .inl (G.2 0, 32, .inl zz2_20)), (w3, .inr (2, [.ref x9, .ref x10, .ref x11, .int (nI n3), .int (nI u3)])), (x9, .inl (G.2 0, 400, .inl f3)), (x10, .inl (G.2 0, 14, .inl g3)), (x11, .inl (G.2 0, 32, .inl zz3_21)), (my0, .inr (6, [.ref my1, .ref my2, .ref my3, .ref my4, .int o1, .int oo2_25, .int oo3_26])), (my1, .inl (G.2 0, 7, .inl hh1_8)), (my2, .inl (G.2 0, 6, .inl ee2_22)), (my3, .inl (G.2 0, 7, .inl ee3_23)), (my4, .inl (G.2 0, 42, .inl ee4_24))] H _ := hw
        refine W.eq (g2 := F0 m 56 ls [.int rv_12]) rfl ?_
        refine lv_pop hx hb dX9_drift_56 rfl ?_
        refine lv_aload_n hx hb dX9_drift_57 rfl (lv_at hl 0 rfl) ?_
        refine W.eq (g2 := F0 m 58 ls [.ref ob0]) rfl ?_
        refine zz_get (v := .ref my0) S hw fgX9_44 1 rfl rfl dX9_drift_58 ?_
        refine zz_get (v := .ref my2) S hw fgX9_157 33 rfl rfl dX9_drift_61 ?_
        refine lv_iload_n hx hb dX9_drift_64 rfl (lv_at hl 1 rfl) ?_
        refine zz_iald (v := (ee2_22 vq3)) S hw 35 rfl (vp_in_nI (n := vq3) (by omega) (by decide)) (congrArg ee2_22 (nI_clamp (n := vq3) (by omega))) dX9_drift_65 ?_
        refine lv_aload_n hx hb dX9_drift_66 rfl (lv_at hl 0 rfl) ?_
        refine zz_get (v := .ref k0) S hw fgX9_40 1 rfl rfl dX9_drift_67 ?_
        refine zz_get (v := .ref b2) S hw fgX9_157 2 rfl rfl dX9_drift_70 ?_
        refine lv_iload_n hx hb dX9_drift_73 rfl (lv_at hl 1 rfl) ?_
        refine zz_iald (v := (e2 vq3)) S hw 4 rfl (vp_in_nI (n := vq3) (by omega) (by decide)) (congrArg e2 (nI_clamp (n := vq3) (by omega))) dX9_drift_74 ?_
        refine zz_callS (As := [.int (ee2_22 vq3), .int (e2 vq3)]) (rest := []) (wr := [(s5, .inl (G.2 0, 6, .inl m5)), (ob0, .inr (9, [.ref ut, .int uf1, .ref h1, .int uf3, .ref sc, .ref dr0, .ref k0, .ref my0, .ref c0, .ref ga, .ref pa0, .ref t0, .ref sl0, .ref hd0])), (k0, .inr (6, [.ref b1, .ref b2, .ref b3, .ref b4, .int o1, .int o2, .int o3])), (b1, .inl (G.2 0, 7, .inl e1)), (b2, .inl (G.2 0, 6, .inl e2)), (b3, .inl (G.2 0, 7, .inl e3)), (b4, .inl (G.2 0, 42, .inl e4)), (c0, .inr (0, [.ref a1, .ref a2, .int fi2_15, .int sd2_16])), (a1, .inl (G.2 0, 6, .inl ww_13)), (a2, .inl (G.2 0, 7, .inl aa_14)), (sc, .inr (5, [.ref s1, .ref s2, .ref s3, .ref s4, .ref s5, .ref s6, .ref s7, .ref s8, .ref s9, .int (nI pp), .int (nI pq), .int i3, .int i4])), (s3, .inl (G.2 0, 7, .inl m3)), (s4, .inl (G.2 0, 7, .inl m4)), (s6, .inl (G.2 0, 6, .inl m6)), (s7, .inl (G.2 0, 6, .inl m7)), (s9, .inl (G.2 0, 9, .inl fcc_17)), (s8, .inl (G.2 4, 4, .inr (.inr (.inr (.inr (va_up (va_up (va_up (va_up (fun _ => none) 0 (some w0)) 1 (some w1)) 2 (some w2)) 3 (some w3))))))), (w0, .inr (2, [.ref x0, .ref x1, .ref x2, .int (nI n0), .int (nI u0)])), (x0, .inl (G.2 0, 400, .inl f0)), (x1, .inl (G.2 0, 14, .inl g0)), (x2, .inl (G.2 0, 32, .inl zz0_18)), (w1, .inr (2, [.ref x3, .ref x4, .ref x5, .int (nI n1), .int (nI u1)])), (x3, .inl (G.2 0, 400, .inl f1)), (x4, .inl (G.2 0, 14, .inl g1)), (x5, .inl (G.2 0, 32, .inl zz1_19)), (w2, .inr (2, [.ref x6, .ref x7, .ref x8, .int (nI n2), .int (nI u2)])), (x6, .inl (G.2 0, 400, .inl f2)), (x7, .inl (G.2 0, 14, .inl g2)), (x8, .inl (G.2 0, 32, .inl zz2_20)), (w3, .inr (2, [.ref x9, .ref x10, .ref x11, .int (nI n3), .int (nI u3)])), (x9, .inl (G.2 0, 400, .inl f3)), (x10, .inl (G.2 0, 14, .inl g3)), (x11, .inl (G.2 0, 32, .inl zz3_21)), (my0, .inr (6, [.ref my1, .ref my2, .ref my3, .ref my4, .int o1, .int oo2_25, .int oo3_26])), (my1, .inl (G.2 0, 7, .inl hh1_8)), (my2, .inl (G.2 0, 6, .inl ee2_22)), (my3, .inl (G.2 0, 7, .inl ee3_23)), (my4, .inl (G.2 0, 42, .inl ee4_24))]) S hw hl.1 lX9_177 (c_ghours l G (ee2_22 vq3) (e2 vq3)) ⟨Nat.le_of_ble_eq_true rfl, Nat.le_of_ble_eq_true rfl⟩ ⟨Nat.le_of_ble_eq_true rfl, Nat.le_of_ble_eq_true rfl⟩ [] [0, 1, 2, 3, 4, 5, 6, 7, 8, 9, 10, 11, 12, 13, 14, 15, 16, 17, 18, 19, 20, 21, 22, 23, 24, 25, 26, 27, 28, 29, 30, 31, 32, 33, 34, 35, 36, 37] (by decide +kernel) rfl rfl (by decide +kernel) (by decide +kernel) rfl rfl (Nat.le_of_ble_eq_true rfl) dX9_drift_75 ?_
        clear hw
        intro rr u H locs hp hw
        refine hp.elim fun rv_27 zg0 => zg0.elim fun zee1 zg1 => zg1.elim fun zee2 hq75_0 => ?_
        clear hp zg0 zg1
        subst zee1
        subst zee2
        replace hw : zz_w G A s [(s5, .inl (G.2 0, 6, .inl m5)), (ob0, .inr (9, [.ref ut, .int uf1, .ref h1, .int uf3, .ref sc, .ref dr0, .ref k0, .ref my0, .ref c0, .ref ga, .ref pa0, .ref t0, .ref sl0, .ref hd0])), (k0, .inr (6, [.ref b1, .ref b2, .ref b3, .ref b4, .int o1, .int o2, .int o3])), (b1, .inl (G.2 0, 7, .inl e1)), (b2, .inl (G.2 0, 6, .inl e2)), (b3, .inl (G.2 0, 7, .inl e3)), (b4, .inl (G.2 0, 42, .inl e4)), (c0, .inr (0, [.ref a1, .ref a2, .int fi2_15, .int sd2_16])), (a1, .inl (G.2 0, 6, .inl ww_13)), (a2, .inl (G.2 0, 7, .inl aa_14)), (sc, .inr (5, [.ref s1, .ref s2, .ref s3, .ref s4, .ref s5, .ref s6, .ref s7, .ref s8, .ref s9, .int (nI pp), .int (nI pq), .int i3, .int i4])), (s3, .inl (G.2 0, 7, .inl m3)), (s4, .inl (G.2 0, 7, .inl m4)), (s6, .inl (G.2 0, 6, .inl m6)), (s7, .inl (G.2 0, 6, .inl m7)), (s9, .inl (G.2 0, 9, .inl fcc_17)), (s8, .inl (G.2 4, 4, .inr (.inr (.inr (.inr (va_up (va_up (va_up (va_up (fun _ => none) 0 (some w0)) 1 (some w1)) 2 (some w2)) 3 (some w3))))))), (w0, .inr (2, [.ref x0, .ref x1, .ref x2, .int (nI n0), .int (nI u0)])), (x0, .inl (G.2 0, 400, .inl f0)), (x1, .inl (G.2 0, 14, .inl g0)), (x2, .inl (G.2 0, 32, .inl zz0_18)), (w1, .inr (2, [.ref x3, .ref x4, .ref x5, .int (nI n1), .int (nI u1)])), (x3, .inl (G.2 0, 400, .inl f1)), (x4, .inl (G.2 0, 14, .inl g1)), (x5, .inl (G.2 0, 32, .inl zz1_19)), (w2, .inr (2, [.ref x6, .ref x7, .ref x8, .int (nI n2), .int (nI u2)])), (x6, .inl (G.2 0, 400, .inl f2)), (x7, .inl (G.2 0, 14, .inl g2)), (x8, .inl (G.2 0, 32, .inl zz2_20)), (w3, .inr (2, [.ref x9, .ref x10, .ref x11, .int (nI n3), .int (nI u3)])), (x9, .inl (G.2 0, 400, .inl f3)), (x10, .inl (G.2 0, 14, .inl g3)), (x11, .inl (G.2 0, 32, .inl zz3_21)), (my0, .inr (6, [.ref my1, .ref my2, .ref my3, .ref my4, .int o1, .int oo2_25, .int oo3_26])), (my1, .inl (G.2 0, 7, .inl hh1_8)), (my2, .inl (G.2 0, 6, .inl ee2_22)), (my3, .inl (G.2 0, 7, .inl ee3_23)), (my4, .inl (G.2 0, 42, .inl ee4_24))] H _ := hw
        refine W.eq (g2 := F0 m 78 ls [.int rv_27]) rfl ?_
        exact hret _ _ _ _ _ _ ⟨rv_27, fcc_17, zz0_18, zz1_19, zz2_20, zz3_21, hh1_8, ee2_22, ee3_23, ee4_24, o1, oo2_25, oo3_26, ww_13, aa_14, fi2_15, sd2_16, rfl, rfl, (by first | exact zA0 (fun z => hq2_1 (by assumption) z.1) | exact zA0 (fun z => zA_1n (by assumption) z.2) | exact zA0 (fun z => zA_lt (by assumption) (by decide) z.2.1) | exact zA0 (fun z => zA_g60 (by assumption) z.2.1) | exact zA0 (fun z => zA_60 (by assumption) z.2.1) | exact zA1 ⟨⟨_, by assumption, rfl⟩, zA_1y (by assumption) (by assumption)⟩ ⟨_, _, by assumption, by assumption, rfl, rfl, _, _, _, _, _, _, _, _, _, _, hq29_0, hq53_3, hq75_0⟩), (by first | assumption | exact Or.inl rfl | exact Or.inr rfl | omega), (by first | assumption | exact Or.inl rfl | exact Or.inr rfl | omega)⟩ (hw.sub [1, 10, 11, 12, 13, 14, 15, 16, 17, 18, 19, 20, 21, 22, 23, 24, 25, 26, 27, 28, 29, 30, 31, 32, 0, 2, 3, 4, 5, 6, 33, 34, 35, 36, 37, 7, 8, 9] (by decide +kernel) rfl) rfl dX9_drift_78
      · skip
        refine lv_iconst (v := (-1)) hx hb dX9_drift_19 (by decide) ?_
        exact hret _ _ _ _ _ _ ⟨(-1), fc, z0_, z1_, z2_, z3_, mf1, mf2, mf3, mf4, mi1, mi2, mi3, wf, af, fi, sd, rfl, rfl, (by first | exact zA0 (fun z => hq2_1 (by assumption) z.1) | exact zA0 (fun z => zA_1n (by assumption) z.2) | exact zA0 (fun z => zA_lt (by assumption) (by decide) z.2.1) | exact zA0 (fun z => zA_g60 (by assumption) z.2.1) | exact zA0 (fun z => zA_60 (by assumption) z.2.1) | exact zA1 ⟨⟨_, by assumption, rfl⟩, zA_1y (by assumption) (by assumption)⟩ ⟨_, _, by assumption, by assumption, rfl, rfl, _, _, _, _, _, _, _, _, _, _, hq29_0, hq53_3, hq75_0⟩), (by first | assumption | exact Or.inl rfl | exact Or.inr rfl | omega), (by first | assumption | exact Or.inl rfl | exact Or.inr rfl | omega)⟩ (hw.sub [36, 37, 0, 1, 2, 3, 4, 5, 6, 7, 8, 9, 10, 11, 12, 13, 14, 15, 16, 17, 18, 19, 20, 21, 22, 23, 24, 25, 26, 27, 28, 29, 30, 31, 32, 33, 34, 35] (by decide +kernel) rfl) rfl dX9_drift_20
theorem kd_ncX9_firstTwoAtOneHour : kd_ck 2319449456603665046715506604642746727623516457679756513270959493766974278050059939660676863406741552844238749580552586998781231711639676813096429483603016963 65 cX9_firstTwoAtOneHour.data.toList 0 = true := by decide +kernel
theorem dX9_firstTwoAtOneHour_0 : decode cX9_firstTwoAtOneHour 0 = .ok (.iconst 0, 1) := kd_dk0 kd_o3 kd_ncX9_firstTwoAtOneHour rfl
theorem dX9_firstTwoAtOneHour_1 : decode cX9_firstTwoAtOneHour 1 = .ok (.istore_n 2, 1) := kd_dk0 kd_o61 kd_ncX9_firstTwoAtOneHour rfl
theorem dX9_firstTwoAtOneHour_2 : decode cX9_firstTwoAtOneHour 2 = .ok (.iload_n 2, 1) := kd_dk0 kd_o28 kd_ncX9_firstTwoAtOneHour rfl
theorem dX9_firstTwoAtOneHour_3 : decode cX9_firstTwoAtOneHour 3 = .ok (.aload_n 0, 1) := kd_dk0 kd_o42 kd_ncX9_firstTwoAtOneHour rfl
theorem dX9_firstTwoAtOneHour_4 : decode cX9_firstTwoAtOneHour 4 = .ok (.getfield 30, 3) := kd_dk2 kd_o180 kd_ncX9_firstTwoAtOneHour rfl
theorem dX9_firstTwoAtOneHour_7 : decode cX9_firstTwoAtOneHour 7 = .ok (.getfield 108, 3) := kd_dk2 kd_o180 kd_ncX9_firstTwoAtOneHour rfl
theorem dX9_firstTwoAtOneHour_10 : decode cX9_firstTwoAtOneHour 10 = .ok (.if_icmp .ge 52, 3) := kd_dj2 kd_o162 (w := 52) kd_ncX9_firstTwoAtOneHour rfl rfl
theorem dX9_firstTwoAtOneHour_13 : decode cX9_firstTwoAtOneHour 13 = .ok (.iload_n 2, 1) := kd_dk0 kd_o28 kd_ncX9_firstTwoAtOneHour rfl
theorem dX9_firstTwoAtOneHour_14 : decode cX9_firstTwoAtOneHour 14 = .ok (.iconst 1, 1) := kd_dk0 kd_o4 kd_ncX9_firstTwoAtOneHour rfl
theorem dX9_firstTwoAtOneHour_15 : decode cX9_firstTwoAtOneHour 15 = .ok (.iadd, 1) := kd_dk0 kd_o96 kd_ncX9_firstTwoAtOneHour rfl
theorem dX9_firstTwoAtOneHour_16 : decode cX9_firstTwoAtOneHour 16 = .ok (.istore_n 3, 1) := kd_dk0 kd_o62 kd_ncX9_firstTwoAtOneHour rfl
theorem dX9_firstTwoAtOneHour_17 : decode cX9_firstTwoAtOneHour 17 = .ok (.iload_n 3, 1) := kd_dk0 kd_o29 kd_ncX9_firstTwoAtOneHour rfl
theorem dX9_firstTwoAtOneHour_18 : decode cX9_firstTwoAtOneHour 18 = .ok (.aload_n 0, 1) := kd_dk0 kd_o42 kd_ncX9_firstTwoAtOneHour rfl
theorem dX9_firstTwoAtOneHour_19 : decode cX9_firstTwoAtOneHour 19 = .ok (.getfield 30, 3) := kd_dk2 kd_o180 kd_ncX9_firstTwoAtOneHour rfl
theorem dX9_firstTwoAtOneHour_22 : decode cX9_firstTwoAtOneHour 22 = .ok (.getfield 108, 3) := kd_dk2 kd_o180 kd_ncX9_firstTwoAtOneHour rfl
theorem dX9_firstTwoAtOneHour_25 : decode cX9_firstTwoAtOneHour 25 = .ok (.if_icmp .ge 31, 3) := kd_dj2 kd_o162 (w := 31) kd_ncX9_firstTwoAtOneHour rfl rfl
theorem dX9_firstTwoAtOneHour_28 : decode cX9_firstTwoAtOneHour 28 = .ok (.aload_n 1, 1) := kd_dk0 kd_o43 kd_ncX9_firstTwoAtOneHour rfl
theorem dX9_firstTwoAtOneHour_29 : decode cX9_firstTwoAtOneHour 29 = .ok (.getfield 157, 3) := kd_dk2 kd_o180 kd_ncX9_firstTwoAtOneHour rfl
theorem dX9_firstTwoAtOneHour_32 : decode cX9_firstTwoAtOneHour 32 = .ok (.iload_n 2, 1) := kd_dk0 kd_o28 kd_ncX9_firstTwoAtOneHour rfl
theorem dX9_firstTwoAtOneHour_33 : decode cX9_firstTwoAtOneHour 33 = .ok (.iaload, 1) := kd_dk0 kd_o46 kd_ncX9_firstTwoAtOneHour rfl
theorem dX9_firstTwoAtOneHour_34 : decode cX9_firstTwoAtOneHour 34 = .ok (.aload_n 1, 1) := kd_dk0 kd_o43 kd_ncX9_firstTwoAtOneHour rfl
theorem dX9_firstTwoAtOneHour_35 : decode cX9_firstTwoAtOneHour 35 = .ok (.getfield 157, 3) := kd_dk2 kd_o180 kd_ncX9_firstTwoAtOneHour rfl
theorem dX9_firstTwoAtOneHour_38 : decode cX9_firstTwoAtOneHour 38 = .ok (.iload_n 3, 1) := kd_dk0 kd_o29 kd_ncX9_firstTwoAtOneHour rfl
theorem dX9_firstTwoAtOneHour_39 : decode cX9_firstTwoAtOneHour 39 = .ok (.iaload, 1) := kd_dk0 kd_o46 kd_ncX9_firstTwoAtOneHour rfl
theorem dX9_firstTwoAtOneHour_40 : decode cX9_firstTwoAtOneHour 40 = .ok (.if_icmp .ne 10, 3) := kd_dj2 kd_o160 (w := 10) kd_ncX9_firstTwoAtOneHour rfl rfl
theorem dX9_firstTwoAtOneHour_43 : decode cX9_firstTwoAtOneHour 43 = .ok (.bipush 10, 2) := kd_dj1 kd_o16 (w := 10) kd_ncX9_firstTwoAtOneHour rfl rfl
theorem dX9_firstTwoAtOneHour_45 : decode cX9_firstTwoAtOneHour 45 = .ok (.iload_n 2, 1) := kd_dk0 kd_o28 kd_ncX9_firstTwoAtOneHour rfl
theorem dX9_firstTwoAtOneHour_46 : decode cX9_firstTwoAtOneHour 46 = .ok (.imul, 1) := kd_dk0 kd_o104 kd_ncX9_firstTwoAtOneHour rfl
theorem dX9_firstTwoAtOneHour_47 : decode cX9_firstTwoAtOneHour 47 = .ok (.iload_n 3, 1) := kd_dk0 kd_o29 kd_ncX9_firstTwoAtOneHour rfl
theorem dX9_firstTwoAtOneHour_48 : decode cX9_firstTwoAtOneHour 48 = .ok (.iadd, 1) := kd_dk0 kd_o96 kd_ncX9_firstTwoAtOneHour rfl
theorem dX9_firstTwoAtOneHour_49 : decode cX9_firstTwoAtOneHour 49 = .ok (.ireturn, 1) := kd_dk0 kd_o172 kd_ncX9_firstTwoAtOneHour rfl
theorem dX9_firstTwoAtOneHour_50 : decode cX9_firstTwoAtOneHour 50 = .ok (.iinc 3 1, 3) := kd_dji kd_o132 (w := 1) kd_ncX9_firstTwoAtOneHour rfl rfl
theorem dX9_firstTwoAtOneHour_53 : decode cX9_firstTwoAtOneHour 53 = .ok (.goto (-36), 3) := kd_dj2 kd_o167 (w := 65500) kd_ncX9_firstTwoAtOneHour rfl rfl
theorem dX9_firstTwoAtOneHour_56 : decode cX9_firstTwoAtOneHour 56 = .ok (.iinc 2 1, 3) := kd_dji kd_o132 (w := 1) kd_ncX9_firstTwoAtOneHour rfl rfl
theorem dX9_firstTwoAtOneHour_59 : decode cX9_firstTwoAtOneHour 59 = .ok (.goto (-57), 3) := kd_dj2 kd_o167 (w := 65479) kd_ncX9_firstTwoAtOneHour rfl rfl
theorem dX9_firstTwoAtOneHour_62 : decode cX9_firstTwoAtOneHour 62 = .ok (.bipush (-2), 2) := kd_dj1 kd_o16 (w := 254) kd_ncX9_firstTwoAtOneHour rfl rfl
theorem dX9_firstTwoAtOneHour_64 : decode cX9_firstTwoAtOneHour 64 = .ok (.ireturn, 1) := kd_dk0 kd_o172 kd_ncX9_firstTwoAtOneHour rfl
set_option maxHeartbeats 8000000 in
set_option maxRecDepth 100000 in
theorem c_g_firstTwoAtOneHour (l : Launch) (G : zz_G) (ob0 : Nat) (ut : Nat) (uf1 : Int32) (h1 : Nat) (uf3 : Int32) (sc : Nat) (dr0 : Nat) (k0 : Nat) (my0 : Nat) (c0 : Nat) (ga : Nat) (pa0 : Nat) (t0 : Nat) (sl0 : Nat) (hd0 : Nat) (s1 : Nat) (s2 : Nat) (s3 : Nat) (s4 : Nat) (s5 : Nat) (s6 : Nat) (s7 : Nat) (s8 : Nat) (s9 : Nat) (pp : Nat) (pq : Nat) (i3 : Int32) (i4 : Int32) (z0 : Nat) (z1 : Nat) (z2 : Nat) (z3 : Nat) (z4 : Nat) (zf1 : Nat → Int32) (zf2 : Nat → Int32) (zf3 : Nat → Int32) (zf4 : Nat → Int32) (zi1 : Int32) (zi2 : Int32) (zi3 : Int32) (hpp : pp ≤ 7) (hpq : pq ≤ 6) : zz_M l G mX9_firstTwoAtOneHour 0 0 0 [.ref ob0, .ref z0] [(ob0, .inr (9, [.ref ut, .int uf1, .ref h1, .int uf3, .ref sc, .ref dr0, .ref k0, .ref my0, .ref c0, .ref ga, .ref pa0, .ref t0, .ref sl0, .ref hd0])), (sc, .inr (5, [.ref s1, .ref s2, .ref s3, .ref s4, .ref s5, .ref s6, .ref s7, .ref s8, .ref s9, .int (nI pp), .int (nI pq), .int i3, .int i4])), (z0, .inr (6, [.ref z1, .ref z2, .ref z3, .ref z4, .int zi1, .int zi2, .int zi3])), (z1, .inl (G.2 0, 7, .inl zf1)), (z2, .inl (G.2 0, 6, .inl zf2)), (z3, .inl (G.2 0, 7, .inl zf3)), (z4, .inl (G.2 0, 42, .inl zf4))] (fun rr u => ∃ (rv : Int32), rr = some (.int rv) ∧ u = [(ob0, .inr (9, [.ref ut, .int uf1, .ref h1, .int uf3, .ref sc, .ref dr0, .ref k0, .ref my0, .ref c0, .ref ga, .ref pa0, .ref t0, .ref sl0, .ref hd0])), (sc, .inr (5, [.ref s1, .ref s2, .ref s3, .ref s4, .ref s5, .ref s6, .ref s7, .ref s8, .ref s9, .int (nI pp), .int (nI pq), .int i3, .int i4])), (z0, .inr (6, [.ref z1, .ref z2, .ref z3, .ref z4, .int zi1, .int zi2, .int zi3])), (z1, .inl (G.2 0, 7, .inl zf1)), (z2, .inl (G.2 0, 6, .inl zf2)), (z3, .inl (G.2 0, 7, .inl zf3)), (z4, .inl (G.2 0, 42, .inl zf4))]) := by
  refine zz_enteri (by decide +kernel) (Nat.le_of_ble_eq_true rfl) ?_
  intro p e s m args below meth c A Q ls S hnm hret hw hl
  have hl : lv_has ls 4 [(0, .ref ob0), (1, .ref z0)] := hl
  have hx := S.1
  have hb := S.2.1
  refine lv_iconst (v := 0) hx hb dX9_firstTwoAtOneHour_0 (by decide) ?_
  refine lv_istore_n (lv' := [(2, .int 0), (0, .ref ob0), (1, .ref z0)]) hx hb dX9_firstTwoAtOneHour_1 rfl hl (by decide) rfl (fun ls hl => ?_)
  have lp2_11 : ∀ (vn2 vi1 : Nat) (H : Heap) (locs : List Loc) (ls : Array Slot), vi1 ≤ pq → pq < vi1 + vn2 → zz_w G A s [(ob0, .inr (9, [.ref ut, .int uf1, .ref h1, .int uf3, .ref sc, .ref dr0, .ref k0, .ref my0, .ref c0, .ref ga, .ref pa0, .ref t0, .ref sl0, .ref hd0])), (sc, .inr (5, [.ref s1, .ref s2, .ref s3, .ref s4, .ref s5, .ref s6, .ref s7, .ref s8, .ref s9, .int (nI pp), .int (nI pq), .int i3, .int i4])), (z0, .inr (6, [.ref z1, .ref z2, .ref z3, .ref z4, .int zi1, .int zi2, .int zi3])), (z1, .inl (G.2 0, 7, .inl zf1)), (z2, .inl (G.2 0, 6, .inl zf2)), (z3, .inl (G.2 0, 7, .inl zf3)), (z4, .inl (G.2 0, 42, .inl zf4))] H locs → lv_has ls 4 [(2, .int (nI vi1)), (0, .ref ob0), (1, .ref z0)] → W p l e (zz_rm 0 0 0) s m args below meth c H locs (0) (0) Q (F0 m 2 ls []) := by
    intro vn2
    induction vn2 with
    | zero => intro vi1  H locs ls hi1 hi2; exact absurd hi2 (by omega)
    | succ vn2 ih2 =>
      intro vi1  H locs ls hi2a hi2b  hw hl
      refine lv_iload_n hx hb dX9_firstTwoAtOneHour_2 rfl (lv_at hl 0 rfl) ?_
      refine lv_aload_n hx hb dX9_firstTwoAtOneHour_3 rfl (lv_at hl 1 rfl) ?_
      refine zz_get (v := .ref sc) S hw fgX9_30 0 rfl rfl dX9_firstTwoAtOneHour_4 ?_
      refine zz_get (v := .int (nI pq)) S hw fgX9_108 1 rfl rfl dX9_firstTwoAtOneHour_7 ?_
      refine lv_icmp_ge (tgt := 62) hx hb dX9_firstTwoAtOneHour_10 (by decide) (fun c10_12 => ?_) (fun c10_12 => ?_)
      · skip
        have c10_12n : pq ≤ vi1 := (zz_le (a := pq) (b := vi1) rfl rfl (by omega) (by omega)).mp c10_12
        refine lv_bipush (v := (-2)) hx hb dX9_firstTwoAtOneHour_62 (by decide) ?_
        exact hret _ _ _ _ _ _ ⟨(-2), rfl, rfl⟩ hw rfl dX9_firstTwoAtOneHour_64
      · skip
        have c10_12n : ¬ (pq ≤ vi1) := fun z => c10_12 ((zz_le (a := pq) (b := vi1) rfl rfl (by omega) (by omega)).mpr z)
        refine lv_iload_n hx hb dX9_firstTwoAtOneHour_13 rfl (lv_at hl 0 rfl) ?_
        refine lv_iconst (v := 1) hx hb dX9_firstTwoAtOneHour_14 (by decide) ?_
        refine lv_iadd hx hb dX9_firstTwoAtOneHour_15 ?_
        refine zz_topi (y := (nI (vi1 + 1))) (nI_add _ _) ?_
        refine lv_istore_n (lv' := [(3, .int (nI (vi1 + 1))), (2, .int (nI vi1)), (0, .ref ob0), (1, .ref z0)]) hx hb dX9_firstTwoAtOneHour_16 rfl hl (by decide) rfl (fun ls hl => ?_)
        have lp17_17 : ∀ (vn14 vi13 : Nat) (H : Heap) (locs : List Loc) (ls : Array Slot), vi13 ≤ pq → pq < vi13 + vn14 → zz_w G A s [(ob0, .inr (9, [.ref ut, .int uf1, .ref h1, .int uf3, .ref sc, .ref dr0, .ref k0, .ref my0, .ref c0, .ref ga, .ref pa0, .ref t0, .ref sl0, .ref hd0])), (sc, .inr (5, [.ref s1, .ref s2, .ref s3, .ref s4, .ref s5, .ref s6, .ref s7, .ref s8, .ref s9, .int (nI pp), .int (nI pq), .int i3, .int i4])), (z0, .inr (6, [.ref z1, .ref z2, .ref z3, .ref z4, .int zi1, .int zi2, .int zi3])), (z1, .inl (G.2 0, 7, .inl zf1)), (z2, .inl (G.2 0, 6, .inl zf2)), (z3, .inl (G.2 0, 7, .inl zf3)), (z4, .inl (G.2 0, 42, .inl zf4))] H locs → lv_has ls 4 [(3, .int (nI vi13)), (2, .int (nI vi1)), (0, .ref ob0), (1, .ref z0)] → W p l e (zz_rm 0 0 0) s m args below meth c H locs (0) (0) Q (F0 m 17 ls []) := by
          intro vn14
          induction vn14 with
          | zero => intro vi13  H locs ls hi1 hi2; exact absurd hi2 (by omega)
          | succ vn14 ih17 =>
            intro vi13  H locs ls hi17a hi17b  hw hl
            refine lv_iload_n hx hb dX9_firstTwoAtOneHour_17 rfl (lv_at hl 0 rfl) ?_
            refine lv_aload_n hx hb dX9_firstTwoAtOneHour_18 rfl (lv_at hl 2 rfl) ?_
            refine zz_get (v := .ref sc) S hw fgX9_30 0 rfl rfl dX9_firstTwoAtOneHour_19 ?_
            refine W.eq (g2 := F0 m 22 ls [.ref sc, .int (nI vi13)]) rfl ?_
            refine zz_get (v := .int (nI pq)) S hw fgX9_108 1 rfl rfl dX9_firstTwoAtOneHour_22 ?_
            refine lv_icmp_ge (tgt := 56) hx hb dX9_firstTwoAtOneHour_25 (by decide) (fun c25_18 => ?_) (fun c25_18 => ?_)
            · skip
              have c25_18n : pq ≤ vi13 := (zz_le (a := pq) (b := vi13) rfl rfl (by omega) (by omega)).mp c25_18
              refine lv_iinc (v := (nI (vi1 + 1))) (lv' := [(2, .int (nI (vi1 + 1))), (3, .int (nI vi13)), (0, .ref ob0), (1, .ref z0)]) hx hb dX9_firstTwoAtOneHour_56 hl (k := 1) rfl (nI_add _ 1) (by decide) rfl (fun ls hl => ?_)
              refine lv_goto (tgt := 2) hx hb dX9_firstTwoAtOneHour_59 (by decide) ?_
              exact ih2 (vi1 + 1) _ _ _ (by omega) (by omega) hw (lv_sub hl [0, 2, 3] rfl)
            · skip
              have c25_18n : ¬ (pq ≤ vi13) := fun z => c25_18 ((zz_le (a := pq) (b := vi13) rfl rfl (by omega) (by omega)).mpr z)
              refine lv_aload_n hx hb dX9_firstTwoAtOneHour_28 rfl (lv_at hl 3 rfl) ?_
              refine zz_get (v := .ref z2) S hw fgX9_157 2 rfl rfl dX9_firstTwoAtOneHour_29 ?_
              refine lv_iload_n hx hb dX9_firstTwoAtOneHour_32 rfl (lv_at hl 1 rfl) ?_
              refine zz_iald (v := (zf2 vi1)) S hw 4 rfl (vp_in_nI (n := vi1) (by omega) (by decide)) (congrArg zf2 (nI_clamp (n := vi1) (by omega))) dX9_firstTwoAtOneHour_33 ?_
              refine lv_aload_n hx hb dX9_firstTwoAtOneHour_34 rfl (lv_at hl 3 rfl) ?_
              refine zz_get (v := .ref z2) S hw fgX9_157 2 rfl rfl dX9_firstTwoAtOneHour_35 ?_
              refine lv_iload_n hx hb dX9_firstTwoAtOneHour_38 rfl (lv_at hl 0 rfl) ?_
              refine zz_iald (v := (zf2 vi13)) S hw 4 rfl (vp_in_nI (n := vi13) (by omega) (by decide)) (congrArg zf2 (nI_clamp (n := vi13) (by omega))) dX9_firstTwoAtOneHour_39 ?_
              refine lv_icmp_ne (tgt := 50) hx hb dX9_firstTwoAtOneHour_40 (by decide) (fun c40_19 => ?_) (fun c40_19 => ?_)
              · skip
                refine lv_iinc (v := (nI (vi13 + 1))) (lv' := [(3, .int (nI (vi13 + 1))), (2, .int (nI vi1)), (0, .ref ob0), (1, .ref z0)]) hx hb dX9_firstTwoAtOneHour_50 hl (k := 0) rfl (nI_add _ 1) (by decide) rfl (fun ls hl => ?_)
                refine lv_goto (tgt := 17) hx hb dX9_firstTwoAtOneHour_53 (by decide) ?_
                exact ih17 (vi13 + 1) _ _ _ (by omega) (by omega) hw (lv_sub hl [0, 1, 2, 3] rfl)
              · skip
                refine lv_bipush (v := 10) hx hb dX9_firstTwoAtOneHour_43 (by decide) ?_
                refine W.eq (g2 := F0 m 45 ls [.int 10]) rfl ?_
                refine lv_iload_n hx hb dX9_firstTwoAtOneHour_45 rfl (lv_at hl 1 rfl) ?_
                refine lv_imul hx hb dX9_firstTwoAtOneHour_46 ?_
                refine zz_topi (y := (nI (10 * vi1))) (pk_mul _ _) ?_
                refine lv_iload_n hx hb dX9_firstTwoAtOneHour_47 rfl (lv_at hl 0 rfl) ?_
                refine lv_iadd hx hb dX9_firstTwoAtOneHour_48 ?_
                refine zz_topi (y := (nI ((10 * vi1) + vi13))) (nI_add _ _) ?_
                exact hret _ _ _ _ _ _ ⟨(nI ((10 * vi1) + vi13)), rfl, rfl⟩ hw rfl dX9_firstTwoAtOneHour_49
        exact lp17_17 (pq + 1 - (vi1 + 1)) (vi1 + 1) _ _ _ (by omega) (by omega) hw (lv_sub hl [0, 1, 2, 3] rfl)
  exact lp2_11 (pq + 1 - 0) 0 _ _ _ (by omega) (by omega) hw (lv_sub hl [0, 1, 2] rfl)
theorem kd_ncX9_meet : kd_ck 222159121691217751150911902907092138915437299448307201087187983019764292940426421296291658403256614582858990662584204744924935447897987080302403016308864169909686924253550723684588334522849445781188879189063707 87 cX9_meet.data.toList 0 = true := by decide +kernel
theorem dX9_meet_0 : decode cX9_meet 0 = .ok (.iload_n 1, 1) := kd_dk0 kd_o27 kd_ncX9_meet rfl
theorem dX9_meet_1 : decode cX9_meet 1 = .ok (.invokestatic 210, 3) := kd_dk2 kd_o184 kd_ncX9_meet rfl
theorem dX9_meet_4 : decode cX9_meet 4 = .ok (.ifCond .ne 5, 3) := kd_dj2 kd_o154 (w := 5) kd_ncX9_meet rfl rfl
theorem dX9_meet_7 : decode cX9_meet 7 = .ok (.iconst (-1), 1) := kd_dk0 kd_o2 kd_ncX9_meet rfl
theorem dX9_meet_8 : decode cX9_meet 8 = .ok (.ireturn, 1) := kd_dk0 kd_o172 kd_ncX9_meet rfl
theorem dX9_meet_9 : decode cX9_meet 9 = .ok (.aload_n 0, 1) := kd_dk0 kd_o42 kd_ncX9_meet rfl
theorem dX9_meet_10 : decode cX9_meet 10 = .ok (.getfield 44, 3) := kd_dk2 kd_o180 kd_ncX9_meet rfl
theorem dX9_meet_13 : decode cX9_meet 13 = .ok (.aload_n 0, 1) := kd_dk0 kd_o42 kd_ncX9_meet rfl
theorem dX9_meet_14 : decode cX9_meet 14 = .ok (.getfield 40, 3) := kd_dk2 kd_o180 kd_ncX9_meet rfl
theorem dX9_meet_17 : decode cX9_meet 17 = .ok (.invokevirtual 244, 3) := kd_dk2 kd_o182 kd_ncX9_meet rfl
theorem dX9_meet_20 : decode cX9_meet 20 = .ok (.iconst 0, 1) := kd_dk0 kd_o3 kd_ncX9_meet rfl
theorem dX9_meet_21 : decode cX9_meet 21 = .ok (.istore_n 2, 1) := kd_dk0 kd_o61 kd_ncX9_meet rfl
theorem dX9_meet_22 : decode cX9_meet 22 = .ok (.iload_n 2, 1) := kd_dk0 kd_o28 kd_ncX9_meet rfl
theorem dX9_meet_23 : decode cX9_meet 23 = .ok (.bipush 100, 2) := kd_dj1 kd_o16 (w := 100) kd_ncX9_meet rfl rfl
theorem dX9_meet_25 : decode cX9_meet 25 = .ok (.if_icmp .gt 59, 3) := kd_dj2 kd_o163 (w := 59) kd_ncX9_meet rfl rfl
theorem dX9_meet_28 : decode cX9_meet 28 = .ok (.aload_n 0, 1) := kd_dk0 kd_o42 kd_ncX9_meet rfl
theorem dX9_meet_29 : decode cX9_meet 29 = .ok (.aload_n 0, 1) := kd_dk0 kd_o42 kd_ncX9_meet rfl
theorem dX9_meet_30 : decode cX9_meet 30 = .ok (.getfield 44, 3) := kd_dk2 kd_o180 kd_ncX9_meet rfl
theorem dX9_meet_33 : decode cX9_meet 33 = .ok (.invokevirtual 271, 3) := kd_dk2 kd_o182 kd_ncX9_meet rfl
theorem dX9_meet_36 : decode cX9_meet 36 = .ok (.istore_n 3, 1) := kd_dk0 kd_o62 kd_ncX9_meet rfl
theorem dX9_meet_37 : decode cX9_meet 37 = .ok (.iload_n 3, 1) := kd_dk0 kd_o29 kd_ncX9_meet rfl
theorem dX9_meet_38 : decode cX9_meet 38 = .ok (.bipush (-2), 2) := kd_dj1 kd_o16 (w := 254) kd_ncX9_meet rfl rfl
theorem dX9_meet_40 : decode cX9_meet 40 = .ok (.if_icmp .eq 13, 3) := kd_dj2 kd_o159 (w := 13) kd_ncX9_meet rfl rfl
theorem dX9_meet_43 : decode cX9_meet 43 = .ok (.iload_n 1, 1) := kd_dk0 kd_o27 kd_ncX9_meet rfl
theorem dX9_meet_44 : decode cX9_meet 44 = .ok (.ifCond .ne 7, 3) := kd_dj2 kd_o154 (w := 7) kd_ncX9_meet rfl rfl
theorem dX9_meet_47 : decode cX9_meet 47 = .ok (.iload_n 2, 1) := kd_dk0 kd_o28 kd_ncX9_meet rfl
theorem dX9_meet_48 : decode cX9_meet 48 = .ok (.goto 4, 3) := kd_dj2 kd_o167 (w := 4) kd_ncX9_meet rfl rfl
theorem dX9_meet_51 : decode cX9_meet 51 = .ok (.iload_n 3, 1) := kd_dk0 kd_o29 kd_ncX9_meet rfl
theorem dX9_meet_52 : decode cX9_meet 52 = .ok (.ireturn, 1) := kd_dk0 kd_o172 kd_ncX9_meet rfl
theorem dX9_meet_53 : decode cX9_meet 53 = .ok (.aload_n 0, 1) := kd_dk0 kd_o42 kd_ncX9_meet rfl
theorem dX9_meet_54 : decode cX9_meet 54 = .ok (.getfield 50, 3) := kd_dk2 kd_o180 kd_ncX9_meet rfl
theorem dX9_meet_57 : decode cX9_meet 57 = .ok (.aload_n 0, 1) := kd_dk0 kd_o42 kd_ncX9_meet rfl
theorem dX9_meet_58 : decode cX9_meet 58 = .ok (.getfield 30, 3) := kd_dk2 kd_o180 kd_ncX9_meet rfl
theorem dX9_meet_61 : decode cX9_meet 61 = .ok (.aload_n 0, 1) := kd_dk0 kd_o42 kd_ncX9_meet rfl
theorem dX9_meet_62 : decode cX9_meet 62 = .ok (.getfield 44, 3) := kd_dk2 kd_o180 kd_ncX9_meet rfl
theorem dX9_meet_65 : decode cX9_meet 65 = .ok (.iconst 1, 1) := kd_dk0 kd_o4 kd_ncX9_meet rfl
theorem dX9_meet_66 : decode cX9_meet 66 = .ok (.aload_n 0, 1) := kd_dk0 kd_o42 kd_ncX9_meet rfl
theorem dX9_meet_67 : decode cX9_meet 67 = .ok (.getfield 30, 3) := kd_dk2 kd_o180 kd_ncX9_meet rfl
theorem dX9_meet_70 : decode cX9_meet 70 = .ok (.getfield 190, 3) := kd_dk2 kd_o180 kd_ncX9_meet rfl
theorem dX9_meet_73 : decode cX9_meet 73 = .ok (.iconst 0, 1) := kd_dk0 kd_o3 kd_ncX9_meet rfl
theorem dX9_meet_74 : decode cX9_meet 74 = .ok (.invokevirtual 193, 3) := kd_dk2 kd_o182 kd_ncX9_meet rfl
theorem dX9_meet_77 : decode cX9_meet 77 = .ok (.pop, 1) := kd_dk0 kd_o87 kd_ncX9_meet rfl
theorem dX9_meet_78 : decode cX9_meet 78 = .ok (.iinc 2 1, 3) := kd_dji kd_o132 (w := 1) kd_ncX9_meet rfl rfl
theorem dX9_meet_81 : decode cX9_meet 81 = .ok (.goto (-59), 3) := kd_dj2 kd_o167 (w := 65477) kd_ncX9_meet rfl rfl
theorem dX9_meet_84 : decode cX9_meet 84 = .ok (.bipush (-2), 2) := kd_dj1 kd_o16 (w := 254) kd_ncX9_meet rfl rfl
theorem dX9_meet_86 : decode cX9_meet 86 = .ok (.ireturn, 1) := kd_dk0 kd_o172 kd_ncX9_meet rfl
set_option maxHeartbeats 8000000 in
set_option maxRecDepth 100000 in
theorem c_g_meet (l : Launch) (G : zz_G) (ob0 : Nat) (ut : Nat) (uf1 : Int32) (h1 : Nat) (uf3 : Int32) (sc : Nat) (dr0 : Nat) (k0 : Nat) (my0 : Nat) (c0 : Nat) (ga : Nat) (pa0 : Nat) (t0 : Nat) (sl0 : Nat) (hd0 : Nat) (s1 : Nat) (s2 : Nat) (s3 : Nat) (s4 : Nat) (s5 : Nat) (s6 : Nat) (s7 : Nat) (s8 : Nat) (s9 : Nat) (w0 : Nat) (w1 : Nat) (w2 : Nat) (w3 : Nat) (x0 : Nat) (x1 : Nat) (x2 : Nat) (x3 : Nat) (x4 : Nat) (x5 : Nat) (x6 : Nat) (x7 : Nat) (x8 : Nat) (x9 : Nat) (x10 : Nat) (x11 : Nat) (pp : Nat) (pq : Nat) (i3 : Int32) (i4 : Int32) (m3 : Nat → Int32) (m4 : Nat → Int32) (m6 : Nat → Int32) (m7 : Nat → Int32) (fc : Nat → Int32) (f0 : Nat → Int32) (g0 : Nat → Int32) (n0 : Nat) (u0 : Nat) (z0_ : Nat → Int32) (f1 : Nat → Int32) (g1 : Nat → Int32) (n1 : Nat) (u1 : Nat) (z1_ : Nat → Int32) (f2 : Nat → Int32) (g2 : Nat → Int32) (n2 : Nat) (u2 : Nat) (z2_ : Nat → Int32) (f3 : Nat → Int32) (g3 : Nat → Int32) (n3 : Nat) (u3 : Nat) (z3_ : Nat → Int32) (m5 : Nat → Int32) (b1 : Nat) (b2 : Nat) (b3 : Nat) (b4 : Nat) (e1 : Nat → Int32) (e2 : Nat → Int32) (e3 : Nat → Int32) (e4 : Nat → Int32) (o1 : Int32) (o2 : Int32) (o3 : Int32) (my1 : Nat) (my2 : Nat) (my3 : Nat) (my4 : Nat) (mf1 : Nat → Int32) (mf2 : Nat → Int32) (mf3 : Nat → Int32) (mf4 : Nat → Int32) (mi1 : Int32) (mi2 : Int32) (mi3 : Int32) (a1 : Nat) (a2 : Nat) (wf : Nat → Int32) (af : Nat → Int32) (fi : Int32) (sd : Int32) (ar1 : Int32) (hv0 : zz_lwv f0 g0 n0 u0) (hv1 : zz_lwv f1 g1 n1 u1) (hv2 : zz_lwv f2 g2 n2 u2) (hv3 : zz_lwv f3 g3 n3 u3) (hpp : pp ≤ 7) (hpq : pq ≤ 6) (hw6 : ∀ j, j < 6 → zz_ok 7 (wf j)) (ha7 : ∀ j, j < 7 → zz_ok 6 (af j)) : zz_M l G mX9_meet 7 0 0 [.ref ob0, .int ar1] [(ob0, .inr (9, [.ref ut, .int uf1, .ref h1, .int uf3, .ref sc, .ref dr0, .ref k0, .ref my0, .ref c0, .ref ga, .ref pa0, .ref t0, .ref sl0, .ref hd0])), (sc, .inr (5, [.ref s1, .ref s2, .ref s3, .ref s4, .ref s5, .ref s6, .ref s7, .ref s8, .ref s9, .int (nI pp), .int (nI pq), .int i3, .int i4])), (s3, .inl (G.2 0, 7, .inl m3)), (s4, .inl (G.2 0, 7, .inl m4)), (s6, .inl (G.2 0, 6, .inl m6)), (s7, .inl (G.2 0, 6, .inl m7)), (s9, .inl (G.2 0, 9, .inl fc)), (s8, .inl (G.2 4, 4, .inr (.inr (.inr (.inr (va_up (va_up (va_up (va_up (fun _ => none) 0 (some w0)) 1 (some w1)) 2 (some w2)) 3 (some w3))))))), (w0, .inr (2, [.ref x0, .ref x1, .ref x2, .int (nI n0), .int (nI u0)])), (x0, .inl (G.2 0, 400, .inl f0)), (x1, .inl (G.2 0, 14, .inl g0)), (x2, .inl (G.2 0, 32, .inl z0_)), (w1, .inr (2, [.ref x3, .ref x4, .ref x5, .int (nI n1), .int (nI u1)])), (x3, .inl (G.2 0, 400, .inl f1)), (x4, .inl (G.2 0, 14, .inl g1)), (x5, .inl (G.2 0, 32, .inl z1_)), (w2, .inr (2, [.ref x6, .ref x7, .ref x8, .int (nI n2), .int (nI u2)])), (x6, .inl (G.2 0, 400, .inl f2)), (x7, .inl (G.2 0, 14, .inl g2)), (x8, .inl (G.2 0, 32, .inl z2_)), (w3, .inr (2, [.ref x9, .ref x10, .ref x11, .int (nI n3), .int (nI u3)])), (x9, .inl (G.2 0, 400, .inl f3)), (x10, .inl (G.2 0, 14, .inl g3)), (x11, .inl (G.2 0, 32, .inl z3_)), (s5, .inl (G.2 0, 6, .inl m5)), (k0, .inr (6, [.ref b1, .ref b2, .ref b3, .ref b4, .int o1, .int o2, .int o3])), (b1, .inl (G.2 0, 7, .inl e1)), (b2, .inl (G.2 0, 6, .inl e2)), (b3, .inl (G.2 0, 7, .inl e3)), (b4, .inl (G.2 0, 42, .inl e4)), (my0, .inr (6, [.ref my1, .ref my2, .ref my3, .ref my4, .int mi1, .int mi2, .int mi3])), (my1, .inl (G.2 0, 7, .inl mf1)), (my2, .inl (G.2 0, 6, .inl mf2)), (my3, .inl (G.2 0, 7, .inl mf3)), (my4, .inl (G.2 0, 42, .inl mf4)), (c0, .inr (0, [.ref a1, .ref a2, .int fi, .int sd])), (a1, .inl (G.2 0, 6, .inl wf)), (a2, .inl (G.2 0, 7, .inl af))] (fun rr u => ∃ (rv : Int32), ∃ (fcc : Nat → Int32), ∃ (zz0 : Nat → Int32), ∃ (zz1 : Nat → Int32), ∃ (zz2 : Nat → Int32), ∃ (zz3 : Nat → Int32), ∃ (nf1 : Nat → Int32), ∃ (nf2 : Nat → Int32), ∃ (nf3 : Nat → Int32), ∃ (nf4 : Nat → Int32), ∃ (ni1 : Int32), ∃ (ni2 : Int32), ∃ (ni3 : Int32), ∃ (ww : Nat → Int32), ∃ (aa : Nat → Int32), ∃ (fi2 : Int32), ∃ (sd2 : Int32), rr = some (.int rv) ∧ u = [(ob0, .inr (9, [.ref ut, .int uf1, .ref h1, .int uf3, .ref sc, .ref dr0, .ref k0, .ref my0, .ref c0, .ref ga, .ref pa0, .ref t0, .ref sl0, .ref hd0])), (sc, .inr (5, [.ref s1, .ref s2, .ref s3, .ref s4, .ref s5, .ref s6, .ref s7, .ref s8, .ref s9, .int (nI pp), .int (nI pq), .int i3, .int i4])), (s3, .inl (G.2 0, 7, .inl m3)), (s4, .inl (G.2 0, 7, .inl m4)), (s6, .inl (G.2 0, 6, .inl m6)), (s7, .inl (G.2 0, 6, .inl m7)), (s9, .inl (G.2 0, 9, .inl fcc)), (s8, .inl (G.2 4, 4, .inr (.inr (.inr (.inr (va_up (va_up (va_up (va_up (fun _ => none) 0 (some w0)) 1 (some w1)) 2 (some w2)) 3 (some w3))))))), (w0, .inr (2, [.ref x0, .ref x1, .ref x2, .int (nI n0), .int (nI u0)])), (x0, .inl (G.2 0, 400, .inl f0)), (x1, .inl (G.2 0, 14, .inl g0)), (x2, .inl (G.2 0, 32, .inl zz0)), (w1, .inr (2, [.ref x3, .ref x4, .ref x5, .int (nI n1), .int (nI u1)])), (x3, .inl (G.2 0, 400, .inl f1)), (x4, .inl (G.2 0, 14, .inl g1)), (x5, .inl (G.2 0, 32, .inl zz1)), (w2, .inr (2, [.ref x6, .ref x7, .ref x8, .int (nI n2), .int (nI u2)])), (x6, .inl (G.2 0, 400, .inl f2)), (x7, .inl (G.2 0, 14, .inl g2)), (x8, .inl (G.2 0, 32, .inl zz2)), (w3, .inr (2, [.ref x9, .ref x10, .ref x11, .int (nI n3), .int (nI u3)])), (x9, .inl (G.2 0, 400, .inl f3)), (x10, .inl (G.2 0, 14, .inl g3)), (x11, .inl (G.2 0, 32, .inl zz3)), (s5, .inl (G.2 0, 6, .inl m5)), (k0, .inr (6, [.ref b1, .ref b2, .ref b3, .ref b4, .int o1, .int o2, .int o3])), (b1, .inl (G.2 0, 7, .inl e1)), (b2, .inl (G.2 0, 6, .inl e2)), (b3, .inl (G.2 0, 7, .inl e3)), (b4, .inl (G.2 0, 42, .inl e4)), (my0, .inr (6, [.ref my1, .ref my2, .ref my3, .ref my4, .int ni1, .int ni2, .int ni3])), (my1, .inl (G.2 0, 7, .inl nf1)), (my2, .inl (G.2 0, 6, .inl nf2)), (my3, .inl (G.2 0, 7, .inl nf3)), (my4, .inl (G.2 0, 42, .inl nf4)), (c0, .inr (0, [.ref a1, .ref a2, .int fi2, .int sd2])), (a1, .inl (G.2 0, 6, .inl ww)), (a2, .inl (G.2 0, 7, .inl aa))] ∧ (∀ j, j < 6 → zz_ok 7 (ww j)) ∧ (∀ j, j < 7 → zz_ok 6 (aa j))) := by
  refine zz_enteri (by decide +kernel) (Nat.le_of_ble_eq_true rfl) ?_
  intro p e s m args below meth c A Q ls S hnm hret hw hl
  have hl : lv_has ls 4 [(0, .ref ob0), (1, .int ar1)] := hl
  have hx := S.1
  have hb := S.2.1
  refine lv_iload_n hx hb dX9_meet_0 rfl (lv_at hl 1 rfl) ?_
  refine zz_callS (As := [.int ar1]) (rest := []) (wr := [(ob0, .inr (9, [.ref ut, .int uf1, .ref h1, .int uf3, .ref sc, .ref dr0, .ref k0, .ref my0, .ref c0, .ref ga, .ref pa0, .ref t0, .ref sl0, .ref hd0])), (sc, .inr (5, [.ref s1, .ref s2, .ref s3, .ref s4, .ref s5, .ref s6, .ref s7, .ref s8, .ref s9, .int (nI pp), .int (nI pq), .int i3, .int i4])), (s3, .inl (G.2 0, 7, .inl m3)), (s4, .inl (G.2 0, 7, .inl m4)), (s6, .inl (G.2 0, 6, .inl m6)), (s7, .inl (G.2 0, 6, .inl m7)), (s9, .inl (G.2 0, 9, .inl fc)), (s8, .inl (G.2 4, 4, .inr (.inr (.inr (.inr (va_up (va_up (va_up (va_up (fun _ => none) 0 (some w0)) 1 (some w1)) 2 (some w2)) 3 (some w3))))))), (w0, .inr (2, [.ref x0, .ref x1, .ref x2, .int (nI n0), .int (nI u0)])), (x0, .inl (G.2 0, 400, .inl f0)), (x1, .inl (G.2 0, 14, .inl g0)), (x2, .inl (G.2 0, 32, .inl z0_)), (w1, .inr (2, [.ref x3, .ref x4, .ref x5, .int (nI n1), .int (nI u1)])), (x3, .inl (G.2 0, 400, .inl f1)), (x4, .inl (G.2 0, 14, .inl g1)), (x5, .inl (G.2 0, 32, .inl z1_)), (w2, .inr (2, [.ref x6, .ref x7, .ref x8, .int (nI n2), .int (nI u2)])), (x6, .inl (G.2 0, 400, .inl f2)), (x7, .inl (G.2 0, 14, .inl g2)), (x8, .inl (G.2 0, 32, .inl z2_)), (w3, .inr (2, [.ref x9, .ref x10, .ref x11, .int (nI n3), .int (nI u3)])), (x9, .inl (G.2 0, 400, .inl f3)), (x10, .inl (G.2 0, 14, .inl g3)), (x11, .inl (G.2 0, 32, .inl z3_)), (s5, .inl (G.2 0, 6, .inl m5)), (k0, .inr (6, [.ref b1, .ref b2, .ref b3, .ref b4, .int o1, .int o2, .int o3])), (b1, .inl (G.2 0, 7, .inl e1)), (b2, .inl (G.2 0, 6, .inl e2)), (b3, .inl (G.2 0, 7, .inl e3)), (b4, .inl (G.2 0, 42, .inl e4)), (my0, .inr (6, [.ref my1, .ref my2, .ref my3, .ref my4, .int mi1, .int mi2, .int mi3])), (my1, .inl (G.2 0, 7, .inl mf1)), (my2, .inl (G.2 0, 6, .inl mf2)), (my3, .inl (G.2 0, 7, .inl mf3)), (my4, .inl (G.2 0, 42, .inl mf4)), (c0, .inr (0, [.ref a1, .ref a2, .int fi, .int sd])), (a1, .inl (G.2 0, 6, .inl wf)), (a2, .inl (G.2 0, 7, .inl af))]) S hw hl.1 lX9_210 (c_g_isOneOfTwo l G ar1) ⟨Nat.le_of_ble_eq_true rfl, Nat.le_of_ble_eq_true rfl⟩ ⟨Nat.le_of_ble_eq_true rfl, Nat.le_of_ble_eq_true rfl⟩ [] [0, 1, 2, 3, 4, 5, 6, 7, 8, 9, 10, 11, 12, 13, 14, 15, 16, 17, 18, 19, 20, 21, 22, 23, 24, 25, 26, 27, 28, 29, 30, 31, 32, 33, 34, 35, 36, 37] (by decide +kernel) rfl rfl (by decide +kernel) (by decide +kernel) rfl rfl (Nat.le_of_ble_eq_true rfl) dX9_meet_1 ?_
  clear hw
  intro rr u H locs hp hw
  refine hp.elim fun rv_1 zg0 => zg0.elim fun zee1 zg1 => zg1.elim fun zee2 zg2 => zg2.elim fun hq1_0 hq1_1 => ?_
  clear hp zg0 zg1 zg2
  subst zee1
  subst zee2
  replace hw : zz_w G A s [(ob0, .inr (9, [.ref ut, .int uf1, .ref h1, .int uf3, .ref sc, .ref dr0, .ref k0, .ref my0, .ref c0, .ref ga, .ref pa0, .ref t0, .ref sl0, .ref hd0])), (sc, .inr (5, [.ref s1, .ref s2, .ref s3, .ref s4, .ref s5, .ref s6, .ref s7, .ref s8, .ref s9, .int (nI pp), .int (nI pq), .int i3, .int i4])), (s3, .inl (G.2 0, 7, .inl m3)), (s4, .inl (G.2 0, 7, .inl m4)), (s6, .inl (G.2 0, 6, .inl m6)), (s7, .inl (G.2 0, 6, .inl m7)), (s9, .inl (G.2 0, 9, .inl fc)), (s8, .inl (G.2 4, 4, .inr (.inr (.inr (.inr (va_up (va_up (va_up (va_up (fun _ => none) 0 (some w0)) 1 (some w1)) 2 (some w2)) 3 (some w3))))))), (w0, .inr (2, [.ref x0, .ref x1, .ref x2, .int (nI n0), .int (nI u0)])), (x0, .inl (G.2 0, 400, .inl f0)), (x1, .inl (G.2 0, 14, .inl g0)), (x2, .inl (G.2 0, 32, .inl z0_)), (w1, .inr (2, [.ref x3, .ref x4, .ref x5, .int (nI n1), .int (nI u1)])), (x3, .inl (G.2 0, 400, .inl f1)), (x4, .inl (G.2 0, 14, .inl g1)), (x5, .inl (G.2 0, 32, .inl z1_)), (w2, .inr (2, [.ref x6, .ref x7, .ref x8, .int (nI n2), .int (nI u2)])), (x6, .inl (G.2 0, 400, .inl f2)), (x7, .inl (G.2 0, 14, .inl g2)), (x8, .inl (G.2 0, 32, .inl z2_)), (w3, .inr (2, [.ref x9, .ref x10, .ref x11, .int (nI n3), .int (nI u3)])), (x9, .inl (G.2 0, 400, .inl f3)), (x10, .inl (G.2 0, 14, .inl g3)), (x11, .inl (G.2 0, 32, .inl z3_)), (s5, .inl (G.2 0, 6, .inl m5)), (k0, .inr (6, [.ref b1, .ref b2, .ref b3, .ref b4, .int o1, .int o2, .int o3])), (b1, .inl (G.2 0, 7, .inl e1)), (b2, .inl (G.2 0, 6, .inl e2)), (b3, .inl (G.2 0, 7, .inl e3)), (b4, .inl (G.2 0, 42, .inl e4)), (my0, .inr (6, [.ref my1, .ref my2, .ref my3, .ref my4, .int mi1, .int mi2, .int mi3])), (my1, .inl (G.2 0, 7, .inl mf1)), (my2, .inl (G.2 0, 6, .inl mf2)), (my3, .inl (G.2 0, 7, .inl mf3)), (my4, .inl (G.2 0, 42, .inl mf4)), (c0, .inr (0, [.ref a1, .ref a2, .int fi, .int sd])), (a1, .inl (G.2 0, 6, .inl wf)), (a2, .inl (G.2 0, 7, .inl af))] H _ := hw
  refine W.eq (g2 := F0 m 4 ls [.int rv_1]) rfl ?_
  refine lv_if_ne (tgt := 9) hx hb dX9_meet_4 (by decide) (fun c4_2 => ?_) (fun c4_2 => ?_)
  · skip
    refine lv_aload_n hx hb dX9_meet_9 rfl (lv_at hl 0 rfl) ?_
    refine zz_get (v := .ref my0) S hw fgX9_44 0 rfl rfl dX9_meet_10 ?_
    refine lv_aload_n hx hb dX9_meet_13 rfl (lv_at hl 0 rfl) ?_
    refine zz_get (v := .ref k0) S hw fgX9_40 0 rfl rfl dX9_meet_14 ?_
    refine zz_callV (qb := 30) (As := [.ref k0]) (rest := []) (wr := [(ob0, .inr (9, [.ref ut, .int uf1, .ref h1, .int uf3, .ref sc, .ref dr0, .ref k0, .ref my0, .ref c0, .ref ga, .ref pa0, .ref t0, .ref sl0, .ref hd0])), (sc, .inr (5, [.ref s1, .ref s2, .ref s3, .ref s4, .ref s5, .ref s6, .ref s7, .ref s8, .ref s9, .int (nI pp), .int (nI pq), .int i3, .int i4])), (s3, .inl (G.2 0, 7, .inl m3)), (s4, .inl (G.2 0, 7, .inl m4)), (s6, .inl (G.2 0, 6, .inl m6)), (s7, .inl (G.2 0, 6, .inl m7)), (s9, .inl (G.2 0, 9, .inl fc)), (s8, .inl (G.2 4, 4, .inr (.inr (.inr (.inr (va_up (va_up (va_up (va_up (fun _ => none) 0 (some w0)) 1 (some w1)) 2 (some w2)) 3 (some w3))))))), (w0, .inr (2, [.ref x0, .ref x1, .ref x2, .int (nI n0), .int (nI u0)])), (x0, .inl (G.2 0, 400, .inl f0)), (x1, .inl (G.2 0, 14, .inl g0)), (x2, .inl (G.2 0, 32, .inl z0_)), (w1, .inr (2, [.ref x3, .ref x4, .ref x5, .int (nI n1), .int (nI u1)])), (x3, .inl (G.2 0, 400, .inl f1)), (x4, .inl (G.2 0, 14, .inl g1)), (x5, .inl (G.2 0, 32, .inl z1_)), (w2, .inr (2, [.ref x6, .ref x7, .ref x8, .int (nI n2), .int (nI u2)])), (x6, .inl (G.2 0, 400, .inl f2)), (x7, .inl (G.2 0, 14, .inl g2)), (x8, .inl (G.2 0, 32, .inl z2_)), (w3, .inr (2, [.ref x9, .ref x10, .ref x11, .int (nI n3), .int (nI u3)])), (x9, .inl (G.2 0, 400, .inl f3)), (x10, .inl (G.2 0, 14, .inl g3)), (x11, .inl (G.2 0, 32, .inl z3_)), (s5, .inl (G.2 0, 6, .inl m5)), (c0, .inr (0, [.ref a1, .ref a2, .int fi, .int sd])), (a1, .inl (G.2 0, 6, .inl wf)), (a2, .inl (G.2 0, 7, .inl af))]) S hw hl.1 lX9_244 (c_gcopyFrom l G my0 my1 my2 my3 my4 mf1 mf2 mf3 mf4 mi1 mi2 mi3 k0 b1 b2 b3 b4 e1 e2 e3 e4 o1 o2 o3) ⟨Nat.le_of_ble_eq_true rfl, Nat.le_of_ble_eq_true rfl⟩ ⟨Nat.le_of_ble_eq_true rfl, Nat.le_of_ble_eq_true rfl⟩ [30, 31, 32, 33, 34, 25, 26, 27, 28, 29] [0, 1, 2, 3, 4, 5, 6, 7, 8, 9, 10, 11, 12, 13, 14, 15, 16, 17, 18, 19, 20, 21, 22, 23, 24, 35, 36, 37] (by decide +kernel) rfl rfl (by decide +kernel) (by decide +kernel) rfl rfl rfl rfl (Nat.le_of_ble_eq_true rfl) dX9_meet_17 ?_
    clear hw
    intro rr u H locs hp hw
    refine hp.elim fun hh1_3 zg0 => zg0.elim fun hh2_4 zg1 => zg1.elim fun hh3_5 zg2 => zg2.elim fun hh4_6 zg3 => zg3.elim fun zee1 zg4 => zg4.elim fun zee2 hq17_0 => ?_
    clear hp zg0 zg1 zg2 zg3 zg4
    subst zee1
    subst zee2
    replace hw : zz_w G A s [(ob0, .inr (9, [.ref ut, .int uf1, .ref h1, .int uf3, .ref sc, .ref dr0, .ref k0, .ref my0, .ref c0, .ref ga, .ref pa0, .ref t0, .ref sl0, .ref hd0])), (sc, .inr (5, [.ref s1, .ref s2, .ref s3, .ref s4, .ref s5, .ref s6, .ref s7, .ref s8, .ref s9, .int (nI pp), .int (nI pq), .int i3, .int i4])), (s3, .inl (G.2 0, 7, .inl m3)), (s4, .inl (G.2 0, 7, .inl m4)), (s6, .inl (G.2 0, 6, .inl m6)), (s7, .inl (G.2 0, 6, .inl m7)), (s9, .inl (G.2 0, 9, .inl fc)), (s8, .inl (G.2 4, 4, .inr (.inr (.inr (.inr (va_up (va_up (va_up (va_up (fun _ => none) 0 (some w0)) 1 (some w1)) 2 (some w2)) 3 (some w3))))))), (w0, .inr (2, [.ref x0, .ref x1, .ref x2, .int (nI n0), .int (nI u0)])), (x0, .inl (G.2 0, 400, .inl f0)), (x1, .inl (G.2 0, 14, .inl g0)), (x2, .inl (G.2 0, 32, .inl z0_)), (w1, .inr (2, [.ref x3, .ref x4, .ref x5, .int (nI n1), .int (nI u1)])), (x3, .inl (G.2 0, 400, .inl f1)), (x4, .inl (G.2 0, 14, .inl g1)), (x5, .inl (G.2 0, 32, .inl z1_)), (w2, .inr (2, [.ref x6, .ref x7, .ref x8, .int (nI n2), .int (nI u2)])), (x6, .inl (G.2 0, 400, .inl f2)), (x7, .inl (G.2 0, 14, .inl g2)), (x8, .inl (G.2 0, 32, .inl z2_)), (w3, .inr (2, [.ref x9, .ref x10, .ref x11, .int (nI n3), .int (nI u3)])), (x9, .inl (G.2 0, 400, .inl f3)), (x10, .inl (G.2 0, 14, .inl g3)), (x11, .inl (G.2 0, 32, .inl z3_)), (s5, .inl (G.2 0, 6, .inl m5)), (c0, .inr (0, [.ref a1, .ref a2, .int fi, .int sd])), (a1, .inl (G.2 0, 6, .inl wf)), (a2, .inl (G.2 0, 7, .inl af)), (my0, .inr (6, [.ref my1, .ref my2, .ref my3, .ref my4, .int o1, .int o2, .int o3])), (my1, .inl (G.2 0, 7, .inl hh1_3)), (my2, .inl (G.2 0, 6, .inl hh2_4)), (my3, .inl (G.2 0, 7, .inl hh3_5)), (my4, .inl (G.2 0, 42, .inl hh4_6)), (k0, .inr (6, [.ref b1, .ref b2, .ref b3, .ref b4, .int o1, .int o2, .int o3])), (b1, .inl (G.2 0, 7, .inl e1)), (b2, .inl (G.2 0, 6, .inl e2)), (b3, .inl (G.2 0, 7, .inl e3)), (b4, .inl (G.2 0, 42, .inl e4))] H _ := hw
    refine W.eq (g2 := F0 m 20 ls []) rfl ?_
    refine lv_iconst (v := 0) hx hb dX9_meet_20 (by decide) ?_
    refine lv_istore_n (lv' := [(2, .int 0), (0, .ref ob0), (1, .int ar1)]) hx hb dX9_meet_21 rfl hl (by decide) rfl (fun ls hl => ?_)
    have lp22_63 : ∀ (vn8 vi7 : Nat) (vF28 : Nat → Int32) (vF29 : Nat → Int32) (vF30 : Nat → Int32) (vF31 : Nat → Int32) (vF32 : Nat → Int32) (vy33 : Int32) (vy34 : Int32) (vF35 : Nat → Int32) (vF36 : Nat → Int32) (vy37 : Int32) (vy38 : Int32) (vF39 : Nat → Int32) (vF40 : Nat → Int32) (vF41 : Nat → Int32) (H : Heap) (locs : List Loc) (ls : Array Slot), vi7 ≤ 101 → 101 < vi7 + vn8 → (∀ j, j < 6 → zz_ok 7 (vF35 j)) → (∀ j, j < 7 → zz_ok 6 (vF36 j)) → zz_w G A s [(ob0, .inr (9, [.ref ut, .int uf1, .ref h1, .int uf3, .ref sc, .ref dr0, .ref k0, .ref my0, .ref c0, .ref ga, .ref pa0, .ref t0, .ref sl0, .ref hd0])), (sc, .inr (5, [.ref s1, .ref s2, .ref s3, .ref s4, .ref s5, .ref s6, .ref s7, .ref s8, .ref s9, .int (nI pp), .int (nI pq), .int i3, .int i4])), (s3, .inl (G.2 0, 7, .inl m3)), (s4, .inl (G.2 0, 7, .inl m4)), (s6, .inl (G.2 0, 6, .inl m6)), (s7, .inl (G.2 0, 6, .inl m7)), (s9, .inl (G.2 0, 9, .inl vF28)), (s8, .inl (G.2 4, 4, .inr (.inr (.inr (.inr (va_up (va_up (va_up (va_up (fun _ => none) 0 (some w0)) 1 (some w1)) 2 (some w2)) 3 (some w3))))))), (w0, .inr (2, [.ref x0, .ref x1, .ref x2, .int (nI n0), .int (nI u0)])), (x0, .inl (G.2 0, 400, .inl f0)), (x1, .inl (G.2 0, 14, .inl g0)), (x2, .inl (G.2 0, 32, .inl vF29)), (w1, .inr (2, [.ref x3, .ref x4, .ref x5, .int (nI n1), .int (nI u1)])), (x3, .inl (G.2 0, 400, .inl f1)), (x4, .inl (G.2 0, 14, .inl g1)), (x5, .inl (G.2 0, 32, .inl vF30)), (w2, .inr (2, [.ref x6, .ref x7, .ref x8, .int (nI n2), .int (nI u2)])), (x6, .inl (G.2 0, 400, .inl f2)), (x7, .inl (G.2 0, 14, .inl g2)), (x8, .inl (G.2 0, 32, .inl vF31)), (w3, .inr (2, [.ref x9, .ref x10, .ref x11, .int (nI n3), .int (nI u3)])), (x9, .inl (G.2 0, 400, .inl f3)), (x10, .inl (G.2 0, 14, .inl g3)), (x11, .inl (G.2 0, 32, .inl vF32)), (s5, .inl (G.2 0, 6, .inl m5)), (c0, .inr (0, [.ref a1, .ref a2, .int vy33, .int vy34])), (a1, .inl (G.2 0, 6, .inl vF35)), (a2, .inl (G.2 0, 7, .inl vF36)), (my0, .inr (6, [.ref my1, .ref my2, .ref my3, .ref my4, .int o1, .int vy37, .int vy38])), (my1, .inl (G.2 0, 7, .inl hh1_3)), (my2, .inl (G.2 0, 6, .inl vF39)), (my3, .inl (G.2 0, 7, .inl vF40)), (my4, .inl (G.2 0, 42, .inl vF41)), (k0, .inr (6, [.ref b1, .ref b2, .ref b3, .ref b4, .int o1, .int o2, .int o3])), (b1, .inl (G.2 0, 7, .inl e1)), (b2, .inl (G.2 0, 6, .inl e2)), (b3, .inl (G.2 0, 7, .inl e3)), (b4, .inl (G.2 0, 42, .inl e4))] H locs → lv_has ls 4 [(2, .int (nI vi7)), (0, .ref ob0), (1, .int ar1)] → W p l e (zz_rm 7 0 0) s m args below meth c H locs (0) (0) Q (F0 m 22 ls []) := by
      intro vn8
      induction vn8 with
      | zero => intro vi7 vF28 vF29 vF30 vF31 vF32 vy33 vy34 vF35 vF36 vy37 vy38 vF39 vF40 vF41 H locs ls hi1 hi2; exact absurd hi2 (by omega)
      | succ vn8 ih22 =>
        intro vi7 vF28 vF29 vF30 vF31 vF32 vy33 vy34 vF35 vF36 vy37 vy38 vF39 vF40 vF41 H locs ls hi22a hi22b hv22_61 hv22_62 hw hl
        refine lv_iload_n hx hb dX9_meet_22 rfl (lv_at hl 0 rfl) ?_
        refine lv_bipush (v := 100) hx hb dX9_meet_23 (by decide) ?_
        refine lv_icmp_gt (tgt := 84) hx hb dX9_meet_25 (by decide) (fun c25_64 => ?_) (fun c25_64 => ?_)
        · skip
          have c25_64n : 100 < vi7 := (zz_lt (a := 100) (b := vi7) rfl rfl (by omega) (by omega)).mp c25_64
          refine lv_bipush (v := (-2)) hx hb dX9_meet_84 (by decide) ?_
          exact hret _ _ _ _ _ _ ⟨(-2), vF28, vF29, vF30, vF31, vF32, hh1_3, vF39, vF40, vF41, o1, vy37, vy38, vF35, vF36, vy33, vy34, rfl, rfl, (by first | assumption | exact Or.inl rfl | exact Or.inr rfl | omega), (by first | assumption | exact Or.inl rfl | exact Or.inr rfl | omega)⟩ (hw.sub [0, 1, 2, 3, 4, 5, 6, 7, 8, 9, 10, 11, 12, 13, 14, 15, 16, 17, 18, 19, 20, 21, 22, 23, 24, 33, 34, 35, 36, 37, 28, 29, 30, 31, 32, 25, 26, 27] (by decide +kernel) rfl) rfl dX9_meet_86
        · skip
          have c25_64n : ¬ (100 < vi7) := fun z => c25_64 ((zz_lt (a := 100) (b := vi7) rfl rfl (by omega) (by omega)).mpr z)
          refine lv_aload_n hx hb dX9_meet_28 rfl (lv_at hl 1 rfl) ?_
          refine lv_aload_n hx hb dX9_meet_29 rfl (lv_at hl 1 rfl) ?_
          refine W.eq (g2 := F0 m 30 ls [.ref ob0, .ref ob0]) rfl ?_
          refine zz_get (v := .ref my0) S hw fgX9_44 0 rfl rfl dX9_meet_30 ?_
          refine zz_callV (qb := 0) (As := [.ref my0]) (rest := []) (wr := [(s3, .inl (G.2 0, 7, .inl m3)), (s4, .inl (G.2 0, 7, .inl m4)), (s6, .inl (G.2 0, 6, .inl m6)), (s7, .inl (G.2 0, 6, .inl m7)), (s9, .inl (G.2 0, 9, .inl vF28)), (s8, .inl (G.2 4, 4, .inr (.inr (.inr (.inr (va_up (va_up (va_up (va_up (fun _ => none) 0 (some w0)) 1 (some w1)) 2 (some w2)) 3 (some w3))))))), (w0, .inr (2, [.ref x0, .ref x1, .ref x2, .int (nI n0), .int (nI u0)])), (x0, .inl (G.2 0, 400, .inl f0)), (x1, .inl (G.2 0, 14, .inl g0)), (x2, .inl (G.2 0, 32, .inl vF29)), (w1, .inr (2, [.ref x3, .ref x4, .ref x5, .int (nI n1), .int (nI u1)])), (x3, .inl (G.2 0, 400, .inl f1)), (x4, .inl (G.2 0, 14, .inl g1)), (x5, .inl (G.2 0, 32, .inl vF30)), (w2, .inr (2, [.ref x6, .ref x7, .ref x8, .int (nI n2), .int (nI u2)])), (x6, .inl (G.2 0, 400, .inl f2)), (x7, .inl (G.2 0, 14, .inl g2)), (x8, .inl (G.2 0, 32, .inl vF31)), (w3, .inr (2, [.ref x9, .ref x10, .ref x11, .int (nI n3), .int (nI u3)])), (x9, .inl (G.2 0, 400, .inl f3)), (x10, .inl (G.2 0, 14, .inl g3)), (x11, .inl (G.2 0, 32, .inl vF32)), (s5, .inl (G.2 0, 6, .inl m5)), (c0, .inr (0, [.ref a1, .ref a2, .int vy33, .int vy34])), (a1, .inl (G.2 0, 6, .inl vF35)), (a2, .inl (G.2 0, 7, .inl vF36)), (k0, .inr (6, [.ref b1, .ref b2, .ref b3, .ref b4, .int o1, .int o2, .int o3])), (b1, .inl (G.2 0, 7, .inl e1)), (b2, .inl (G.2 0, 6, .inl e2)), (b3, .inl (G.2 0, 7, .inl e3)), (b4, .inl (G.2 0, 42, .inl e4))]) S hw hl.1 lX9_271 (c_g_firstTwoAtOneHour l G ob0 ut uf1 h1 uf3 sc dr0 k0 my0 c0 ga pa0 t0 sl0 hd0 s1 s2 s3 s4 s5 s6 s7 s8 s9 pp pq i3 i4 my0 my1 my2 my3 my4 hh1_3 vF39 vF40 vF41 o1 vy37 vy38 (by first | assumption | omega | exact Or.inr ⟨_, by omega, rfl⟩ | (unfold zz_sok; decide) | decide | exact (fun j hj => (hv7 j hj).1)) (by first | assumption | omega | exact Or.inr ⟨_, by omega, rfl⟩ | (unfold zz_sok; decide) | decide | exact (fun j hj => (hv7 j hj).1))) ⟨Nat.le_of_ble_eq_true rfl, Nat.le_of_ble_eq_true rfl⟩ ⟨Nat.le_of_ble_eq_true rfl, Nat.le_of_ble_eq_true rfl⟩ [0, 1, 28, 29, 30, 31, 32] [2, 3, 4, 5, 6, 7, 8, 9, 10, 11, 12, 13, 14, 15, 16, 17, 18, 19, 20, 21, 22, 23, 24, 25, 26, 27, 33, 34, 35, 36, 37] (by decide +kernel) rfl rfl (by decide +kernel) (by decide +kernel) rfl rfl rfl rfl (Nat.le_of_ble_eq_true rfl) dX9_meet_33 ?_
          clear hw
          intro rr u H locs hp hw
          refine hp.elim fun rv_65 zg0 => zg0.elim fun zee1 zee2 => ?_
          clear hp zg0
          subst zee1
          subst zee2
          replace hw : zz_w G A s [(s3, .inl (G.2 0, 7, .inl m3)), (s4, .inl (G.2 0, 7, .inl m4)), (s6, .inl (G.2 0, 6, .inl m6)), (s7, .inl (G.2 0, 6, .inl m7)), (s9, .inl (G.2 0, 9, .inl vF28)), (s8, .inl (G.2 4, 4, .inr (.inr (.inr (.inr (va_up (va_up (va_up (va_up (fun _ => none) 0 (some w0)) 1 (some w1)) 2 (some w2)) 3 (some w3))))))), (w0, .inr (2, [.ref x0, .ref x1, .ref x2, .int (nI n0), .int (nI u0)])), (x0, .inl (G.2 0, 400, .inl f0)), (x1, .inl (G.2 0, 14, .inl g0)), (x2, .inl (G.2 0, 32, .inl vF29)), (w1, .inr (2, [.ref x3, .ref x4, .ref x5, .int (nI n1), .int (nI u1)])), (x3, .inl (G.2 0, 400, .inl f1)), (x4, .inl (G.2 0, 14, .inl g1)), (x5, .inl (G.2 0, 32, .inl vF30)), (w2, .inr (2, [.ref x6, .ref x7, .ref x8, .int (nI n2), .int (nI u2)])), (x6, .inl (G.2 0, 400, .inl f2)), (x7, .inl (G.2 0, 14, .inl g2)), (x8, .inl (G.2 0, 32, .inl vF31)), (w3, .inr (2, [.ref x9, .ref x10, .ref x11, .int (nI n3), .int (nI u3)])), (x9, .inl (G.2 0, 400, .inl f3)), (x10, .inl (G.2 0, 14, .inl g3)), (x11, .inl (G.2 0, 32, .inl vF32)), (s5, .inl (G.2 0, 6, .inl m5)), (c0, .inr (0, [.ref a1, .ref a2, .int vy33, .int vy34])), (a1, .inl (G.2 0, 6, .inl vF35)), (a2, .inl (G.2 0, 7, .inl vF36)), (k0, .inr (6, [.ref b1, .ref b2, .ref b3, .ref b4, .int o1, .int o2, .int o3])), (b1, .inl (G.2 0, 7, .inl e1)), (b2, .inl (G.2 0, 6, .inl e2)), (b3, .inl (G.2 0, 7, .inl e3)), (b4, .inl (G.2 0, 42, .inl e4)), (ob0, .inr (9, [.ref ut, .int uf1, .ref h1, .int uf3, .ref sc, .ref dr0, .ref k0, .ref my0, .ref c0, .ref ga, .ref pa0, .ref t0, .ref sl0, .ref hd0])), (sc, .inr (5, [.ref s1, .ref s2, .ref s3, .ref s4, .ref s5, .ref s6, .ref s7, .ref s8, .ref s9, .int (nI pp), .int (nI pq), .int i3, .int i4])), (my0, .inr (6, [.ref my1, .ref my2, .ref my3, .ref my4, .int o1, .int vy37, .int vy38])), (my1, .inl (G.2 0, 7, .inl hh1_3)), (my2, .inl (G.2 0, 6, .inl vF39)), (my3, .inl (G.2 0, 7, .inl vF40)), (my4, .inl (G.2 0, 42, .inl vF41))] H _ := hw
          refine W.eq (g2 := F0 m 36 ls [.int rv_65]) rfl ?_
          refine lv_istore_n (lv' := [(3, .int rv_65), (2, .int (nI vi7)), (0, .ref ob0), (1, .int ar1)]) hx hb dX9_meet_36 rfl hl (by decide) rfl (fun ls hl => ?_)
          refine lv_iload_n hx hb dX9_meet_37 rfl (lv_at hl 0 rfl) ?_
          refine lv_bipush (v := (-2)) hx hb dX9_meet_38 (by decide) ?_
          refine lv_icmp_eq (tgt := 53) hx hb dX9_meet_40 (by decide) (fun c40_66 => ?_) (fun c40_66 => ?_)
          · skip
            refine lv_aload_n hx hb dX9_meet_53 rfl (lv_at hl 2 rfl) ?_
            refine zz_get (v := .ref c0) S hw fgX9_50 31 rfl rfl dX9_meet_54 ?_
            refine lv_aload_n hx hb dX9_meet_57 rfl (lv_at hl 2 rfl) ?_
            refine zz_get (v := .ref sc) S hw fgX9_30 31 rfl rfl dX9_meet_58 ?_
            refine lv_aload_n hx hb dX9_meet_61 rfl (lv_at hl 2 rfl) ?_
            refine zz_get (v := .ref my0) S hw fgX9_44 31 rfl rfl dX9_meet_62 ?_
            refine lv_iconst (v := 1) hx hb dX9_meet_65 (by decide) ?_
            refine lv_aload_n hx hb dX9_meet_66 rfl (lv_at hl 2 rfl) ?_
            refine zz_get (v := .ref sc) S hw fgX9_30 31 rfl rfl dX9_meet_67 ?_
            refine W.eq (g2 := F0 m 70 ls [.ref sc, .int 1, .ref my0, .ref sc, .ref c0]) rfl ?_
            refine zz_get (v := .int i4) S hw fgX9_190 32 rfl rfl dX9_meet_70 ?_
            refine lv_iconst (v := 0) hx hb dX9_meet_73 (by decide) ?_
            refine zz_callV (qb := 23) (As := [.ref sc, .ref my0, .int 1, .int i4, .int 0]) (rest := []) (wr := [(s5, .inl (G.2 0, 6, .inl m5)), (k0, .inr (6, [.ref b1, .ref b2, .ref b3, .ref b4, .int o1, .int o2, .int o3])), (b1, .inl (G.2 0, 7, .inl e1)), (b2, .inl (G.2 0, 6, .inl e2)), (b3, .inl (G.2 0, 7, .inl e3)), (b4, .inl (G.2 0, 42, .inl e4)), (ob0, .inr (9, [.ref ut, .int uf1, .ref h1, .int uf3, .ref sc, .ref dr0, .ref k0, .ref my0, .ref c0, .ref ga, .ref pa0, .ref t0, .ref sl0, .ref hd0]))]) S hw hl.1 lX9_193 (c_gpassDays l G c0 a1 a2 vF35 vF36 vy33 vy34 sc s1 s2 s3 s4 s5 s6 s7 s8 s9 w0 w1 w2 w3 x0 x1 x2 x3 x4 x5 x6 x7 x8 x9 x10 x11 pp pq i3 i4 m3 m4 m6 m7 vF28 f0 g0 n0 u0 vF29 f1 g1 n1 u1 vF30 f2 g2 n2 u2 vF31 f3 g3 n3 u3 vF32 my0 my1 my2 my3 my4 hh1_3 vF39 vF40 vF41 o1 vy37 vy38 1 i4 0 (by first | assumption | omega | exact Or.inr ⟨_, by omega, rfl⟩ | (unfold zz_sok; decide) | decide | exact (fun j hj => (hv7 j hj).1)) (by first | assumption | omega | exact Or.inr ⟨_, by omega, rfl⟩ | (unfold zz_sok; decide) | decide | exact (fun j hj => (hv7 j hj).1)) (by first | assumption | omega | exact Or.inr ⟨_, by omega, rfl⟩ | (unfold zz_sok; decide) | decide | exact (fun j hj => (hv7 j hj).1)) (by first | assumption | omega | exact Or.inr ⟨_, by omega, rfl⟩ | (unfold zz_sok; decide) | decide | exact (fun j hj => (hv7 j hj).1)) (by first | assumption | omega | exact Or.inr ⟨_, by omega, rfl⟩ | (unfold zz_sok; decide) | decide | exact (fun j hj => (hv7 j hj).1)) (by first | assumption | omega | exact Or.inr ⟨_, by omega, rfl⟩ | (unfold zz_sok; decide) | decide | exact (fun j hj => (hv7 j hj).1)) (by first | assumption | omega | exact Or.inr ⟨_, by omega, rfl⟩ | (unfold zz_sok; decide) | decide | exact (fun j hj => (hv7 j hj).1)) (by first | assumption | omega | exact Or.inr ⟨_, by omega, rfl⟩ | (unfold zz_sok; decide) | decide | exact (fun j hj => (hv7 j hj).1)) (by first | assumption | omega | exact Or.inr ⟨_, by omega, rfl⟩ | (unfold zz_sok; decide) | decide | exact (fun j hj => (hv7 j hj).1))) ⟨Nat.le_of_ble_eq_true rfl, Nat.le_of_ble_eq_true rfl⟩ ⟨Nat.le_of_ble_eq_true rfl, Nat.le_of_ble_eq_true rfl⟩ [23, 24, 25, 32, 0, 1, 2, 3, 4, 5, 6, 7, 8, 9, 10, 11, 12, 13, 14, 15, 16, 17, 18, 19, 20, 21, 33, 34, 35, 36, 37] [22, 26, 27, 28, 29, 30, 31] (by decide +kernel) rfl rfl (by decide +kernel) (by decide +kernel) rfl rfl rfl rfl (Nat.le_of_ble_eq_true rfl) dX9_meet_74 ?_
            clear hw
            intro rr u H locs hp hw
            refine hp.elim fun rv_67 zg0 => zg0.elim fun ww_68 zg1 => zg1.elim fun aa_69 zg2 => zg2.elim fun fi2_70 zg3 => zg3.elim fun sd2_71 zg4 => zg4.elim fun fcc_72 zg5 => zg5.elim fun zz0_73 zg6 => zg6.elim fun zz1_74 zg7 => zg7.elim fun zz2_75 zg8 => zg8.elim fun zz3_76 zg9 => zg9.elim fun ee2_77 zg10 => zg10.elim fun ee3_78 zg11 => zg11.elim fun ee4_79 zg12 => zg12.elim fun oo2_80 zg13 => zg13.elim fun oo3_81 zg14 => zg14.elim fun zee1 zg15 => zg15.elim fun zee2 zg16 => zg16.elim fun hq74_0 zg17 => zg17.elim fun hq74_1 zg18 => zg18.elim fun hq74_2 hq74_3 => ?_
            clear hp zg0 zg1 zg2 zg3 zg4 zg5 zg6 zg7 zg8 zg9 zg10 zg11 zg12 zg13 zg14 zg15 zg16 zg17 zg18
            subst zee1
            subst zee2
            replace hw : zz_w G A s [(s5, .inl (G.2 0, 6, .inl m5)), (k0, .inr (6, [.ref b1, .ref b2, .ref b3, .ref b4, .int o1, .int o2, .int o3])), (b1, .inl (G.2 0, 7, .inl e1)), (b2, .inl (G.2 0, 6, .inl e2)), (b3, .inl (G.2 0, 7, .inl e3)), (b4, .inl (G.2 0, 42, .inl e4)), (ob0, .inr (9, [.ref ut, .int uf1, .ref h1, .int uf3, .ref sc, .ref dr0, .ref k0, .ref my0, .ref c0, .ref ga, .ref pa0, .ref t0, .ref sl0, .ref hd0])), (c0, .inr (0, [.ref a1, .ref a2, .int fi2_70, .int sd2_71])), (a1, .inl (G.2 0, 6, .inl ww_68)), (a2, .inl (G.2 0, 7, .inl aa_69)), (sc, .inr (5, [.ref s1, .ref s2, .ref s3, .ref s4, .ref s5, .ref s6, .ref s7, .ref s8, .ref s9, .int (nI pp), .int (nI pq), .int i3, .int i4])), (s3, .inl (G.2 0, 7, .inl m3)), (s4, .inl (G.2 0, 7, .inl m4)), (s6, .inl (G.2 0, 6, .inl m6)), (s7, .inl (G.2 0, 6, .inl m7)), (s9, .inl (G.2 0, 9, .inl fcc_72)), (s8, .inl (G.2 4, 4, .inr (.inr (.inr (.inr (va_up (va_up (va_up (va_up (fun _ => none) 0 (some w0)) 1 (some w1)) 2 (some w2)) 3 (some w3))))))), (w0, .inr (2, [.ref x0, .ref x1, .ref x2, .int (nI n0), .int (nI u0)])), (x0, .inl (G.2 0, 400, .inl f0)), (x1, .inl (G.2 0, 14, .inl g0)), (x2, .inl (G.2 0, 32, .inl zz0_73)), (w1, .inr (2, [.ref x3, .ref x4, .ref x5, .int (nI n1), .int (nI u1)])), (x3, .inl (G.2 0, 400, .inl f1)), (x4, .inl (G.2 0, 14, .inl g1)), (x5, .inl (G.2 0, 32, .inl zz1_74)), (w2, .inr (2, [.ref x6, .ref x7, .ref x8, .int (nI n2), .int (nI u2)])), (x6, .inl (G.2 0, 400, .inl f2)), (x7, .inl (G.2 0, 14, .inl g2)), (x8, .inl (G.2 0, 32, .inl zz2_75)), (w3, .inr (2, [.ref x9, .ref x10, .ref x11, .int (nI n3), .int (nI u3)])), (x9, .inl (G.2 0, 400, .inl f3)), (x10, .inl (G.2 0, 14, .inl g3)), (x11, .inl (G.2 0, 32, .inl zz3_76)), (my0, .inr (6, [.ref my1, .ref my2, .ref my3, .ref my4, .int o1, .int oo2_80, .int oo3_81])), (my1, .inl (G.2 0, 7, .inl hh1_3)), (my2, .inl (G.2 0, 6, .inl ee2_77)), (my3, .inl (G.2 0, 7, .inl ee3_78)), (my4, .inl (G.2 0, 42, .inl ee4_79))] H _ := hw
            refine W.eq (g2 := F0 m 77 ls [.int rv_67]) rfl ?_
            refine lv_pop hx hb dX9_meet_77 rfl ?_
            refine lv_iinc (v := (nI (vi7 + 1))) (lv' := [(2, .int (nI (vi7 + 1))), (3, .int rv_65), (0, .ref ob0), (1, .int ar1)]) hx hb dX9_meet_78 hl (k := 1) rfl (nI_add _ 1) (by decide) rfl (fun ls hl => ?_)
            refine lv_goto (tgt := 22) hx hb dX9_meet_81 (by decide) ?_
            exact ih22 (vi7 + 1) fcc_72 zz0_73 zz1_74 zz2_75 zz3_76 fi2_70 sd2_71 ww_68 aa_69 oo2_80 oo3_81 ee2_77 ee3_78 ee4_79 _ _ _ (by omega) (by omega) (by first | assumption | omega) (by first | assumption | omega) (hw.sub [6, 10, 11, 12, 13, 14, 15, 16, 17, 18, 19, 20, 21, 22, 23, 24, 25, 26, 27, 28, 29, 30, 31, 32, 0, 7, 8, 9, 33, 34, 35, 36, 37, 1, 2, 3, 4, 5] (by decide +kernel) rfl) (lv_sub hl [0, 2, 3] rfl)
          · skip
            refine lv_iload_n hx hb dX9_meet_43 rfl (lv_at hl 3 rfl) ?_
            refine lv_if_ne (tgt := 51) hx hb dX9_meet_44 (by decide) (fun c44_82 => ?_) (fun c44_82 => ?_)
            · skip
              refine lv_iload_n hx hb dX9_meet_51 rfl (lv_at hl 0 rfl) ?_
              exact hret _ _ _ _ _ _ ⟨rv_65, vF28, vF29, vF30, vF31, vF32, hh1_3, vF39, vF40, vF41, o1, vy37, vy38, vF35, vF36, vy33, vy34, rfl, rfl, (by first | assumption | exact Or.inl rfl | exact Or.inr rfl | omega), (by first | assumption | exact Or.inl rfl | exact Or.inr rfl | omega)⟩ (hw.sub [31, 32, 0, 1, 2, 3, 4, 5, 6, 7, 8, 9, 10, 11, 12, 13, 14, 15, 16, 17, 18, 19, 20, 21, 22, 26, 27, 28, 29, 30, 33, 34, 35, 36, 37, 23, 24, 25] (by decide +kernel) rfl) rfl dX9_meet_52
            · skip
              refine lv_iload_n hx hb dX9_meet_47 rfl (lv_at hl 1 rfl) ?_
              refine lv_goto (tgt := 52) hx hb dX9_meet_48 (by decide) ?_
              exact hret _ _ _ _ _ _ ⟨(nI vi7), vF28, vF29, vF30, vF31, vF32, hh1_3, vF39, vF40, vF41, o1, vy37, vy38, vF35, vF36, vy33, vy34, rfl, rfl, (by first | assumption | exact Or.inl rfl | exact Or.inr rfl | omega), (by first | assumption | exact Or.inl rfl | exact Or.inr rfl | omega)⟩ (hw.sub [31, 32, 0, 1, 2, 3, 4, 5, 6, 7, 8, 9, 10, 11, 12, 13, 14, 15, 16, 17, 18, 19, 20, 21, 22, 26, 27, 28, 29, 30, 33, 34, 35, 36, 37, 23, 24, 25] (by decide +kernel) rfl) rfl dX9_meet_52
    exact lp22_63 (101 + 1 - 0) 0 fc z0_ z1_ z2_ z3_ fi sd wf af o2 o3 hh2_4 hh3_5 hh4_6 _ _ _ (by omega) (by omega) (by first | assumption | omega | decide) (by first | assumption | omega | decide) hw (lv_sub hl [0, 1, 2] rfl)
  · skip
    refine lv_iconst (v := (-1)) hx hb dX9_meet_7 (by decide) ?_
    exact hret _ _ _ _ _ _ ⟨(-1), fc, z0_, z1_, z2_, z3_, mf1, mf2, mf3, mf4, mi1, mi2, mi3, wf, af, fi, sd, rfl, rfl, (by first | assumption | exact Or.inl rfl | exact Or.inr rfl | omega), (by first | assumption | exact Or.inl rfl | exact Or.inr rfl | omega)⟩ hw rfl dX9_meet_8
theorem kd_ncX9_away : kd_ck 103476446746761897549854208544090049426298317525893881914494643400061442755561203484495396608855356302716441934851 47 cX9_away.data.toList 0 = true := by decide +kernel
theorem dX9_away_0 : decode cX9_away 0 = .ok (.iconst 0, 1) := kd_dk0 kd_o3 kd_ncX9_away rfl
theorem dX9_away_1 : decode cX9_away 1 = .ok (.istore_n 1, 1) := kd_dk0 kd_o60 kd_ncX9_away rfl
theorem dX9_away_2 : decode cX9_away 2 = .ok (.iconst 0, 1) := kd_dk0 kd_o3 kd_ncX9_away rfl
theorem dX9_away_3 : decode cX9_away 3 = .ok (.istore_n 2, 1) := kd_dk0 kd_o61 kd_ncX9_away rfl
theorem dX9_away_4 : decode cX9_away 4 = .ok (.iload_n 2, 1) := kd_dk0 kd_o28 kd_ncX9_away rfl
theorem dX9_away_5 : decode cX9_away 5 = .ok (.aload_n 0, 1) := kd_dk0 kd_o42 kd_ncX9_away rfl
theorem dX9_away_6 : decode cX9_away 6 = .ok (.getfield 30, 3) := kd_dk2 kd_o180 kd_ncX9_away rfl
theorem dX9_away_9 : decode cX9_away 9 = .ok (.getfield 108, 3) := kd_dk2 kd_o180 kd_ncX9_away rfl
theorem dX9_away_12 : decode cX9_away 12 = .ok (.if_icmp .ge 33, 3) := kd_dj2 kd_o162 (w := 33) kd_ncX9_away rfl rfl
theorem dX9_away_15 : decode cX9_away 15 = .ok (.iload_n 1, 1) := kd_dk0 kd_o27 kd_ncX9_away rfl
theorem dX9_away_16 : decode cX9_away 16 = .ok (.aload_n 0, 1) := kd_dk0 kd_o42 kd_ncX9_away rfl
theorem dX9_away_17 : decode cX9_away 17 = .ok (.getfield 40, 3) := kd_dk2 kd_o180 kd_ncX9_away rfl
theorem dX9_away_20 : decode cX9_away 20 = .ok (.getfield 157, 3) := kd_dk2 kd_o180 kd_ncX9_away rfl
theorem dX9_away_23 : decode cX9_away 23 = .ok (.iload_n 2, 1) := kd_dk0 kd_o28 kd_ncX9_away rfl
theorem dX9_away_24 : decode cX9_away 24 = .ok (.iaload, 1) := kd_dk0 kd_o46 kd_ncX9_away rfl
theorem dX9_away_25 : decode cX9_away 25 = .ok (.aload_n 0, 1) := kd_dk0 kd_o42 kd_ncX9_away rfl
theorem dX9_away_26 : decode cX9_away 26 = .ok (.getfield 30, 3) := kd_dk2 kd_o180 kd_ncX9_away rfl
theorem dX9_away_29 : decode cX9_away 29 = .ok (.getfield 169, 3) := kd_dk2 kd_o180 kd_ncX9_away rfl
theorem dX9_away_32 : decode cX9_away 32 = .ok (.iload_n 2, 1) := kd_dk0 kd_o28 kd_ncX9_away rfl
theorem dX9_away_33 : decode cX9_away 33 = .ok (.iaload, 1) := kd_dk0 kd_o46 kd_ncX9_away rfl
theorem dX9_away_34 : decode cX9_away 34 = .ok (.invokestatic 177, 3) := kd_dk2 kd_o184 kd_ncX9_away rfl
theorem dX9_away_37 : decode cX9_away 37 = .ok (.iadd, 1) := kd_dk0 kd_o96 kd_ncX9_away rfl
theorem dX9_away_38 : decode cX9_away 38 = .ok (.istore_n 1, 1) := kd_dk0 kd_o60 kd_ncX9_away rfl
theorem dX9_away_39 : decode cX9_away 39 = .ok (.iinc 2 1, 3) := kd_dji kd_o132 (w := 1) kd_ncX9_away rfl rfl
theorem dX9_away_42 : decode cX9_away 42 = .ok (.goto (-38), 3) := kd_dj2 kd_o167 (w := 65498) kd_ncX9_away rfl rfl
theorem dX9_away_45 : decode cX9_away 45 = .ok (.iload_n 1, 1) := kd_dk0 kd_o27 kd_ncX9_away rfl
theorem dX9_away_46 : decode cX9_away 46 = .ok (.ireturn, 1) := kd_dk0 kd_o172 kd_ncX9_away rfl
set_option maxHeartbeats 8000000 in
set_option maxRecDepth 100000 in
theorem c_g_away (l : Launch) (G : zz_G) (ob0 : Nat) (ut : Nat) (uf1 : Int32) (h1 : Nat) (uf3 : Int32) (sc : Nat) (dr0 : Nat) (k0 : Nat) (my0 : Nat) (c0 : Nat) (ga : Nat) (pa0 : Nat) (t0 : Nat) (sl0 : Nat) (hd0 : Nat) (s1 : Nat) (s2 : Nat) (s3 : Nat) (s4 : Nat) (s5 : Nat) (s6 : Nat) (s7 : Nat) (s8 : Nat) (s9 : Nat) (w0 : Nat) (w1 : Nat) (w2 : Nat) (w3 : Nat) (x0 : Nat) (x1 : Nat) (x2 : Nat) (x3 : Nat) (x4 : Nat) (x5 : Nat) (x6 : Nat) (x7 : Nat) (x8 : Nat) (x9 : Nat) (x10 : Nat) (x11 : Nat) (pp : Nat) (pq : Nat) (i3 : Int32) (i4 : Int32) (m3 : Nat → Int32) (m4 : Nat → Int32) (m6 : Nat → Int32) (m7 : Nat → Int32) (fc : Nat → Int32) (f0 : Nat → Int32) (g0 : Nat → Int32) (n0 : Nat) (u0 : Nat) (z0_ : Nat → Int32) (f1 : Nat → Int32) (g1 : Nat → Int32) (n1 : Nat) (u1 : Nat) (z1_ : Nat → Int32) (f2 : Nat → Int32) (g2 : Nat → Int32) (n2 : Nat) (u2 : Nat) (z2_ : Nat → Int32) (f3 : Nat → Int32) (g3 : Nat → Int32) (n3 : Nat) (u3 : Nat) (z3_ : Nat → Int32) (m5 : Nat → Int32) (b1 : Nat) (b2 : Nat) (b3 : Nat) (b4 : Nat) (e1 : Nat → Int32) (e2 : Nat → Int32) (e3 : Nat → Int32) (e4 : Nat → Int32) (o1 : Int32) (o2 : Int32) (o3 : Int32) (hv0 : zz_lwv f0 g0 n0 u0) (hv1 : zz_lwv f1 g1 n1 u1) (hv2 : zz_lwv f2 g2 n2 u2) (hv3 : zz_lwv f3 g3 n3 u3) (hpp : pp ≤ 7) (hpq : pq ≤ 6) : zz_M l G mX9_away 2 0 0 [.ref ob0] [(ob0, .inr (9, [.ref ut, .int uf1, .ref h1, .int uf3, .ref sc, .ref dr0, .ref k0, .ref my0, .ref c0, .ref ga, .ref pa0, .ref t0, .ref sl0, .ref hd0])), (sc, .inr (5, [.ref s1, .ref s2, .ref s3, .ref s4, .ref s5, .ref s6, .ref s7, .ref s8, .ref s9, .int (nI pp), .int (nI pq), .int i3, .int i4])), (s3, .inl (G.2 0, 7, .inl m3)), (s4, .inl (G.2 0, 7, .inl m4)), (s6, .inl (G.2 0, 6, .inl m6)), (s7, .inl (G.2 0, 6, .inl m7)), (s9, .inl (G.2 0, 9, .inl fc)), (s8, .inl (G.2 4, 4, .inr (.inr (.inr (.inr (va_up (va_up (va_up (va_up (fun _ => none) 0 (some w0)) 1 (some w1)) 2 (some w2)) 3 (some w3))))))), (w0, .inr (2, [.ref x0, .ref x1, .ref x2, .int (nI n0), .int (nI u0)])), (x0, .inl (G.2 0, 400, .inl f0)), (x1, .inl (G.2 0, 14, .inl g0)), (x2, .inl (G.2 0, 32, .inl z0_)), (w1, .inr (2, [.ref x3, .ref x4, .ref x5, .int (nI n1), .int (nI u1)])), (x3, .inl (G.2 0, 400, .inl f1)), (x4, .inl (G.2 0, 14, .inl g1)), (x5, .inl (G.2 0, 32, .inl z1_)), (w2, .inr (2, [.ref x6, .ref x7, .ref x8, .int (nI n2), .int (nI u2)])), (x6, .inl (G.2 0, 400, .inl f2)), (x7, .inl (G.2 0, 14, .inl g2)), (x8, .inl (G.2 0, 32, .inl z2_)), (w3, .inr (2, [.ref x9, .ref x10, .ref x11, .int (nI n3), .int (nI u3)])), (x9, .inl (G.2 0, 400, .inl f3)), (x10, .inl (G.2 0, 14, .inl g3)), (x11, .inl (G.2 0, 32, .inl z3_)), (s5, .inl (G.2 0, 6, .inl m5)), (k0, .inr (6, [.ref b1, .ref b2, .ref b3, .ref b4, .int o1, .int o2, .int o3])), (b1, .inl (G.2 0, 7, .inl e1)), (b2, .inl (G.2 0, 6, .inl e2)), (b3, .inl (G.2 0, 7, .inl e3)), (b4, .inl (G.2 0, 42, .inl e4))] (fun rr u => ∃ (rv : Int32), ∃ (fcc : Nat → Int32), ∃ (zz0 : Nat → Int32), ∃ (zz1 : Nat → Int32), ∃ (zz2 : Nat → Int32), ∃ (zz3 : Nat → Int32), rr = some (.int rv) ∧ u = [(ob0, .inr (9, [.ref ut, .int uf1, .ref h1, .int uf3, .ref sc, .ref dr0, .ref k0, .ref my0, .ref c0, .ref ga, .ref pa0, .ref t0, .ref sl0, .ref hd0])), (sc, .inr (5, [.ref s1, .ref s2, .ref s3, .ref s4, .ref s5, .ref s6, .ref s7, .ref s8, .ref s9, .int (nI pp), .int (nI pq), .int i3, .int i4])), (s3, .inl (G.2 0, 7, .inl m3)), (s4, .inl (G.2 0, 7, .inl m4)), (s6, .inl (G.2 0, 6, .inl m6)), (s7, .inl (G.2 0, 6, .inl m7)), (s9, .inl (G.2 0, 9, .inl fcc)), (s8, .inl (G.2 4, 4, .inr (.inr (.inr (.inr (va_up (va_up (va_up (va_up (fun _ => none) 0 (some w0)) 1 (some w1)) 2 (some w2)) 3 (some w3))))))), (w0, .inr (2, [.ref x0, .ref x1, .ref x2, .int (nI n0), .int (nI u0)])), (x0, .inl (G.2 0, 400, .inl f0)), (x1, .inl (G.2 0, 14, .inl g0)), (x2, .inl (G.2 0, 32, .inl zz0)), (w1, .inr (2, [.ref x3, .ref x4, .ref x5, .int (nI n1), .int (nI u1)])), (x3, .inl (G.2 0, 400, .inl f1)), (x4, .inl (G.2 0, 14, .inl g1)), (x5, .inl (G.2 0, 32, .inl zz1)), (w2, .inr (2, [.ref x6, .ref x7, .ref x8, .int (nI n2), .int (nI u2)])), (x6, .inl (G.2 0, 400, .inl f2)), (x7, .inl (G.2 0, 14, .inl g2)), (x8, .inl (G.2 0, 32, .inl zz2)), (w3, .inr (2, [.ref x9, .ref x10, .ref x11, .int (nI n3), .int (nI u3)])), (x9, .inl (G.2 0, 400, .inl f3)), (x10, .inl (G.2 0, 14, .inl g3)), (x11, .inl (G.2 0, 32, .inl zz3)), (s5, .inl (G.2 0, 6, .inl m5)), (k0, .inr (6, [.ref b1, .ref b2, .ref b3, .ref b4, .int o1, .int o2, .int o3])), (b1, .inl (G.2 0, 7, .inl e1)), (b2, .inl (G.2 0, 6, .inl e2)), (b3, .inl (G.2 0, 7, .inl e3)), (b4, .inl (G.2 0, 42, .inl e4))] ∧ (rv = zS (fun p => zm_ap (e2 p) (m5 p)) pq)) := by
  refine zz_enteri (by decide +kernel) (Nat.le_of_ble_eq_true rfl) ?_
  intro p e s m args below meth c A Q ls S hnm hret hw hl
  have hl : lv_has ls 3 [(0, .ref ob0)] := hl
  have hx := S.1
  have hb := S.2.1
  refine lv_iconst (v := 0) hx hb dX9_away_0 (by decide) ?_
  refine lv_istore_n (lv' := [(1, .int 0), (0, .ref ob0)]) hx hb dX9_away_1 rfl hl (by decide) rfl (fun ls hl => ?_)
  refine lv_iconst (v := 0) hx hb dX9_away_2 (by decide) ?_
  refine lv_istore_n (lv' := [(2, .int 0), (1, .int 0), (0, .ref ob0)]) hx hb dX9_away_3 rfl hl (by decide) rfl (fun ls hl => ?_)
  have lp4_11 : ∀ (vn2 vi1 : Nat) (vy6 : Int32) (H : Heap) (locs : List Loc) (ls : Array Slot), vi1 ≤ pq → pq < vi1 + vn2 → vy6 = zS (fun p => zm_ap (e2 p) (m5 p)) vi1 → zz_w G A s [(ob0, .inr (9, [.ref ut, .int uf1, .ref h1, .int uf3, .ref sc, .ref dr0, .ref k0, .ref my0, .ref c0, .ref ga, .ref pa0, .ref t0, .ref sl0, .ref hd0])), (sc, .inr (5, [.ref s1, .ref s2, .ref s3, .ref s4, .ref s5, .ref s6, .ref s7, .ref s8, .ref s9, .int (nI pp), .int (nI pq), .int i3, .int i4])), (s3, .inl (G.2 0, 7, .inl m3)), (s4, .inl (G.2 0, 7, .inl m4)), (s6, .inl (G.2 0, 6, .inl m6)), (s7, .inl (G.2 0, 6, .inl m7)), (s9, .inl (G.2 0, 9, .inl fc)), (s8, .inl (G.2 4, 4, .inr (.inr (.inr (.inr (va_up (va_up (va_up (va_up (fun _ => none) 0 (some w0)) 1 (some w1)) 2 (some w2)) 3 (some w3))))))), (w0, .inr (2, [.ref x0, .ref x1, .ref x2, .int (nI n0), .int (nI u0)])), (x0, .inl (G.2 0, 400, .inl f0)), (x1, .inl (G.2 0, 14, .inl g0)), (x2, .inl (G.2 0, 32, .inl z0_)), (w1, .inr (2, [.ref x3, .ref x4, .ref x5, .int (nI n1), .int (nI u1)])), (x3, .inl (G.2 0, 400, .inl f1)), (x4, .inl (G.2 0, 14, .inl g1)), (x5, .inl (G.2 0, 32, .inl z1_)), (w2, .inr (2, [.ref x6, .ref x7, .ref x8, .int (nI n2), .int (nI u2)])), (x6, .inl (G.2 0, 400, .inl f2)), (x7, .inl (G.2 0, 14, .inl g2)), (x8, .inl (G.2 0, 32, .inl z2_)), (w3, .inr (2, [.ref x9, .ref x10, .ref x11, .int (nI n3), .int (nI u3)])), (x9, .inl (G.2 0, 400, .inl f3)), (x10, .inl (G.2 0, 14, .inl g3)), (x11, .inl (G.2 0, 32, .inl z3_)), (s5, .inl (G.2 0, 6, .inl m5)), (k0, .inr (6, [.ref b1, .ref b2, .ref b3, .ref b4, .int o1, .int o2, .int o3])), (b1, .inl (G.2 0, 7, .inl e1)), (b2, .inl (G.2 0, 6, .inl e2)), (b3, .inl (G.2 0, 7, .inl e3)), (b4, .inl (G.2 0, 42, .inl e4))] H locs → lv_has ls 3 [(2, .int (nI vi1)), (1, .int vy6), (0, .ref ob0)] → W p l e (zz_rm 2 0 0) s m args below meth c H locs (0) (0) Q (F0 m 4 ls []) := by
    intro vn2
    induction vn2 with
    | zero => intro vi1 vy6 H locs ls hi1 hi2; exact absurd hi2 (by omega)
    | succ vn2 ih4 =>
      intro vi1 vy6 H locs ls hi4a hi4b hv4_10 hw hl
      refine lv_iload_n hx hb dX9_away_4 rfl (lv_at hl 0 rfl) ?_
      refine lv_aload_n hx hb dX9_away_5 rfl (lv_at hl 2 rfl) ?_
      refine zz_get (v := .ref sc) S hw fgX9_30 0 rfl rfl dX9_away_6 ?_
      refine zz_get (v := .int (nI pq)) S hw fgX9_108 1 rfl rfl dX9_away_9 ?_
      refine lv_icmp_ge (tgt := 45) hx hb dX9_away_12 (by decide) (fun c12_12 => ?_) (fun c12_12 => ?_)
      · skip
        have c12_12n : pq ≤ vi1 := (zz_le (a := pq) (b := vi1) rfl rfl (by omega) (by omega)).mp c12_12
        refine lv_iload_n hx hb dX9_away_45 rfl (lv_at hl 1 rfl) ?_
        exact hret _ _ _ _ _ _ ⟨vy6, fc, z0_, z1_, z2_, z3_, rfl, rfl, (zS_e hv4_10 (by omega))⟩ hw rfl dX9_away_46
      · skip
        have c12_12n : ¬ (pq ≤ vi1) := fun z => c12_12 ((zz_le (a := pq) (b := vi1) rfl rfl (by omega) (by omega)).mpr z)
        refine lv_iload_n hx hb dX9_away_15 rfl (lv_at hl 1 rfl) ?_
        refine lv_aload_n hx hb dX9_away_16 rfl (lv_at hl 2 rfl) ?_
        refine zz_get (v := .ref k0) S hw fgX9_40 0 rfl rfl dX9_away_17 ?_
        refine zz_get (v := .ref b2) S hw fgX9_157 25 rfl rfl dX9_away_20 ?_
        refine lv_iload_n hx hb dX9_away_23 rfl (lv_at hl 0 rfl) ?_
        refine W.eq (g2 := F0 m 24 ls [.int (nI vi1), .ref b2, .int vy6]) rfl ?_
        refine zz_iald (v := (e2 vi1)) S hw 27 rfl (vp_in_nI (n := vi1) (by omega) (by decide)) (congrArg e2 (nI_clamp (n := vi1) (by omega))) dX9_away_24 ?_
        refine lv_aload_n hx hb dX9_away_25 rfl (lv_at hl 2 rfl) ?_
        refine zz_get (v := .ref sc) S hw fgX9_30 0 rfl rfl dX9_away_26 ?_
        refine zz_get (v := .ref s5) S hw fgX9_169 1 rfl rfl dX9_away_29 ?_
        refine lv_iload_n hx hb dX9_away_32 rfl (lv_at hl 0 rfl) ?_
        refine zz_iald (v := (m5 vi1)) S hw 24 rfl (vp_in_nI (n := vi1) (by omega) (by decide)) (congrArg m5 (nI_clamp (n := vi1) (by omega))) dX9_away_33 ?_
        refine zz_callS (As := [.int (e2 vi1), .int (m5 vi1)]) (rest := [.int vy6]) (wr := [(ob0, .inr (9, [.ref ut, .int uf1, .ref h1, .int uf3, .ref sc, .ref dr0, .ref k0, .ref my0, .ref c0, .ref ga, .ref pa0, .ref t0, .ref sl0, .ref hd0])), (sc, .inr (5, [.ref s1, .ref s2, .ref s3, .ref s4, .ref s5, .ref s6, .ref s7, .ref s8, .ref s9, .int (nI pp), .int (nI pq), .int i3, .int i4])), (s3, .inl (G.2 0, 7, .inl m3)), (s4, .inl (G.2 0, 7, .inl m4)), (s6, .inl (G.2 0, 6, .inl m6)), (s7, .inl (G.2 0, 6, .inl m7)), (s9, .inl (G.2 0, 9, .inl fc)), (s8, .inl (G.2 4, 4, .inr (.inr (.inr (.inr (va_up (va_up (va_up (va_up (fun _ => none) 0 (some w0)) 1 (some w1)) 2 (some w2)) 3 (some w3))))))), (w0, .inr (2, [.ref x0, .ref x1, .ref x2, .int (nI n0), .int (nI u0)])), (x0, .inl (G.2 0, 400, .inl f0)), (x1, .inl (G.2 0, 14, .inl g0)), (x2, .inl (G.2 0, 32, .inl z0_)), (w1, .inr (2, [.ref x3, .ref x4, .ref x5, .int (nI n1), .int (nI u1)])), (x3, .inl (G.2 0, 400, .inl f1)), (x4, .inl (G.2 0, 14, .inl g1)), (x5, .inl (G.2 0, 32, .inl z1_)), (w2, .inr (2, [.ref x6, .ref x7, .ref x8, .int (nI n2), .int (nI u2)])), (x6, .inl (G.2 0, 400, .inl f2)), (x7, .inl (G.2 0, 14, .inl g2)), (x8, .inl (G.2 0, 32, .inl z2_)), (w3, .inr (2, [.ref x9, .ref x10, .ref x11, .int (nI n3), .int (nI u3)])), (x9, .inl (G.2 0, 400, .inl f3)), (x10, .inl (G.2 0, 14, .inl g3)), (x11, .inl (G.2 0, 32, .inl z3_)), (s5, .inl (G.2 0, 6, .inl m5)), (k0, .inr (6, [.ref b1, .ref b2, .ref b3, .ref b4, .int o1, .int o2, .int o3])), (b1, .inl (G.2 0, 7, .inl e1)), (b2, .inl (G.2 0, 6, .inl e2)), (b3, .inl (G.2 0, 7, .inl e3)), (b4, .inl (G.2 0, 42, .inl e4))]) S hw hl.1 lX9_177 (c_ghours l G (e2 vi1) (m5 vi1)) ⟨Nat.le_of_ble_eq_true rfl, Nat.le_of_ble_eq_true rfl⟩ ⟨Nat.le_of_ble_eq_true rfl, Nat.le_of_ble_eq_true rfl⟩ [] [0, 1, 2, 3, 4, 5, 6, 7, 8, 9, 10, 11, 12, 13, 14, 15, 16, 17, 18, 19, 20, 21, 22, 23, 24, 25, 26, 27, 28, 29] (by decide +kernel) rfl rfl (by decide +kernel) (by decide +kernel) rfl rfl (Nat.le_of_ble_eq_true rfl) dX9_away_34 ?_
        clear hw
        intro rr u H locs hp hw
        refine hp.elim fun rv_13 zg0 => zg0.elim fun zee1 zg1 => zg1.elim fun zee2 hq34_0 => ?_
        clear hp zg0 zg1
        subst zee1
        subst zee2
        replace hw : zz_w G A s [(ob0, .inr (9, [.ref ut, .int uf1, .ref h1, .int uf3, .ref sc, .ref dr0, .ref k0, .ref my0, .ref c0, .ref ga, .ref pa0, .ref t0, .ref sl0, .ref hd0])), (sc, .inr (5, [.ref s1, .ref s2, .ref s3, .ref s4, .ref s5, .ref s6, .ref s7, .ref s8, .ref s9, .int (nI pp), .int (nI pq), .int i3, .int i4])), (s3, .inl (G.2 0, 7, .inl m3)), (s4, .inl (G.2 0, 7, .inl m4)), (s6, .inl (G.2 0, 6, .inl m6)), (s7, .inl (G.2 0, 6, .inl m7)), (s9, .inl (G.2 0, 9, .inl fc)), (s8, .inl (G.2 4, 4, .inr (.inr (.inr (.inr (va_up (va_up (va_up (va_up (fun _ => none) 0 (some w0)) 1 (some w1)) 2 (some w2)) 3 (some w3))))))), (w0, .inr (2, [.ref x0, .ref x1, .ref x2, .int (nI n0), .int (nI u0)])), (x0, .inl (G.2 0, 400, .inl f0)), (x1, .inl (G.2 0, 14, .inl g0)), (x2, .inl (G.2 0, 32, .inl z0_)), (w1, .inr (2, [.ref x3, .ref x4, .ref x5, .int (nI n1), .int (nI u1)])), (x3, .inl (G.2 0, 400, .inl f1)), (x4, .inl (G.2 0, 14, .inl g1)), (x5, .inl (G.2 0, 32, .inl z1_)), (w2, .inr (2, [.ref x6, .ref x7, .ref x8, .int (nI n2), .int (nI u2)])), (x6, .inl (G.2 0, 400, .inl f2)), (x7, .inl (G.2 0, 14, .inl g2)), (x8, .inl (G.2 0, 32, .inl z2_)), (w3, .inr (2, [.ref x9, .ref x10, .ref x11, .int (nI n3), .int (nI u3)])), (x9, .inl (G.2 0, 400, .inl f3)), (x10, .inl (G.2 0, 14, .inl g3)), (x11, .inl (G.2 0, 32, .inl z3_)), (s5, .inl (G.2 0, 6, .inl m5)), (k0, .inr (6, [.ref b1, .ref b2, .ref b3, .ref b4, .int o1, .int o2, .int o3])), (b1, .inl (G.2 0, 7, .inl e1)), (b2, .inl (G.2 0, 6, .inl e2)), (b3, .inl (G.2 0, 7, .inl e3)), (b4, .inl (G.2 0, 42, .inl e4))] H _ := hw
        refine W.eq (g2 := F0 m 37 ls [.int rv_13, .int vy6]) rfl ?_
        refine lv_iadd hx hb dX9_away_37 ?_
        refine lv_topi (fun z14 ez14 => ?_)
        refine lv_istore_n (lv' := [(1, .int z14), (2, .int (nI vi1)), (0, .ref ob0)]) hx hb dX9_away_38 rfl hl (by decide) rfl (fun ls hl => ?_)
        refine lv_iinc (v := (nI (vi1 + 1))) (lv' := [(2, .int (nI (vi1 + 1))), (1, .int z14), (0, .ref ob0)]) hx hb dX9_away_39 hl (k := 1) rfl (nI_add _ 1) (by decide) rfl (fun ls hl => ?_)
        refine lv_goto (tgt := 4) hx hb dX9_away_42 (by decide) ?_
        exact ih4 (vi1 + 1) z14 _ _ _ (by omega) (by omega) (zS_s hv4_10 (by assumption) hq34_0) hw (lv_sub hl [0, 1, 2] rfl)
  exact lp4_11 (pq + 1 - 0) 0 0 _ _ _ (by omega) (by omega) rfl hw (lv_sub hl [0, 1, 2] rfl)
theorem kd_ncX9_then : kd_ck 293913460329712256694695588240387394357672338601280989812996245134272942947254448817851815492099202243356085610067914103626852797378595843150013007922670182643090667569503368247172918620587195845202248350737572206181793769921920472708309576981290 102 cX9_then.data.toList 0 = true := by decide +kernel
theorem dX9_then_0 : decode cX9_then 0 = .ok (.aload_n 0, 1) := kd_dk0 kd_o42 kd_ncX9_then rfl
theorem dX9_then_1 : decode cX9_then 1 = .ok (.iload_n 1, 1) := kd_dk0 kd_o27 kd_ncX9_then rfl
theorem dX9_then_2 : decode cX9_then 2 = .ok (.invokevirtual 154, 3) := kd_dk2 kd_o182 kd_ncX9_then rfl
theorem dX9_then_5 : decode cX9_then 5 = .ok (.ifCond .eq 20, 3) := kd_dj2 kd_o153 (w := 20) kd_ncX9_then rfl rfl
theorem dX9_then_8 : decode cX9_then 8 = .ok (.iload_n 2, 1) := kd_dk0 kd_o28 kd_ncX9_then rfl
theorem dX9_then_9 : decode cX9_then 9 = .ok (.ifCond .lt 16, 3) := kd_dj2 kd_o155 (w := 16) kd_ncX9_then rfl rfl
theorem dX9_then_12 : decode cX9_then 12 = .ok (.iload_n 2, 1) := kd_dk0 kd_o28 kd_ncX9_then rfl
theorem dX9_then_13 : decode cX9_then 13 = .ok (.bipush 60, 2) := kd_dj1 kd_o16 (w := 60) kd_ncX9_then rfl rfl
theorem dX9_then_15 : decode cX9_then 15 = .ok (.if_icmp .gt 10, 3) := kd_dj2 kd_o163 (w := 10) kd_ncX9_then rfl rfl
theorem dX9_then_18 : decode cX9_then 18 = .ok (.iload_n 3, 1) := kd_dk0 kd_o29 kd_ncX9_then rfl
theorem dX9_then_19 : decode cX9_then 19 = .ok (.invokestatic 210, 3) := kd_dk2 kd_o184 kd_ncX9_then rfl
theorem dX9_then_22 : decode cX9_then 22 = .ok (.ifCond .ne 5, 3) := kd_dj2 kd_o154 (w := 5) kd_ncX9_then rfl rfl
theorem dX9_then_25 : decode cX9_then 25 = .ok (.iconst (-1), 1) := kd_dk0 kd_o2 kd_ncX9_then rfl
theorem dX9_then_26 : decode cX9_then 26 = .ok (.ireturn, 1) := kd_dk0 kd_o172 kd_ncX9_then rfl
theorem dX9_then_27 : decode cX9_then 27 = .ok (.aload_n 0, 1) := kd_dk0 kd_o42 kd_ncX9_then rfl
theorem dX9_then_28 : decode cX9_then 28 = .ok (.getfield 44, 3) := kd_dk2 kd_o180 kd_ncX9_then rfl
theorem dX9_then_31 : decode cX9_then 31 = .ok (.aload_n 0, 1) := kd_dk0 kd_o42 kd_ncX9_then rfl
theorem dX9_then_32 : decode cX9_then 32 = .ok (.getfield 40, 3) := kd_dk2 kd_o180 kd_ncX9_then rfl
theorem dX9_then_35 : decode cX9_then 35 = .ok (.invokevirtual 244, 3) := kd_dk2 kd_o182 kd_ncX9_then rfl
theorem dX9_then_38 : decode cX9_then 38 = .ok (.aload_n 0, 1) := kd_dk0 kd_o42 kd_ncX9_then rfl
theorem dX9_then_39 : decode cX9_then 39 = .ok (.getfield 50, 3) := kd_dk2 kd_o180 kd_ncX9_then rfl
theorem dX9_then_42 : decode cX9_then 42 = .ok (.aload_n 0, 1) := kd_dk0 kd_o42 kd_ncX9_then rfl
theorem dX9_then_43 : decode cX9_then 43 = .ok (.getfield 30, 3) := kd_dk2 kd_o180 kd_ncX9_then rfl
theorem dX9_then_46 : decode cX9_then 46 = .ok (.aload_n 0, 1) := kd_dk0 kd_o42 kd_ncX9_then rfl
theorem dX9_then_47 : decode cX9_then 47 = .ok (.getfield 44, 3) := kd_dk2 kd_o180 kd_ncX9_then rfl
theorem dX9_then_50 : decode cX9_then 50 = .ok (.iload_n 2, 1) := kd_dk0 kd_o28 kd_ncX9_then rfl
theorem dX9_then_51 : decode cX9_then 51 = .ok (.aload_n 0, 1) := kd_dk0 kd_o42 kd_ncX9_then rfl
theorem dX9_then_52 : decode cX9_then 52 = .ok (.getfield 30, 3) := kd_dk2 kd_o180 kd_ncX9_then rfl
theorem dX9_then_55 : decode cX9_then 55 = .ok (.getfield 190, 3) := kd_dk2 kd_o180 kd_ncX9_then rfl
theorem dX9_then_58 : decode cX9_then 58 = .ok (.iconst 1, 1) := kd_dk0 kd_o4 kd_ncX9_then rfl
theorem dX9_then_59 : decode cX9_then 59 = .ok (.invokevirtual 193, 3) := kd_dk2 kd_o182 kd_ncX9_then rfl
theorem dX9_then_62 : decode cX9_then 62 = .ok (.pop, 1) := kd_dk0 kd_o87 kd_ncX9_then rfl
theorem dX9_then_63 : decode cX9_then 63 = .ok (.iload_n 3, 1) := kd_dk0 kd_o29 kd_ncX9_then rfl
theorem dX9_then_64 : decode cX9_then 64 = .ok (.ifCond .ne 13, 3) := kd_dj2 kd_o154 (w := 13) kd_ncX9_then rfl rfl
theorem dX9_then_67 : decode cX9_then 67 = .ok (.aload_n 0, 1) := kd_dk0 kd_o42 kd_ncX9_then rfl
theorem dX9_then_68 : decode cX9_then 68 = .ok (.getfield 44, 3) := kd_dk2 kd_o180 kd_ncX9_then rfl
theorem dX9_then_71 : decode cX9_then 71 = .ok (.getfield 157, 3) := kd_dk2 kd_o180 kd_ncX9_then rfl
theorem dX9_then_74 : decode cX9_then 74 = .ok (.iload_n 1, 1) := kd_dk0 kd_o27 kd_ncX9_then rfl
theorem dX9_then_75 : decode cX9_then 75 = .ok (.iaload, 1) := kd_dk0 kd_o46 kd_ncX9_then rfl
theorem dX9_then_76 : decode cX9_then 76 = .ok (.ireturn, 1) := kd_dk0 kd_o172 kd_ncX9_then rfl
theorem dX9_then_77 : decode cX9_then 77 = .ok (.aload_n 0, 1) := kd_dk0 kd_o42 kd_ncX9_then rfl
theorem dX9_then_78 : decode cX9_then 78 = .ok (.getfield 50, 3) := kd_dk2 kd_o180 kd_ncX9_then rfl
theorem dX9_then_81 : decode cX9_then 81 = .ok (.aload_n 0, 1) := kd_dk0 kd_o42 kd_ncX9_then rfl
theorem dX9_then_82 : decode cX9_then 82 = .ok (.getfield 30, 3) := kd_dk2 kd_o180 kd_ncX9_then rfl
theorem dX9_then_85 : decode cX9_then 85 = .ok (.aload_n 0, 1) := kd_dk0 kd_o42 kd_ncX9_then rfl
theorem dX9_then_86 : decode cX9_then 86 = .ok (.getfield 44, 3) := kd_dk2 kd_o180 kd_ncX9_then rfl
theorem dX9_then_89 : decode cX9_then 89 = .ok (.invokevirtual 141, 3) := kd_dk2 kd_o182 kd_ncX9_then rfl
theorem dX9_then_92 : decode cX9_then 92 = .ok (.aload_n 0, 1) := kd_dk0 kd_o42 kd_ncX9_then rfl
theorem dX9_then_93 : decode cX9_then 93 = .ok (.getfield 50, 3) := kd_dk2 kd_o180 kd_ncX9_then rfl
theorem dX9_then_96 : decode cX9_then 96 = .ok (.getfield 166, 3) := kd_dk2 kd_o180 kd_ncX9_then rfl
theorem dX9_then_99 : decode cX9_then 99 = .ok (.iload_n 1, 1) := kd_dk0 kd_o27 kd_ncX9_then rfl
theorem dX9_then_100 : decode cX9_then 100 = .ok (.iaload, 1) := kd_dk0 kd_o46 kd_ncX9_then rfl
theorem dX9_then_101 : decode cX9_then 101 = .ok (.ireturn, 1) := kd_dk0 kd_o172 kd_ncX9_then rfl
set_option maxHeartbeats 8000000 in
set_option maxRecDepth 100000 in
theorem c_g_then (l : Launch) (G : zz_G) (ob0 : Nat) (ut : Nat) (uf1 : Int32) (h1 : Nat) (uf3 : Int32) (sc : Nat) (dr0 : Nat) (k0 : Nat) (my0 : Nat) (c0 : Nat) (ga : Nat) (pa0 : Nat) (t0 : Nat) (sl0 : Nat) (hd0 : Nat) (s1 : Nat) (s2 : Nat) (s3 : Nat) (s4 : Nat) (s5 : Nat) (s6 : Nat) (s7 : Nat) (s8 : Nat) (s9 : Nat) (w0 : Nat) (w1 : Nat) (w2 : Nat) (w3 : Nat) (x0 : Nat) (x1 : Nat) (x2 : Nat) (x3 : Nat) (x4 : Nat) (x5 : Nat) (x6 : Nat) (x7 : Nat) (x8 : Nat) (x9 : Nat) (x10 : Nat) (x11 : Nat) (pp : Nat) (pq : Nat) (i3 : Int32) (i4 : Int32) (m3 : Nat → Int32) (m4 : Nat → Int32) (m6 : Nat → Int32) (m7 : Nat → Int32) (fc : Nat → Int32) (f0 : Nat → Int32) (g0 : Nat → Int32) (n0 : Nat) (u0 : Nat) (z0_ : Nat → Int32) (f1 : Nat → Int32) (g1 : Nat → Int32) (n1 : Nat) (u1 : Nat) (z1_ : Nat → Int32) (f2 : Nat → Int32) (g2 : Nat → Int32) (n2 : Nat) (u2 : Nat) (z2_ : Nat → Int32) (f3 : Nat → Int32) (g3 : Nat → Int32) (n3 : Nat) (u3 : Nat) (z3_ : Nat → Int32) (m5 : Nat → Int32) (b1 : Nat) (b2 : Nat) (b3 : Nat) (b4 : Nat) (e1 : Nat → Int32) (e2 : Nat → Int32) (e3 : Nat → Int32) (e4 : Nat → Int32) (o1 : Int32) (o2 : Int32) (o3 : Int32) (my1 : Nat) (my2 : Nat) (my3 : Nat) (my4 : Nat) (mf1 : Nat → Int32) (mf2 : Nat → Int32) (mf3 : Nat → Int32) (mf4 : Nat → Int32) (mi1 : Int32) (mi2 : Int32) (mi3 : Int32) (a1 : Nat) (a2 : Nat) (wf : Nat → Int32) (af : Nat → Int32) (fi : Int32) (sd : Int32) (ar1 : Int32) (ar2 : Int32) (ar3 : Int32) (hv0 : zz_lwv f0 g0 n0 u0) (hv1 : zz_lwv f1 g1 n1 u1) (hv2 : zz_lwv f2 g2 n2 u2) (hv3 : zz_lwv f3 g3 n3 u3) (hpp : pp ≤ 7) (hpq : pq ≤ 6) (hw6 : ∀ j, j < 6 → zz_ok 7 (wf j)) (ha7 : ∀ j, j < 7 → zz_ok 6 (af j)) : zz_M l G mX9_then 7 0 0 [.ref ob0, .int ar1, .int ar2, .int ar3] [(ob0, .inr (9, [.ref ut, .int uf1, .ref h1, .int uf3, .ref sc, .ref dr0, .ref k0, .ref my0, .ref c0, .ref ga, .ref pa0, .ref t0, .ref sl0, .ref hd0])), (sc, .inr (5, [.ref s1, .ref s2, .ref s3, .ref s4, .ref s5, .ref s6, .ref s7, .ref s8, .ref s9, .int (nI pp), .int (nI pq), .int i3, .int i4])), (s3, .inl (G.2 0, 7, .inl m3)), (s4, .inl (G.2 0, 7, .inl m4)), (s6, .inl (G.2 0, 6, .inl m6)), (s7, .inl (G.2 0, 6, .inl m7)), (s9, .inl (G.2 0, 9, .inl fc)), (s8, .inl (G.2 4, 4, .inr (.inr (.inr (.inr (va_up (va_up (va_up (va_up (fun _ => none) 0 (some w0)) 1 (some w1)) 2 (some w2)) 3 (some w3))))))), (w0, .inr (2, [.ref x0, .ref x1, .ref x2, .int (nI n0), .int (nI u0)])), (x0, .inl (G.2 0, 400, .inl f0)), (x1, .inl (G.2 0, 14, .inl g0)), (x2, .inl (G.2 0, 32, .inl z0_)), (w1, .inr (2, [.ref x3, .ref x4, .ref x5, .int (nI n1), .int (nI u1)])), (x3, .inl (G.2 0, 400, .inl f1)), (x4, .inl (G.2 0, 14, .inl g1)), (x5, .inl (G.2 0, 32, .inl z1_)), (w2, .inr (2, [.ref x6, .ref x7, .ref x8, .int (nI n2), .int (nI u2)])), (x6, .inl (G.2 0, 400, .inl f2)), (x7, .inl (G.2 0, 14, .inl g2)), (x8, .inl (G.2 0, 32, .inl z2_)), (w3, .inr (2, [.ref x9, .ref x10, .ref x11, .int (nI n3), .int (nI u3)])), (x9, .inl (G.2 0, 400, .inl f3)), (x10, .inl (G.2 0, 14, .inl g3)), (x11, .inl (G.2 0, 32, .inl z3_)), (s5, .inl (G.2 0, 6, .inl m5)), (k0, .inr (6, [.ref b1, .ref b2, .ref b3, .ref b4, .int o1, .int o2, .int o3])), (b1, .inl (G.2 0, 7, .inl e1)), (b2, .inl (G.2 0, 6, .inl e2)), (b3, .inl (G.2 0, 7, .inl e3)), (b4, .inl (G.2 0, 42, .inl e4)), (my0, .inr (6, [.ref my1, .ref my2, .ref my3, .ref my4, .int mi1, .int mi2, .int mi3])), (my1, .inl (G.2 0, 7, .inl mf1)), (my2, .inl (G.2 0, 6, .inl mf2)), (my3, .inl (G.2 0, 7, .inl mf3)), (my4, .inl (G.2 0, 42, .inl mf4)), (c0, .inr (0, [.ref a1, .ref a2, .int fi, .int sd])), (a1, .inl (G.2 0, 6, .inl wf)), (a2, .inl (G.2 0, 7, .inl af))] (fun rr u => ∃ (rv : Int32), ∃ (fcc : Nat → Int32), ∃ (zz0 : Nat → Int32), ∃ (zz1 : Nat → Int32), ∃ (zz2 : Nat → Int32), ∃ (zz3 : Nat → Int32), ∃ (nf1 : Nat → Int32), ∃ (nf2 : Nat → Int32), ∃ (nf3 : Nat → Int32), ∃ (nf4 : Nat → Int32), ∃ (ni1 : Int32), ∃ (ni2 : Int32), ∃ (ni3 : Int32), ∃ (ww : Nat → Int32), ∃ (aa : Nat → Int32), ∃ (fi2 : Int32), ∃ (sd2 : Int32), rr = some (.int rv) ∧ u = [(ob0, .inr (9, [.ref ut, .int uf1, .ref h1, .int uf3, .ref sc, .ref dr0, .ref k0, .ref my0, .ref c0, .ref ga, .ref pa0, .ref t0, .ref sl0, .ref hd0])), (sc, .inr (5, [.ref s1, .ref s2, .ref s3, .ref s4, .ref s5, .ref s6, .ref s7, .ref s8, .ref s9, .int (nI pp), .int (nI pq), .int i3, .int i4])), (s3, .inl (G.2 0, 7, .inl m3)), (s4, .inl (G.2 0, 7, .inl m4)), (s6, .inl (G.2 0, 6, .inl m6)), (s7, .inl (G.2 0, 6, .inl m7)), (s9, .inl (G.2 0, 9, .inl fcc)), (s8, .inl (G.2 4, 4, .inr (.inr (.inr (.inr (va_up (va_up (va_up (va_up (fun _ => none) 0 (some w0)) 1 (some w1)) 2 (some w2)) 3 (some w3))))))), (w0, .inr (2, [.ref x0, .ref x1, .ref x2, .int (nI n0), .int (nI u0)])), (x0, .inl (G.2 0, 400, .inl f0)), (x1, .inl (G.2 0, 14, .inl g0)), (x2, .inl (G.2 0, 32, .inl zz0)), (w1, .inr (2, [.ref x3, .ref x4, .ref x5, .int (nI n1), .int (nI u1)])), (x3, .inl (G.2 0, 400, .inl f1)), (x4, .inl (G.2 0, 14, .inl g1)), (x5, .inl (G.2 0, 32, .inl zz1)), (w2, .inr (2, [.ref x6, .ref x7, .ref x8, .int (nI n2), .int (nI u2)])), (x6, .inl (G.2 0, 400, .inl f2)), (x7, .inl (G.2 0, 14, .inl g2)), (x8, .inl (G.2 0, 32, .inl zz2)), (w3, .inr (2, [.ref x9, .ref x10, .ref x11, .int (nI n3), .int (nI u3)])), (x9, .inl (G.2 0, 400, .inl f3)), (x10, .inl (G.2 0, 14, .inl g3)), (x11, .inl (G.2 0, 32, .inl zz3)), (s5, .inl (G.2 0, 6, .inl m5)), (k0, .inr (6, [.ref b1, .ref b2, .ref b3, .ref b4, .int o1, .int o2, .int o3])), (b1, .inl (G.2 0, 7, .inl e1)), (b2, .inl (G.2 0, 6, .inl e2)), (b3, .inl (G.2 0, 7, .inl e3)), (b4, .inl (G.2 0, 42, .inl e4)), (my0, .inr (6, [.ref my1, .ref my2, .ref my3, .ref my4, .int ni1, .int ni2, .int ni3])), (my1, .inl (G.2 0, 7, .inl nf1)), (my2, .inl (G.2 0, 6, .inl nf2)), (my3, .inl (G.2 0, 7, .inl nf3)), (my4, .inl (G.2 0, 42, .inl nf4)), (c0, .inr (0, [.ref a1, .ref a2, .int fi2, .int sd2])), (a1, .inl (G.2 0, 6, .inl ww)), (a2, .inl (G.2 0, 7, .inl aa))] ∧ (zA (zz_In pq ar1 ∧ zz_In 61 ar2 ∧ zz_In 2 ar3) (∃ p k : Nat, p < pq ∧ k ≤ 60 ∧ ar1 = nI p ∧ ar2 = nI k ∧ zA_D f0 g0 n0 u0 f1 g1 n1 u1 f2 g2 n2 u2 f3 g3 n3 u3 e1 e2 e3 e4 o1 o2 o3 m3 m6 m4 m7 i3 pp pq i4 (¬ (1 : Int32) = 0) k (fun h1 E2 E3 E4 O2 O3 => (ar3 = nI 0 ∧ rv = E2 p) ∨ (ar3 = nI 1 ∧ ∃ C B x y, zk_F f0 g0 n0 u0 (zm_S 99 h1 E2 m3 m6 m4 m7 E4 O2) (fun x => ¬ zm_bit o1 (nI x) = 0) i3 pp pq (C, B, x, y) ∧ rv = C p))) rv (-1)) ∧ (∀ j, j < 6 → zz_ok 7 (ww j)) ∧ (∀ j, j < 7 → zz_ok 6 (aa j))) := by
  refine zz_enteri (by decide +kernel) (Nat.le_of_ble_eq_true rfl) ?_
  intro p e s m args below meth c A Q ls S hnm hret hw hl
  have hl : lv_has ls 4 [(0, .ref ob0), (1, .int ar1), (2, .int ar2), (3, .int ar3)] := hl
  have hx := S.1
  have hb := S.2.1
  refine lv_aload_n hx hb dX9_then_0 rfl (lv_at hl 0 rfl) ?_
  refine lv_iload_n hx hb dX9_then_1 rfl (lv_at hl 1 rfl) ?_
  refine zz_callV (qb := 0) (As := [.int ar1]) (rest := []) (wr := [(s3, .inl (G.2 0, 7, .inl m3)), (s4, .inl (G.2 0, 7, .inl m4)), (s6, .inl (G.2 0, 6, .inl m6)), (s7, .inl (G.2 0, 6, .inl m7)), (s9, .inl (G.2 0, 9, .inl fc)), (s8, .inl (G.2 4, 4, .inr (.inr (.inr (.inr (va_up (va_up (va_up (va_up (fun _ => none) 0 (some w0)) 1 (some w1)) 2 (some w2)) 3 (some w3))))))), (w0, .inr (2, [.ref x0, .ref x1, .ref x2, .int (nI n0), .int (nI u0)])), (x0, .inl (G.2 0, 400, .inl f0)), (x1, .inl (G.2 0, 14, .inl g0)), (x2, .inl (G.2 0, 32, .inl z0_)), (w1, .inr (2, [.ref x3, .ref x4, .ref x5, .int (nI n1), .int (nI u1)])), (x3, .inl (G.2 0, 400, .inl f1)), (x4, .inl (G.2 0, 14, .inl g1)), (x5, .inl (G.2 0, 32, .inl z1_)), (w2, .inr (2, [.ref x6, .ref x7, .ref x8, .int (nI n2), .int (nI u2)])), (x6, .inl (G.2 0, 400, .inl f2)), (x7, .inl (G.2 0, 14, .inl g2)), (x8, .inl (G.2 0, 32, .inl z2_)), (w3, .inr (2, [.ref x9, .ref x10, .ref x11, .int (nI n3), .int (nI u3)])), (x9, .inl (G.2 0, 400, .inl f3)), (x10, .inl (G.2 0, 14, .inl g3)), (x11, .inl (G.2 0, 32, .inl z3_)), (s5, .inl (G.2 0, 6, .inl m5)), (k0, .inr (6, [.ref b1, .ref b2, .ref b3, .ref b4, .int o1, .int o2, .int o3])), (b1, .inl (G.2 0, 7, .inl e1)), (b2, .inl (G.2 0, 6, .inl e2)), (b3, .inl (G.2 0, 7, .inl e3)), (b4, .inl (G.2 0, 42, .inl e4)), (my0, .inr (6, [.ref my1, .ref my2, .ref my3, .ref my4, .int mi1, .int mi2, .int mi3])), (my1, .inl (G.2 0, 7, .inl mf1)), (my2, .inl (G.2 0, 6, .inl mf2)), (my3, .inl (G.2 0, 7, .inl mf3)), (my4, .inl (G.2 0, 42, .inl mf4)), (c0, .inr (0, [.ref a1, .ref a2, .int fi, .int sd])), (a1, .inl (G.2 0, 6, .inl wf)), (a2, .inl (G.2 0, 7, .inl af))]) S hw hl.1 lX9_154 (c_g_isPart l G ob0 ut uf1 h1 uf3 sc dr0 k0 my0 c0 ga pa0 t0 sl0 hd0 s1 s2 s3 s4 s5 s6 s7 s8 s9 pp pq i3 i4 ar1 (by first | assumption | omega | exact Or.inr ⟨_, by omega, rfl⟩ | (unfold zz_sok; decide) | decide | exact (fun j hj => (hv7 j hj).1)) (by first | assumption | omega | exact Or.inr ⟨_, by omega, rfl⟩ | (unfold zz_sok; decide) | decide | exact (fun j hj => (hv7 j hj).1))) ⟨Nat.le_of_ble_eq_true rfl, Nat.le_of_ble_eq_true rfl⟩ ⟨Nat.le_of_ble_eq_true rfl, Nat.le_of_ble_eq_true rfl⟩ [0, 1] [2, 3, 4, 5, 6, 7, 8, 9, 10, 11, 12, 13, 14, 15, 16, 17, 18, 19, 20, 21, 22, 23, 24, 25, 26, 27, 28, 29, 30, 31, 32, 33, 34, 35, 36, 37] (by decide +kernel) rfl rfl (by decide +kernel) (by decide +kernel) rfl rfl rfl rfl (Nat.le_of_ble_eq_true rfl) dX9_then_2 ?_
  clear hw
  intro rr u H locs hp hw
  refine hp.elim fun rv_1 zg0 => zg0.elim fun zee1 zg1 => zg1.elim fun zee2 zg2 => zg2.elim fun hq2_0 hq2_1 => ?_
  clear hp zg0 zg1 zg2
  subst zee1
  subst zee2
  replace hw : zz_w G A s [(s3, .inl (G.2 0, 7, .inl m3)), (s4, .inl (G.2 0, 7, .inl m4)), (s6, .inl (G.2 0, 6, .inl m6)), (s7, .inl (G.2 0, 6, .inl m7)), (s9, .inl (G.2 0, 9, .inl fc)), (s8, .inl (G.2 4, 4, .inr (.inr (.inr (.inr (va_up (va_up (va_up (va_up (fun _ => none) 0 (some w0)) 1 (some w1)) 2 (some w2)) 3 (some w3))))))), (w0, .inr (2, [.ref x0, .ref x1, .ref x2, .int (nI n0), .int (nI u0)])), (x0, .inl (G.2 0, 400, .inl f0)), (x1, .inl (G.2 0, 14, .inl g0)), (x2, .inl (G.2 0, 32, .inl z0_)), (w1, .inr (2, [.ref x3, .ref x4, .ref x5, .int (nI n1), .int (nI u1)])), (x3, .inl (G.2 0, 400, .inl f1)), (x4, .inl (G.2 0, 14, .inl g1)), (x5, .inl (G.2 0, 32, .inl z1_)), (w2, .inr (2, [.ref x6, .ref x7, .ref x8, .int (nI n2), .int (nI u2)])), (x6, .inl (G.2 0, 400, .inl f2)), (x7, .inl (G.2 0, 14, .inl g2)), (x8, .inl (G.2 0, 32, .inl z2_)), (w3, .inr (2, [.ref x9, .ref x10, .ref x11, .int (nI n3), .int (nI u3)])), (x9, .inl (G.2 0, 400, .inl f3)), (x10, .inl (G.2 0, 14, .inl g3)), (x11, .inl (G.2 0, 32, .inl z3_)), (s5, .inl (G.2 0, 6, .inl m5)), (k0, .inr (6, [.ref b1, .ref b2, .ref b3, .ref b4, .int o1, .int o2, .int o3])), (b1, .inl (G.2 0, 7, .inl e1)), (b2, .inl (G.2 0, 6, .inl e2)), (b3, .inl (G.2 0, 7, .inl e3)), (b4, .inl (G.2 0, 42, .inl e4)), (my0, .inr (6, [.ref my1, .ref my2, .ref my3, .ref my4, .int mi1, .int mi2, .int mi3])), (my1, .inl (G.2 0, 7, .inl mf1)), (my2, .inl (G.2 0, 6, .inl mf2)), (my3, .inl (G.2 0, 7, .inl mf3)), (my4, .inl (G.2 0, 42, .inl mf4)), (c0, .inr (0, [.ref a1, .ref a2, .int fi, .int sd])), (a1, .inl (G.2 0, 6, .inl wf)), (a2, .inl (G.2 0, 7, .inl af)), (ob0, .inr (9, [.ref ut, .int uf1, .ref h1, .int uf3, .ref sc, .ref dr0, .ref k0, .ref my0, .ref c0, .ref ga, .ref pa0, .ref t0, .ref sl0, .ref hd0])), (sc, .inr (5, [.ref s1, .ref s2, .ref s3, .ref s4, .ref s5, .ref s6, .ref s7, .ref s8, .ref s9, .int (nI pp), .int (nI pq), .int i3, .int i4]))] H _ := hw
  refine W.eq (g2 := F0 m 5 ls [.int rv_1]) rfl ?_
  refine lv_if_eq (tgt := 25) hx hb dX9_then_5 (by decide) (fun c5_2 => ?_) (fun c5_2 => ?_)
  · skip
    refine lv_iconst (v := (-1)) hx hb dX9_then_25 (by decide) ?_
    exact hret _ _ _ _ _ _ ⟨(-1), fc, z0_, z1_, z2_, z3_, mf1, mf2, mf3, mf4, mi1, mi2, mi3, wf, af, fi, sd, rfl, rfl, (by first | exact zA0 (fun z => hq2_1 (by assumption) z.1) | exact zA0 (fun z => zA_lt (by assumption) (by decide) z.2.1) | exact zA0 (fun z => zA_g60 (by assumption) z.2.1) | exact zA0 (fun z => zA_60 (by assumption) z.2.1) | exact zA0 (fun z => zA_Tn hq19_1 (by assumption) z.2.2) | exact zA1 ⟨⟨_, by assumption, rfl⟩, ⟨_, by omega, rfl⟩, zA_Ti hq19_1 (by assumption)⟩ ⟨_, _, by assumption, by assumption, rfl, rfl, _, _, _, _, _, _, _, _, _, _, hq35_0, hq59_3, Or.inl ⟨zA_z (by assumption), rfl⟩⟩ | exact zA1 ⟨⟨_, by assumption, rfl⟩, ⟨_, by omega, rfl⟩, zA_Ti hq19_1 (by assumption)⟩ ⟨_, _, by assumption, by assumption, rfl, rfl, _, _, _, _, _, _, _, _, _, _, hq35_0, hq59_3, Or.inr ⟨zA_T1 hq19_1 (by assumption) (by assumption), _, _, _, _, hq89_2, Eq.symm (by assumption)⟩⟩), (by first | assumption | exact Or.inl rfl | exact Or.inr rfl | omega), (by first | assumption | exact Or.inl rfl | exact Or.inr rfl | omega)⟩ (hw.sub [36, 37, 0, 1, 2, 3, 4, 5, 6, 7, 8, 9, 10, 11, 12, 13, 14, 15, 16, 17, 18, 19, 20, 21, 22, 23, 24, 25, 26, 27, 28, 29, 30, 31, 32, 33, 34, 35] (by decide +kernel) rfl) rfl dX9_then_26
  · skip
    obtain ⟨vq3, hvq3, rfl⟩ := hq2_0.resolve_left c5_2
    refine lv_iload_n hx hb dX9_then_8 rfl (lv_at hl 2 rfl) ?_
    refine lv_if_lt (tgt := 25) hx hb dX9_then_9 (by decide) (fun c9_4 => ?_) (fun c9_4 => ?_)
    · skip
      refine lv_iconst (v := (-1)) hx hb dX9_then_25 (by decide) ?_
      exact hret _ _ _ _ _ _ ⟨(-1), fc, z0_, z1_, z2_, z3_, mf1, mf2, mf3, mf4, mi1, mi2, mi3, wf, af, fi, sd, rfl, rfl, (by first | exact zA0 (fun z => hq2_1 (by assumption) z.1) | exact zA0 (fun z => zA_lt (by assumption) (by decide) z.2.1) | exact zA0 (fun z => zA_g60 (by assumption) z.2.1) | exact zA0 (fun z => zA_60 (by assumption) z.2.1) | exact zA0 (fun z => zA_Tn hq19_1 (by assumption) z.2.2) | exact zA1 ⟨⟨_, by assumption, rfl⟩, ⟨_, by omega, rfl⟩, zA_Ti hq19_1 (by assumption)⟩ ⟨_, _, by assumption, by assumption, rfl, rfl, _, _, _, _, _, _, _, _, _, _, hq35_0, hq59_3, Or.inl ⟨zA_z (by assumption), rfl⟩⟩ | exact zA1 ⟨⟨_, by assumption, rfl⟩, ⟨_, by omega, rfl⟩, zA_Ti hq19_1 (by assumption)⟩ ⟨_, _, by assumption, by assumption, rfl, rfl, _, _, _, _, _, _, _, _, _, _, hq35_0, hq59_3, Or.inr ⟨zA_T1 hq19_1 (by assumption) (by assumption), _, _, _, _, hq89_2, Eq.symm (by assumption)⟩⟩), (by first | assumption | exact Or.inl rfl | exact Or.inr rfl | omega), (by first | assumption | exact Or.inl rfl | exact Or.inr rfl | omega)⟩ (hw.sub [36, 37, 0, 1, 2, 3, 4, 5, 6, 7, 8, 9, 10, 11, 12, 13, 14, 15, 16, 17, 18, 19, 20, 21, 22, 23, 24, 25, 26, 27, 28, 29, 30, 31, 32, 33, 34, 35] (by decide +kernel) rfl) rfl dX9_then_26
    · skip
      have hlo5 : ¬ ar2 < 0 := zz_lo0 c9_4
      refine lv_iload_n hx hb dX9_then_12 rfl (lv_at hl 2 rfl) ?_
      refine lv_bipush (v := 60) hx hb dX9_then_13 (by decide) ?_
      refine lv_icmp_gt (tgt := 25) hx hb dX9_then_15 (by decide) (fun c15_6 => ?_) (fun c15_6 => ?_)
      · skip
        refine lv_iconst (v := (-1)) hx hb dX9_then_25 (by decide) ?_
        exact hret _ _ _ _ _ _ ⟨(-1), fc, z0_, z1_, z2_, z3_, mf1, mf2, mf3, mf4, mi1, mi2, mi3, wf, af, fi, sd, rfl, rfl, (by first | exact zA0 (fun z => hq2_1 (by assumption) z.1) | exact zA0 (fun z => zA_lt (by assumption) (by decide) z.2.1) | exact zA0 (fun z => zA_g60 (by assumption) z.2.1) | exact zA0 (fun z => zA_60 (by assumption) z.2.1) | exact zA0 (fun z => zA_Tn hq19_1 (by assumption) z.2.2) | exact zA1 ⟨⟨_, by assumption, rfl⟩, ⟨_, by omega, rfl⟩, zA_Ti hq19_1 (by assumption)⟩ ⟨_, _, by assumption, by assumption, rfl, rfl, _, _, _, _, _, _, _, _, _, _, hq35_0, hq59_3, Or.inl ⟨zA_z (by assumption), rfl⟩⟩ | exact zA1 ⟨⟨_, by assumption, rfl⟩, ⟨_, by omega, rfl⟩, zA_Ti hq19_1 (by assumption)⟩ ⟨_, _, by assumption, by assumption, rfl, rfl, _, _, _, _, _, _, _, _, _, _, hq35_0, hq59_3, Or.inr ⟨zA_T1 hq19_1 (by assumption) (by assumption), _, _, _, _, hq89_2, Eq.symm (by assumption)⟩⟩), (by first | assumption | exact Or.inl rfl | exact Or.inr rfl | omega), (by first | assumption | exact Or.inl rfl | exact Or.inr rfl | omega)⟩ (hw.sub [36, 37, 0, 1, 2, 3, 4, 5, 6, 7, 8, 9, 10, 11, 12, 13, 14, 15, 16, 17, 18, 19, 20, 21, 22, 23, 24, 25, 26, 27, 28, 29, 30, 31, 32, 33, 34, 35] (by decide +kernel) rfl) rfl dX9_then_26
      · skip
        obtain ⟨vq7, hvq7, rfl⟩ : ∃ k : Nat, k ≤ 60 ∧ ar2 = nI k := zz_rng hlo5 (c15_6) (by decide)
        refine lv_iload_n hx hb dX9_then_18 rfl (lv_at hl 3 rfl) ?_
        refine zz_callS (As := [.int ar3]) (rest := []) (wr := [(s3, .inl (G.2 0, 7, .inl m3)), (s4, .inl (G.2 0, 7, .inl m4)), (s6, .inl (G.2 0, 6, .inl m6)), (s7, .inl (G.2 0, 6, .inl m7)), (s9, .inl (G.2 0, 9, .inl fc)), (s8, .inl (G.2 4, 4, .inr (.inr (.inr (.inr (va_up (va_up (va_up (va_up (fun _ => none) 0 (some w0)) 1 (some w1)) 2 (some w2)) 3 (some w3))))))), (w0, .inr (2, [.ref x0, .ref x1, .ref x2, .int (nI n0), .int (nI u0)])), (x0, .inl (G.2 0, 400, .inl f0)), (x1, .inl (G.2 0, 14, .inl g0)), (x2, .inl (G.2 0, 32, .inl z0_)), (w1, .inr (2, [.ref x3, .ref x4, .ref x5, .int (nI n1), .int (nI u1)])), (x3, .inl (G.2 0, 400, .inl f1)), (x4, .inl (G.2 0, 14, .inl g1)), (x5, .inl (G.2 0, 32, .inl z1_)), (w2, .inr (2, [.ref x6, .ref x7, .ref x8, .int (nI n2), .int (nI u2)])), (x6, .inl (G.2 0, 400, .inl f2)), (x7, .inl (G.2 0, 14, .inl g2)), (x8, .inl (G.2 0, 32, .inl z2_)), (w3, .inr (2, [.ref x9, .ref x10, .ref x11, .int (nI n3), .int (nI u3)])), (x9, .inl (G.2 0, 400, .inl f3)), (x10, .inl (G.2 0, 14, .inl g3)), (x11, .inl (G.2 0, 32, .inl z3_)), (s5, .inl (G.2 0, 6, .inl m5)), (k0, .inr (6, [.ref b1, .ref b2, .ref b3, .ref b4, .int o1, .int o2, .int o3])), (b1, .inl (G.2 0, 7, .inl e1)), (b2, .inl (G.2 0, 6, .inl e2)), (b3, .inl (G.2 0, 7, .inl e3)), (b4, .inl (G.2 0, 42, .inl e4)), (my0, .inr (6, [.ref my1, .ref my2, .ref my3, .ref my4, .int mi1, .int mi2, .int mi3])), (my1, .inl (G.2 0, 7, .inl mf1)), (my2, .inl (G.2 0, 6, .inl mf2)), (my3, .inl (G.2 0, 7, .inl mf3)), (my4, .inl (G.2 0, 42, .inl mf4)), (c0, .inr (0, [.ref a1, .ref a2, .int fi, .int sd])), (a1, .inl (G.2 0, 6, .inl wf)), (a2, .inl (G.2 0, 7, .inl af)), (ob0, .inr (9, [.ref ut, .int uf1, .ref h1, .int uf3, .ref sc, .ref dr0, .ref k0, .ref my0, .ref c0, .ref ga, .ref pa0, .ref t0, .ref sl0, .ref hd0])), (sc, .inr (5, [.ref s1, .ref s2, .ref s3, .ref s4, .ref s5, .ref s6, .ref s7, .ref s8, .ref s9, .int (nI pp), .int (nI pq), .int i3, .int i4]))]) S hw hl.1 lX9_210 (c_g_isOneOfTwo l G ar3) ⟨Nat.le_of_ble_eq_true rfl, Nat.le_of_ble_eq_true rfl⟩ ⟨Nat.le_of_ble_eq_true rfl, Nat.le_of_ble_eq_true rfl⟩ [] [0, 1, 2, 3, 4, 5, 6, 7, 8, 9, 10, 11, 12, 13, 14, 15, 16, 17, 18, 19, 20, 21, 22, 23, 24, 25, 26, 27, 28, 29, 30, 31, 32, 33, 34, 35, 36, 37] (by decide +kernel) rfl rfl (by decide +kernel) (by decide +kernel) rfl rfl (Nat.le_of_ble_eq_true rfl) dX9_then_19 ?_
        clear hw
        intro rr u H locs hp hw
        refine hp.elim fun rv_8 zg0 => zg0.elim fun zee1 zg1 => zg1.elim fun zee2 zg2 => zg2.elim fun hq19_0 hq19_1 => ?_
        clear hp zg0 zg1 zg2
        subst zee1
        subst zee2
        replace hw : zz_w G A s [(s3, .inl (G.2 0, 7, .inl m3)), (s4, .inl (G.2 0, 7, .inl m4)), (s6, .inl (G.2 0, 6, .inl m6)), (s7, .inl (G.2 0, 6, .inl m7)), (s9, .inl (G.2 0, 9, .inl fc)), (s8, .inl (G.2 4, 4, .inr (.inr (.inr (.inr (va_up (va_up (va_up (va_up (fun _ => none) 0 (some w0)) 1 (some w1)) 2 (some w2)) 3 (some w3))))))), (w0, .inr (2, [.ref x0, .ref x1, .ref x2, .int (nI n0), .int (nI u0)])), (x0, .inl (G.2 0, 400, .inl f0)), (x1, .inl (G.2 0, 14, .inl g0)), (x2, .inl (G.2 0, 32, .inl z0_)), (w1, .inr (2, [.ref x3, .ref x4, .ref x5, .int (nI n1), .int (nI u1)])), (x3, .inl (G.2 0, 400, .inl f1)), (x4, .inl (G.2 0, 14, .inl g1)), (x5, .inl (G.2 0, 32, .inl z1_)), (w2, .inr (2, [.ref x6, .ref x7, .ref x8, .int (nI n2), .int (nI u2)])), (x6, .inl (G.2 0, 400, .inl f2)), (x7, .inl (G.2 0, 14, .inl g2)), (x8, .inl (G.2 0, 32, .inl z2_)), (w3, .inr (2, [.ref x9, .ref x10, .ref x11, .int (nI n3), .int (nI u3)])), (x9, .inl (G.2 0, 400, .inl f3)), (x10, .inl (G.2 0, 14, .inl g3)), (x11, .inl (G.2 0, 32, .inl z3_)), (s5, .inl (G.2 0, 6, .inl m5)), (k0, .inr (6, [.ref b1, .ref b2, .ref b3, .ref b4, .int o1, .int o2, .int o3])), (b1, .inl (G.2 0, 7, .inl e1)), (b2, .inl (G.2 0, 6, .inl e2)), (b3, .inl (G.2 0, 7, .inl e3)), (b4, .inl (G.2 0, 42, .inl e4)), (my0, .inr (6, [.ref my1, .ref my2, .ref my3, .ref my4, .int mi1, .int mi2, .int mi3])), (my1, .inl (G.2 0, 7, .inl mf1)), (my2, .inl (G.2 0, 6, .inl mf2)), (my3, .inl (G.2 0, 7, .inl mf3)), (my4, .inl (G.2 0, 42, .inl mf4)), (c0, .inr (0, [.ref a1, .ref a2, .int fi, .int sd])), (a1, .inl (G.2 0, 6, .inl wf)), (a2, .inl (G.2 0, 7, .inl af)), (ob0, .inr (9, [.ref ut, .int uf1, .ref h1, .int uf3, .ref sc, .ref dr0, .ref k0, .ref my0, .ref c0, .ref ga, .ref pa0, .ref t0, .ref sl0, .ref hd0])), (sc, .inr (5, [.ref s1, .ref s2, .ref s3, .ref s4, .ref s5, .ref s6, .ref s7, .ref s8, .ref s9, .int (nI pp), .int (nI pq), .int i3, .int i4]))] H _ := hw
        refine W.eq (g2 := F0 m 22 ls [.int rv_8]) rfl ?_
        refine lv_if_ne (tgt := 27) hx hb dX9_then_22 (by decide) (fun c22_9 => ?_) (fun c22_9 => ?_)
        · skip
          refine lv_aload_n hx hb dX9_then_27 rfl (lv_at hl 0 rfl) ?_
          refine zz_get (v := .ref my0) S hw fgX9_44 36 rfl rfl dX9_then_28 ?_
          refine lv_aload_n hx hb dX9_then_31 rfl (lv_at hl 0 rfl) ?_
          refine W.eq (g2 := F0 m 32 ls [.ref ob0, .ref my0]) rfl ?_
          refine zz_get (v := .ref k0) S hw fgX9_40 36 rfl rfl dX9_then_32 ?_
          refine zz_callV (qb := 28) (As := [.ref k0]) (rest := []) (wr := [(s3, .inl (G.2 0, 7, .inl m3)), (s4, .inl (G.2 0, 7, .inl m4)), (s6, .inl (G.2 0, 6, .inl m6)), (s7, .inl (G.2 0, 6, .inl m7)), (s9, .inl (G.2 0, 9, .inl fc)), (s8, .inl (G.2 4, 4, .inr (.inr (.inr (.inr (va_up (va_up (va_up (va_up (fun _ => none) 0 (some w0)) 1 (some w1)) 2 (some w2)) 3 (some w3))))))), (w0, .inr (2, [.ref x0, .ref x1, .ref x2, .int (nI n0), .int (nI u0)])), (x0, .inl (G.2 0, 400, .inl f0)), (x1, .inl (G.2 0, 14, .inl g0)), (x2, .inl (G.2 0, 32, .inl z0_)), (w1, .inr (2, [.ref x3, .ref x4, .ref x5, .int (nI n1), .int (nI u1)])), (x3, .inl (G.2 0, 400, .inl f1)), (x4, .inl (G.2 0, 14, .inl g1)), (x5, .inl (G.2 0, 32, .inl z1_)), (w2, .inr (2, [.ref x6, .ref x7, .ref x8, .int (nI n2), .int (nI u2)])), (x6, .inl (G.2 0, 400, .inl f2)), (x7, .inl (G.2 0, 14, .inl g2)), (x8, .inl (G.2 0, 32, .inl z2_)), (w3, .inr (2, [.ref x9, .ref x10, .ref x11, .int (nI n3), .int (nI u3)])), (x9, .inl (G.2 0, 400, .inl f3)), (x10, .inl (G.2 0, 14, .inl g3)), (x11, .inl (G.2 0, 32, .inl z3_)), (s5, .inl (G.2 0, 6, .inl m5)), (c0, .inr (0, [.ref a1, .ref a2, .int fi, .int sd])), (a1, .inl (G.2 0, 6, .inl wf)), (a2, .inl (G.2 0, 7, .inl af)), (ob0, .inr (9, [.ref ut, .int uf1, .ref h1, .int uf3, .ref sc, .ref dr0, .ref k0, .ref my0, .ref c0, .ref ga, .ref pa0, .ref t0, .ref sl0, .ref hd0])), (sc, .inr (5, [.ref s1, .ref s2, .ref s3, .ref s4, .ref s5, .ref s6, .ref s7, .ref s8, .ref s9, .int (nI pp), .int (nI pq), .int i3, .int i4]))]) S hw hl.1 lX9_244 (c_gcopyFrom l G my0 my1 my2 my3 my4 mf1 mf2 mf3 mf4 mi1 mi2 mi3 k0 b1 b2 b3 b4 e1 e2 e3 e4 o1 o2 o3) ⟨Nat.le_of_ble_eq_true rfl, Nat.le_of_ble_eq_true rfl⟩ ⟨Nat.le_of_ble_eq_true rfl, Nat.le_of_ble_eq_true rfl⟩ [28, 29, 30, 31, 32, 23, 24, 25, 26, 27] [0, 1, 2, 3, 4, 5, 6, 7, 8, 9, 10, 11, 12, 13, 14, 15, 16, 17, 18, 19, 20, 21, 22, 33, 34, 35, 36, 37] (by decide +kernel) rfl rfl (by decide +kernel) (by decide +kernel) rfl rfl rfl rfl (Nat.le_of_ble_eq_true rfl) dX9_then_35 ?_
          clear hw
          intro rr u H locs hp hw
          refine hp.elim fun hh1_10 zg0 => zg0.elim fun hh2_11 zg1 => zg1.elim fun hh3_12 zg2 => zg2.elim fun hh4_13 zg3 => zg3.elim fun zee1 zg4 => zg4.elim fun zee2 hq35_0 => ?_
          clear hp zg0 zg1 zg2 zg3 zg4
          subst zee1
          subst zee2
          replace hw : zz_w G A s [(s3, .inl (G.2 0, 7, .inl m3)), (s4, .inl (G.2 0, 7, .inl m4)), (s6, .inl (G.2 0, 6, .inl m6)), (s7, .inl (G.2 0, 6, .inl m7)), (s9, .inl (G.2 0, 9, .inl fc)), (s8, .inl (G.2 4, 4, .inr (.inr (.inr (.inr (va_up (va_up (va_up (va_up (fun _ => none) 0 (some w0)) 1 (some w1)) 2 (some w2)) 3 (some w3))))))), (w0, .inr (2, [.ref x0, .ref x1, .ref x2, .int (nI n0), .int (nI u0)])), (x0, .inl (G.2 0, 400, .inl f0)), (x1, .inl (G.2 0, 14, .inl g0)), (x2, .inl (G.2 0, 32, .inl z0_)), (w1, .inr (2, [.ref x3, .ref x4, .ref x5, .int (nI n1), .int (nI u1)])), (x3, .inl (G.2 0, 400, .inl f1)), (x4, .inl (G.2 0, 14, .inl g1)), (x5, .inl (G.2 0, 32, .inl z1_)), (w2, .inr (2, [.ref x6, .ref x7, .ref x8, .int (nI n2), .int (nI u2)])), (x6, .inl (G.2 0, 400, .inl f2)), (x7, .inl (G.2 0, 14, .inl g2)), (x8, .inl (G.2 0, 32, .inl z2_)), (w3, .inr (2, [.ref x9, .ref x10, .ref x11, .int (nI n3), .int (nI u3)])), (x9, .inl (G.2 0, 400, .inl f3)), (x10, .inl (G.2 0, 14, .inl g3)), (x11, .inl (G.2 0, 32, .inl z3_)), (s5, .inl (G.2 0, 6, .inl m5)), (c0, .inr (0, [.ref a1, .ref a2, .int fi, .int sd])), (a1, .inl (G.2 0, 6, .inl wf)), (a2, .inl (G.2 0, 7, .inl af)), (ob0, .inr (9, [.ref ut, .int uf1, .ref h1, .int uf3, .ref sc, .ref dr0, .ref k0, .ref my0, .ref c0, .ref ga, .ref pa0, .ref t0, .ref sl0, .ref hd0])), (sc, .inr (5, [.ref s1, .ref s2, .ref s3, .ref s4, .ref s5, .ref s6, .ref s7, .ref s8, .ref s9, .int (nI pp), .int (nI pq), .int i3, .int i4])), (my0, .inr (6, [.ref my1, .ref my2, .ref my3, .ref my4, .int o1, .int o2, .int o3])), (my1, .inl (G.2 0, 7, .inl hh1_10)), (my2, .inl (G.2 0, 6, .inl hh2_11)), (my3, .inl (G.2 0, 7, .inl hh3_12)), (my4, .inl (G.2 0, 42, .inl hh4_13)), (k0, .inr (6, [.ref b1, .ref b2, .ref b3, .ref b4, .int o1, .int o2, .int o3])), (b1, .inl (G.2 0, 7, .inl e1)), (b2, .inl (G.2 0, 6, .inl e2)), (b3, .inl (G.2 0, 7, .inl e3)), (b4, .inl (G.2 0, 42, .inl e4))] H _ := hw
          refine W.eq (g2 := F0 m 38 ls []) rfl ?_
          refine lv_aload_n hx hb dX9_then_38 rfl (lv_at hl 0 rfl) ?_
          refine zz_get (v := .ref c0) S hw fgX9_50 26 rfl rfl dX9_then_39 ?_
          refine lv_aload_n hx hb dX9_then_42 rfl (lv_at hl 0 rfl) ?_
          refine zz_get (v := .ref sc) S hw fgX9_30 26 rfl rfl dX9_then_43 ?_
          refine lv_aload_n hx hb dX9_then_46 rfl (lv_at hl 0 rfl) ?_
          refine zz_get (v := .ref my0) S hw fgX9_44 26 rfl rfl dX9_then_47 ?_
          refine lv_iload_n hx hb dX9_then_50 rfl (lv_at hl 2 rfl) ?_
          refine lv_aload_n hx hb dX9_then_51 rfl (lv_at hl 0 rfl) ?_
          refine zz_get (v := .ref sc) S hw fgX9_30 26 rfl rfl dX9_then_52 ?_
          refine zz_get (v := .int i4) S hw fgX9_190 27 rfl rfl dX9_then_55 ?_
          refine lv_iconst (v := 1) hx hb dX9_then_58 (by decide) ?_
          refine zz_callV (qb := 23) (As := [.ref sc, .ref my0, .int (nI vq7), .int i4, .int 1]) (rest := []) (wr := [(s5, .inl (G.2 0, 6, .inl m5)), (ob0, .inr (9, [.ref ut, .int uf1, .ref h1, .int uf3, .ref sc, .ref dr0, .ref k0, .ref my0, .ref c0, .ref ga, .ref pa0, .ref t0, .ref sl0, .ref hd0])), (k0, .inr (6, [.ref b1, .ref b2, .ref b3, .ref b4, .int o1, .int o2, .int o3])), (b1, .inl (G.2 0, 7, .inl e1)), (b2, .inl (G.2 0, 6, .inl e2)), (b3, .inl (G.2 0, 7, .inl e3)), (b4, .inl (G.2 0, 42, .inl e4))]) S hw hl.1 lX9_193 (c_gpassDays l G c0 a1 a2 wf af fi sd sc s1 s2 s3 s4 s5 s6 s7 s8 s9 w0 w1 w2 w3 x0 x1 x2 x3 x4 x5 x6 x7 x8 x9 x10 x11 pp pq i3 i4 m3 m4 m6 m7 fc f0 g0 n0 u0 z0_ f1 g1 n1 u1 z1_ f2 g2 n2 u2 z2_ f3 g3 n3 u3 z3_ my0 my1 my2 my3 my4 hh1_10 hh2_11 hh3_12 hh4_13 o1 o2 o3 vq7 i4 1 (by first | assumption | omega | exact Or.inr ⟨_, by omega, rfl⟩ | (unfold zz_sok; decide) | decide | exact (fun j hj => (hv7 j hj).1)) (by first | assumption | omega | exact Or.inr ⟨_, by omega, rfl⟩ | (unfold zz_sok; decide) | decide | exact (fun j hj => (hv7 j hj).1)) (by first | assumption | omega | exact Or.inr ⟨_, by omega, rfl⟩ | (unfold zz_sok; decide) | decide | exact (fun j hj => (hv7 j hj).1)) (by first | assumption | omega | exact Or.inr ⟨_, by omega, rfl⟩ | (unfold zz_sok; decide) | decide | exact (fun j hj => (hv7 j hj).1)) (by first | assumption | omega | exact Or.inr ⟨_, by omega, rfl⟩ | (unfold zz_sok; decide) | decide | exact (fun j hj => (hv7 j hj).1)) (by first | assumption | omega | exact Or.inr ⟨_, by omega, rfl⟩ | (unfold zz_sok; decide) | decide | exact (fun j hj => (hv7 j hj).1)) (by first | assumption | omega | exact Or.inr ⟨_, by omega, rfl⟩ | (unfold zz_sok; decide) | decide | exact (fun j hj => (hv7 j hj).1)) (by first | assumption | omega | exact Or.inr ⟨_, by omega, rfl⟩ | (unfold zz_sok; decide) | decide | exact (fun j hj => (hv7 j hj).1)) (by first | assumption | omega | exact Or.inr ⟨_, by omega, rfl⟩ | (unfold zz_sok; decide) | decide | exact (fun j hj => (hv7 j hj).1))) ⟨Nat.le_of_ble_eq_true rfl, Nat.le_of_ble_eq_true rfl⟩ ⟨Nat.le_of_ble_eq_true rfl, Nat.le_of_ble_eq_true rfl⟩ [23, 24, 25, 27, 0, 1, 2, 3, 4, 5, 6, 7, 8, 9, 10, 11, 12, 13, 14, 15, 16, 17, 18, 19, 20, 21, 28, 29, 30, 31, 32] [22, 26, 33, 34, 35, 36, 37] (by decide +kernel) rfl rfl (by decide +kernel) (by decide +kernel) rfl rfl rfl rfl (Nat.le_of_ble_eq_true rfl) dX9_then_59 ?_
          clear hw
          intro rr u H locs hp hw
          refine hp.elim fun rv_14 zg0 => zg0.elim fun ww_15 zg1 => zg1.elim fun aa_16 zg2 => zg2.elim fun fi2_17 zg3 => zg3.elim fun sd2_18 zg4 => zg4.elim fun fcc_19 zg5 => zg5.elim fun zz0_20 zg6 => zg6.elim fun zz1_21 zg7 => zg7.elim fun zz2_22 zg8 => zg8.elim fun zz3_23 zg9 => zg9.elim fun ee2_24 zg10 => zg10.elim fun ee3_25 zg11 => zg11.elim fun ee4_26 zg12 => zg12.elim fun oo2_27 zg13 => zg13.elim fun oo3_28 zg14 => zg14.elim fun zee1 zg15 => zg15.elim fun zee2 zg16 => zg16.elim fun hq59_0 zg17 => zg17.elim fun hq59_1 zg18 => zg18.elim fun hq59_2 hq59_3 => ?_
          clear hp zg0 zg1 zg2 zg3 zg4 zg5 zg6 zg7 zg8 zg9 zg10 zg11 zg12 zg13 zg14 zg15 zg16 zg17 zg18
          subst zee1
          subst zee2
          replace hw : zz_w G A s [(s5, .inl (G.2 0, 6, .inl m5)), (ob0, .inr (9, [.ref ut, .int uf1, .ref h1, .int uf3, .ref sc, .ref dr0, .ref k0, .ref my0, .ref c0, .ref ga, .ref pa0, .ref t0, .ref sl0, .ref hd0])), (k0, .inr (6, [.ref b1, .ref b2, .ref b3, .ref b4, .int o1, .int o2, .int o3])), (b1, .inl (G.2 0, 7, .inl e1)), (b2, .inl (G.2 0, 6, .inl e2)), (b3, .inl (G.2 0, 7, .inl e3)), (b4, .inl (G.2 0, 42, .inl e4)), (c0, .inr (0, [.ref a1, .ref a2, .int fi2_17, .int sd2_18])), (a1, .inl (G.2 0, 6, .inl ww_15)), (a2, .inl (G.2 0, 7, .inl aa_16)), (sc, .inr (5, [.ref s1, .ref s2, .ref s3, .ref s4, .ref s5, .ref s6, .ref s7, .ref s8, .ref s9, .int (nI pp), .int (nI pq), .int i3, .int i4])), (s3, .inl (G.2 0, 7, .inl m3)), (s4, .inl (G.2 0, 7, .inl m4)), (s6, .inl (G.2 0, 6, .inl m6)), (s7, .inl (G.2 0, 6, .inl m7)), (s9, .inl (G.2 0, 9, .inl fcc_19)), (s8, .inl (G.2 4, 4, .inr (.inr (.inr (.inr (va_up (va_up (va_up (va_up (fun _ => none) 0 (some w0)) 1 (some w1)) 2 (some w2)) 3 (some w3))))))), (w0, .inr (2, [.ref x0, .ref x1, .ref x2, .int (nI n0), .int (nI u0)])), (x0, .inl (G.2 0, 400, .inl f0)), (x1, .inl (G.2 0, 14, .inl g0)), (x2, .inl (G.2 0, 32, .inl zz0_20)), (w1, .inr (2, [.ref x3, .ref x4, .ref x5, .int (nI n1), .int (nI u1)])), (x3, .inl (G.2 0, 400, .inl f1)), (x4, .inl (G.2 0, 14, .inl g1)), (x5, .inl (G.2 0, 32, .inl zz1_21)), (w2, .inr (2, [.ref x6, .ref x7, .ref x8, .int (nI n2), .int (nI u2)])), (x6, .inl (G.2 0, 400, .inl f2)), (x7, .inl (G.2 0, 14, .inl g2)), (x8, .inl (G.2 0, 32, .inl zz2_22)), (w3, .inr (2, [.ref x9, .ref x10, .ref x11, .int (nI n3), .int (nI u3)])), (x9, .inl (G.2 0, 400, .inl f3)), (x10, .inl (G.2 0, 14, .inl g3)), (x11, .inl (G.2 0, 32, .inl zz3_23)), (my0, .inr (6, [.ref my1, .ref my2, .ref my3, .ref my4, .int o1, .int oo2_27, .int oo3_28])), (my1, .inl (G.2 0, 7, .inl hh1_10)), (my2, .inl (G.2 0, 6, .inl ee2_24)), (my3, .inl (G.2 0, 7, .inl ee3_25)), (my4, .inl (G.2 0, 42, .inl ee4_26))] H _ := hw
          refine W.eq (g2 := F0 m 62 ls [.int rv_14]) rfl ?_
          refine W.eq (g2 := F0 m 62 ls [.int rv_14]) rfl ?_
          refine lv_pop hx hb dX9_then_62 rfl ?_
          refine lv_iload_n hx hb dX9_then_63 rfl (lv_at hl 3 rfl) ?_
          refine lv_if_ne (tgt := 77) hx hb dX9_then_64 (by decide) (fun c64_29 => ?_) (fun c64_29 => ?_)
          · skip
            refine lv_aload_n hx hb dX9_then_77 rfl (lv_at hl 0 rfl) ?_
            refine zz_get (v := .ref c0) S hw fgX9_50 1 rfl rfl dX9_then_78 ?_
            refine lv_aload_n hx hb dX9_then_81 rfl (lv_at hl 0 rfl) ?_
            refine zz_get (v := .ref sc) S hw fgX9_30 1 rfl rfl dX9_then_82 ?_
            refine lv_aload_n hx hb dX9_then_85 rfl (lv_at hl 0 rfl) ?_
            refine zz_get (v := .ref my0) S hw fgX9_44 1 rfl rfl dX9_then_86 ?_
            refine zz_callV (qb := 7) (As := [.ref sc, .ref my0]) (rest := []) (wr := [(s5, .inl (G.2 0, 6, .inl m5)), (ob0, .inr (9, [.ref ut, .int uf1, .ref h1, .int uf3, .ref sc, .ref dr0, .ref k0, .ref my0, .ref c0, .ref ga, .ref pa0, .ref t0, .ref sl0, .ref hd0])), (k0, .inr (6, [.ref b1, .ref b2, .ref b3, .ref b4, .int o1, .int o2, .int o3])), (b1, .inl (G.2 0, 7, .inl e1)), (b2, .inl (G.2 0, 6, .inl e2)), (b3, .inl (G.2 0, 7, .inl e3)), (b4, .inl (G.2 0, 42, .inl e4)), (my3, .inl (G.2 0, 7, .inl ee3_25))]) S hw hl.1 lX9_141 (c_gfill l G c0 a1 a2 ww_15 aa_16 fi2_17 sd2_18 sc s1 s2 s3 s4 s5 s6 s7 s8 s9 w0 w1 w2 w3 x0 x1 x2 x3 x4 x5 x6 x7 x8 x9 x10 x11 pp pq i3 i4 m3 m4 m6 m7 fcc_19 f0 g0 n0 u0 zz0_20 f1 g1 n1 u1 zz1_21 f2 g2 n2 u2 zz2_22 f3 g3 n3 u3 zz3_23 my0 my1 my2 my3 my4 hh1_10 ee2_24 ee4_26 o1 oo2_27 oo3_28 (by first | assumption | omega | exact Or.inr ⟨_, by omega, rfl⟩ | (unfold zz_sok; decide) | decide | exact (fun j hj => (hv7 j hj).1)) (by first | assumption | omega | exact Or.inr ⟨_, by omega, rfl⟩ | (unfold zz_sok; decide) | decide | exact (fun j hj => (hv7 j hj).1)) (by first | assumption | omega | exact Or.inr ⟨_, by omega, rfl⟩ | (unfold zz_sok; decide) | decide | exact (fun j hj => (hv7 j hj).1)) (by first | assumption | omega | exact Or.inr ⟨_, by omega, rfl⟩ | (unfold zz_sok; decide) | decide | exact (fun j hj => (hv7 j hj).1)) (by first | assumption | omega | exact Or.inr ⟨_, by omega, rfl⟩ | (unfold zz_sok; decide) | decide | exact (fun j hj => (hv7 j hj).1)) (by first | assumption | omega | exact Or.inr ⟨_, by omega, rfl⟩ | (unfold zz_sok; decide) | decide | exact (fun j hj => (hv7 j hj).1)) (by first | assumption | omega | exact Or.inr ⟨_, by omega, rfl⟩ | (unfold zz_sok; decide) | decide | exact (fun j hj => (hv7 j hj).1)) (by first | assumption | omega | exact Or.inr ⟨_, by omega, rfl⟩ | (unfold zz_sok; decide) | decide | exact (fun j hj => (hv7 j hj).1))) ⟨Nat.le_of_ble_eq_true rfl, Nat.le_of_ble_eq_true rfl⟩ ⟨Nat.le_of_ble_eq_true rfl, Nat.le_of_ble_eq_true rfl⟩ [7, 8, 9, 10, 11, 12, 13, 14, 15, 16, 17, 18, 19, 20, 21, 22, 23, 24, 25, 26, 27, 28, 29, 30, 31, 32, 33, 34, 35, 37] [0, 1, 2, 3, 4, 5, 6, 36] (by decide +kernel) rfl rfl (by decide +kernel) (by decide +kernel) rfl rfl rfl rfl (Nat.le_of_ble_eq_true rfl) dX9_then_89 ?_
            clear hw
            intro rr u H locs hp hw
            refine hp.elim fun ww_30 zg0 => zg0.elim fun aa_31 zg1 => zg1.elim fun fi2_32 zg2 => zg2.elim fun sd2_33 zg3 => zg3.elim fun fcc_34 zg4 => zg4.elim fun zz0_35 zg5 => zg5.elim fun zz1_36 zg6 => zg6.elim fun zz2_37 zg7 => zg7.elim fun zz3_38 zg8 => zg8.elim fun zee1 zg9 => zg9.elim fun zee2 zg10 => zg10.elim fun hq89_0 zg11 => zg11.elim fun hq89_1 hq89_2 => ?_
            clear hp zg0 zg1 zg2 zg3 zg4 zg5 zg6 zg7 zg8 zg9 zg10 zg11
            subst zee1
            subst zee2
            replace hw : zz_w G A s [(s5, .inl (G.2 0, 6, .inl m5)), (ob0, .inr (9, [.ref ut, .int uf1, .ref h1, .int uf3, .ref sc, .ref dr0, .ref k0, .ref my0, .ref c0, .ref ga, .ref pa0, .ref t0, .ref sl0, .ref hd0])), (k0, .inr (6, [.ref b1, .ref b2, .ref b3, .ref b4, .int o1, .int o2, .int o3])), (b1, .inl (G.2 0, 7, .inl e1)), (b2, .inl (G.2 0, 6, .inl e2)), (b3, .inl (G.2 0, 7, .inl e3)), (b4, .inl (G.2 0, 42, .inl e4)), (my3, .inl (G.2 0, 7, .inl ee3_25)), (c0, .inr (0, [.ref a1, .ref a2, .int fi2_32, .int sd2_33])), (a1, .inl (G.2 0, 6, .inl ww_30)), (a2, .inl (G.2 0, 7, .inl aa_31)), (sc, .inr (5, [.ref s1, .ref s2, .ref s3, .ref s4, .ref s5, .ref s6, .ref s7, .ref s8, .ref s9, .int (nI pp), .int (nI pq), .int i3, .int i4])), (s3, .inl (G.2 0, 7, .inl m3)), (s4, .inl (G.2 0, 7, .inl m4)), (s6, .inl (G.2 0, 6, .inl m6)), (s7, .inl (G.2 0, 6, .inl m7)), (s9, .inl (G.2 0, 9, .inl fcc_34)), (s8, .inl (G.2 4, 4, .inr (.inr (.inr (.inr (va_up (va_up (va_up (va_up (fun _ => none) 0 (some w0)) 1 (some w1)) 2 (some w2)) 3 (some w3))))))), (w0, .inr (2, [.ref x0, .ref x1, .ref x2, .int (nI n0), .int (nI u0)])), (x0, .inl (G.2 0, 400, .inl f0)), (x1, .inl (G.2 0, 14, .inl g0)), (x2, .inl (G.2 0, 32, .inl zz0_35)), (w1, .inr (2, [.ref x3, .ref x4, .ref x5, .int (nI n1), .int (nI u1)])), (x3, .inl (G.2 0, 400, .inl f1)), (x4, .inl (G.2 0, 14, .inl g1)), (x5, .inl (G.2 0, 32, .inl zz1_36)), (w2, .inr (2, [.ref x6, .ref x7, .ref x8, .int (nI n2), .int (nI u2)])), (x6, .inl (G.2 0, 400, .inl f2)), (x7, .inl (G.2 0, 14, .inl g2)), (x8, .inl (G.2 0, 32, .inl zz2_37)), (w3, .inr (2, [.ref x9, .ref x10, .ref x11, .int (nI n3), .int (nI u3)])), (x9, .inl (G.2 0, 400, .inl f3)), (x10, .inl (G.2 0, 14, .inl g3)), (x11, .inl (G.2 0, 32, .inl zz3_38)), (my0, .inr (6, [.ref my1, .ref my2, .ref my3, .ref my4, .int o1, .int oo2_27, .int oo3_28])), (my1, .inl (G.2 0, 7, .inl hh1_10)), (my2, .inl (G.2 0, 6, .inl ee2_24)), (my4, .inl (G.2 0, 42, .inl ee4_26))] H _ := hw
            refine W.eq (g2 := F0 m 92 ls []) rfl ?_
            refine lv_aload_n hx hb dX9_then_92 rfl (lv_at hl 0 rfl) ?_
            refine zz_get (v := .ref c0) S hw fgX9_50 1 rfl rfl dX9_then_93 ?_
            refine zz_get (v := .ref a1) S hw fgX9_166 8 rfl rfl dX9_then_96 ?_
            refine lv_iload_n hx hb dX9_then_99 rfl (lv_at hl 1 rfl) ?_
            obtain ⟨vz39, hvz39, evz39⟩ : ∃ z : Int32, zz_ok 7 z ∧ ww_30 vq3 = z := ⟨_, (show ∀ j, j < 6 → zz_ok 7 (ww_30 j) from by assumption) vq3 (by omega), rfl⟩
            refine zz_iald (v := vz39) S hw 9 rfl (vp_in_nI (n := vq3) (by omega) (by decide)) (by rw [show ((nI vq3) : Int32).toNatClampNeg = vq3 from nI_clamp (n := vq3) (by omega)]; exact evz39) dX9_then_100 ?_
            refine W.eq (g2 := F0 m 101 ls [.int vz39]) rfl ?_
            exact hret _ _ _ _ _ _ ⟨vz39, fcc_34, zz0_35, zz1_36, zz2_37, zz3_38, hh1_10, ee2_24, ee3_25, ee4_26, o1, oo2_27, oo3_28, ww_30, aa_31, fi2_32, sd2_33, rfl, rfl, (by first | exact zA0 (fun z => hq2_1 (by assumption) z.1) | exact zA0 (fun z => zA_lt (by assumption) (by decide) z.2.1) | exact zA0 (fun z => zA_g60 (by assumption) z.2.1) | exact zA0 (fun z => zA_60 (by assumption) z.2.1) | exact zA0 (fun z => zA_Tn hq19_1 (by assumption) z.2.2) | exact zA1 ⟨⟨_, by assumption, rfl⟩, ⟨_, by omega, rfl⟩, zA_Ti hq19_1 (by assumption)⟩ ⟨_, _, by assumption, by assumption, rfl, rfl, _, _, _, _, _, _, _, _, _, _, hq35_0, hq59_3, Or.inl ⟨zA_z (by assumption), rfl⟩⟩ | exact zA1 ⟨⟨_, by assumption, rfl⟩, ⟨_, by omega, rfl⟩, zA_Ti hq19_1 (by assumption)⟩ ⟨_, _, by assumption, by assumption, rfl, rfl, _, _, _, _, _, _, _, _, _, _, hq35_0, hq59_3, Or.inr ⟨zA_T1 hq19_1 (by assumption) (by assumption), _, _, _, _, hq89_2, Eq.symm (by assumption)⟩⟩), (by first | assumption | exact Or.inl rfl | exact Or.inr rfl | omega), (by first | assumption | exact Or.inl rfl | exact Or.inr rfl | omega)⟩ (hw.sub [1, 11, 12, 13, 14, 15, 16, 17, 18, 19, 20, 21, 22, 23, 24, 25, 26, 27, 28, 29, 30, 31, 32, 33, 0, 2, 3, 4, 5, 6, 34, 35, 36, 7, 37, 8, 9, 10] (by decide +kernel) rfl) rfl dX9_then_101
          · skip
            refine lv_aload_n hx hb dX9_then_67 rfl (lv_at hl 0 rfl) ?_
            refine zz_get (v := .ref my0) S hw fgX9_44 1 rfl rfl dX9_then_68 ?_
            refine zz_get (v := .ref my2) S hw fgX9_157 33 rfl rfl dX9_then_71 ?_
            refine lv_iload_n hx hb dX9_then_74 rfl (lv_at hl 1 rfl) ?_
            refine zz_iald (v := (ee2_24 vq3)) S hw 35 rfl (vp_in_nI (n := vq3) (by omega) (by decide)) (congrArg ee2_24 (nI_clamp (n := vq3) (by omega))) dX9_then_75 ?_
            exact hret _ _ _ _ _ _ ⟨(ee2_24 vq3), fcc_19, zz0_20, zz1_21, zz2_22, zz3_23, hh1_10, ee2_24, ee3_25, ee4_26, o1, oo2_27, oo3_28, ww_15, aa_16, fi2_17, sd2_18, rfl, rfl, (by first | exact zA0 (fun z => hq2_1 (by assumption) z.1) | exact zA0 (fun z => zA_lt (by assumption) (by decide) z.2.1) | exact zA0 (fun z => zA_g60 (by assumption) z.2.1) | exact zA0 (fun z => zA_60 (by assumption) z.2.1) | exact zA0 (fun z => zA_Tn hq19_1 (by assumption) z.2.2) | exact zA1 ⟨⟨_, by assumption, rfl⟩, ⟨_, by omega, rfl⟩, zA_Ti hq19_1 (by assumption)⟩ ⟨_, _, by assumption, by assumption, rfl, rfl, _, _, _, _, _, _, _, _, _, _, hq35_0, hq59_3, Or.inl ⟨zA_z (by assumption), rfl⟩⟩ | exact zA1 ⟨⟨_, by assumption, rfl⟩, ⟨_, by omega, rfl⟩, zA_Ti hq19_1 (by assumption)⟩ ⟨_, _, by assumption, by assumption, rfl, rfl, _, _, _, _, _, _, _, _, _, _, hq35_0, hq59_3, Or.inr ⟨zA_T1 hq19_1 (by assumption) (by assumption), _, _, _, _, hq89_2, Eq.symm (by assumption)⟩⟩), (by first | assumption | exact Or.inl rfl | exact Or.inr rfl | omega), (by first | assumption | exact Or.inl rfl | exact Or.inr rfl | omega)⟩ (hw.sub [1, 10, 11, 12, 13, 14, 15, 16, 17, 18, 19, 20, 21, 22, 23, 24, 25, 26, 27, 28, 29, 30, 31, 32, 0, 2, 3, 4, 5, 6, 33, 34, 35, 36, 37, 7, 8, 9] (by decide +kernel) rfl) rfl dX9_then_76
        · skip
          refine lv_iconst (v := (-1)) hx hb dX9_then_25 (by decide) ?_
          exact hret _ _ _ _ _ _ ⟨(-1), fc, z0_, z1_, z2_, z3_, mf1, mf2, mf3, mf4, mi1, mi2, mi3, wf, af, fi, sd, rfl, rfl, (by first | exact zA0 (fun z => hq2_1 (by assumption) z.1) | exact zA0 (fun z => zA_lt (by assumption) (by decide) z.2.1) | exact zA0 (fun z => zA_g60 (by assumption) z.2.1) | exact zA0 (fun z => zA_60 (by assumption) z.2.1) | exact zA0 (fun z => zA_Tn hq19_1 (by assumption) z.2.2) | exact zA1 ⟨⟨_, by assumption, rfl⟩, ⟨_, by omega, rfl⟩, zA_Ti hq19_1 (by assumption)⟩ ⟨_, _, by assumption, by assumption, rfl, rfl, _, _, _, _, _, _, _, _, _, _, hq35_0, hq59_3, Or.inl ⟨zA_z (by assumption), rfl⟩⟩ | exact zA1 ⟨⟨_, by assumption, rfl⟩, ⟨_, by omega, rfl⟩, zA_Ti hq19_1 (by assumption)⟩ ⟨_, _, by assumption, by assumption, rfl, rfl, _, _, _, _, _, _, _, _, _, _, hq35_0, hq59_3, Or.inr ⟨zA_T1 hq19_1 (by assumption) (by assumption), _, _, _, _, hq89_2, Eq.symm (by assumption)⟩⟩), (by first | assumption | exact Or.inl rfl | exact Or.inr rfl | omega), (by first | assumption | exact Or.inl rfl | exact Or.inr rfl | omega)⟩ (hw.sub [36, 37, 0, 1, 2, 3, 4, 5, 6, 7, 8, 9, 10, 11, 12, 13, 14, 15, 16, 17, 18, 19, 20, 21, 22, 23, 24, 25, 26, 27, 28, 29, 30, 31, 32, 33, 34, 35] (by decide +kernel) rfl) rfl dX9_then_26
theorem kd_ncX9_marksIn : kd_ck 590990799660548111535121216762059336083019250315745821441379146623308278576825647173181405693146224216654248203079416327355614085599992457580087261028232338218 66 cX9_marksIn.data.toList 0 = true := by decide +kernel
theorem dX9_marksIn_0 : decode cX9_marksIn 0 = .ok (.aload_n 0, 1) := kd_dk0 kd_o42 kd_ncX9_marksIn rfl
theorem dX9_marksIn_1 : decode cX9_marksIn 1 = .ok (.iload_n 1, 1) := kd_dk0 kd_o27 kd_ncX9_marksIn rfl
theorem dX9_marksIn_2 : decode cX9_marksIn 2 = .ok (.invokevirtual 121, 3) := kd_dk2 kd_o182 kd_ncX9_marksIn rfl
theorem dX9_marksIn_5 : decode cX9_marksIn 5 = .ok (.ifCond .eq 13, 3) := kd_dj2 kd_o153 (w := 13) kd_ncX9_marksIn rfl rfl
theorem dX9_marksIn_8 : decode cX9_marksIn 8 = .ok (.iload_n 2, 1) := kd_dk0 kd_o28 kd_ncX9_marksIn rfl
theorem dX9_marksIn_9 : decode cX9_marksIn 9 = .ok (.ifCond .lt 9, 3) := kd_dj2 kd_o155 (w := 9) kd_ncX9_marksIn rfl rfl
theorem dX9_marksIn_12 : decode cX9_marksIn 12 = .ok (.iload_n 2, 1) := kd_dk0 kd_o28 kd_ncX9_marksIn rfl
theorem dX9_marksIn_13 : decode cX9_marksIn 13 = .ok (.bipush 60, 2) := kd_dj1 kd_o16 (w := 60) kd_ncX9_marksIn rfl rfl
theorem dX9_marksIn_15 : decode cX9_marksIn 15 = .ok (.if_icmp .le 5, 3) := kd_dj2 kd_o164 (w := 5) kd_ncX9_marksIn rfl rfl
theorem dX9_marksIn_18 : decode cX9_marksIn 18 = .ok (.iconst (-1), 1) := kd_dk0 kd_o2 kd_ncX9_marksIn rfl
theorem dX9_marksIn_19 : decode cX9_marksIn 19 = .ok (.ireturn, 1) := kd_dk0 kd_o172 kd_ncX9_marksIn rfl
theorem dX9_marksIn_20 : decode cX9_marksIn 20 = .ok (.aload_n 0, 1) := kd_dk0 kd_o42 kd_ncX9_marksIn rfl
theorem dX9_marksIn_21 : decode cX9_marksIn 21 = .ok (.getfield 44, 3) := kd_dk2 kd_o180 kd_ncX9_marksIn rfl
theorem dX9_marksIn_24 : decode cX9_marksIn 24 = .ok (.aload_n 0, 1) := kd_dk0 kd_o42 kd_ncX9_marksIn rfl
theorem dX9_marksIn_25 : decode cX9_marksIn 25 = .ok (.getfield 40, 3) := kd_dk2 kd_o180 kd_ncX9_marksIn rfl
theorem dX9_marksIn_28 : decode cX9_marksIn 28 = .ok (.invokevirtual 244, 3) := kd_dk2 kd_o182 kd_ncX9_marksIn rfl
theorem dX9_marksIn_31 : decode cX9_marksIn 31 = .ok (.aload_n 0, 1) := kd_dk0 kd_o42 kd_ncX9_marksIn rfl
theorem dX9_marksIn_32 : decode cX9_marksIn 32 = .ok (.getfield 50, 3) := kd_dk2 kd_o180 kd_ncX9_marksIn rfl
theorem dX9_marksIn_35 : decode cX9_marksIn 35 = .ok (.aload_n 0, 1) := kd_dk0 kd_o42 kd_ncX9_marksIn rfl
theorem dX9_marksIn_36 : decode cX9_marksIn 36 = .ok (.getfield 30, 3) := kd_dk2 kd_o180 kd_ncX9_marksIn rfl
theorem dX9_marksIn_39 : decode cX9_marksIn 39 = .ok (.aload_n 0, 1) := kd_dk0 kd_o42 kd_ncX9_marksIn rfl
theorem dX9_marksIn_40 : decode cX9_marksIn 40 = .ok (.getfield 44, 3) := kd_dk2 kd_o180 kd_ncX9_marksIn rfl
theorem dX9_marksIn_43 : decode cX9_marksIn 43 = .ok (.iload_n 2, 1) := kd_dk0 kd_o28 kd_ncX9_marksIn rfl
theorem dX9_marksIn_44 : decode cX9_marksIn 44 = .ok (.aload_n 0, 1) := kd_dk0 kd_o42 kd_ncX9_marksIn rfl
theorem dX9_marksIn_45 : decode cX9_marksIn 45 = .ok (.getfield 30, 3) := kd_dk2 kd_o180 kd_ncX9_marksIn rfl
theorem dX9_marksIn_48 : decode cX9_marksIn 48 = .ok (.getfield 190, 3) := kd_dk2 kd_o180 kd_ncX9_marksIn rfl
theorem dX9_marksIn_51 : decode cX9_marksIn 51 = .ok (.iconst 1, 1) := kd_dk0 kd_o4 kd_ncX9_marksIn rfl
theorem dX9_marksIn_52 : decode cX9_marksIn 52 = .ok (.invokevirtual 193, 3) := kd_dk2 kd_o182 kd_ncX9_marksIn rfl
theorem dX9_marksIn_55 : decode cX9_marksIn 55 = .ok (.pop, 1) := kd_dk0 kd_o87 kd_ncX9_marksIn rfl
theorem dX9_marksIn_56 : decode cX9_marksIn 56 = .ok (.aload_n 0, 1) := kd_dk0 kd_o42 kd_ncX9_marksIn rfl
theorem dX9_marksIn_57 : decode cX9_marksIn 57 = .ok (.getfield 44, 3) := kd_dk2 kd_o180 kd_ncX9_marksIn rfl
theorem dX9_marksIn_60 : decode cX9_marksIn 60 = .ok (.getfield 135, 3) := kd_dk2 kd_o180 kd_ncX9_marksIn rfl
theorem dX9_marksIn_63 : decode cX9_marksIn 63 = .ok (.iload_n 1, 1) := kd_dk0 kd_o27 kd_ncX9_marksIn rfl
theorem dX9_marksIn_64 : decode cX9_marksIn 64 = .ok (.iaload, 1) := kd_dk0 kd_o46 kd_ncX9_marksIn rfl
theorem dX9_marksIn_65 : decode cX9_marksIn 65 = .ok (.ireturn, 1) := kd_dk0 kd_o172 kd_ncX9_marksIn rfl
set_option maxHeartbeats 8000000 in
set_option maxRecDepth 100000 in
theorem c_g_marksIn (l : Launch) (G : zz_G) (ob0 : Nat) (ut : Nat) (uf1 : Int32) (h1 : Nat) (uf3 : Int32) (sc : Nat) (dr0 : Nat) (k0 : Nat) (my0 : Nat) (c0 : Nat) (ga : Nat) (pa0 : Nat) (t0 : Nat) (sl0 : Nat) (hd0 : Nat) (s1 : Nat) (s2 : Nat) (s3 : Nat) (s4 : Nat) (s5 : Nat) (s6 : Nat) (s7 : Nat) (s8 : Nat) (s9 : Nat) (w0 : Nat) (w1 : Nat) (w2 : Nat) (w3 : Nat) (x0 : Nat) (x1 : Nat) (x2 : Nat) (x3 : Nat) (x4 : Nat) (x5 : Nat) (x6 : Nat) (x7 : Nat) (x8 : Nat) (x9 : Nat) (x10 : Nat) (x11 : Nat) (pp : Nat) (pq : Nat) (i3 : Int32) (i4 : Int32) (m3 : Nat → Int32) (m4 : Nat → Int32) (m6 : Nat → Int32) (m7 : Nat → Int32) (fc : Nat → Int32) (f0 : Nat → Int32) (g0 : Nat → Int32) (n0 : Nat) (u0 : Nat) (z0_ : Nat → Int32) (f1 : Nat → Int32) (g1 : Nat → Int32) (n1 : Nat) (u1 : Nat) (z1_ : Nat → Int32) (f2 : Nat → Int32) (g2 : Nat → Int32) (n2 : Nat) (u2 : Nat) (z2_ : Nat → Int32) (f3 : Nat → Int32) (g3 : Nat → Int32) (n3 : Nat) (u3 : Nat) (z3_ : Nat → Int32) (m5 : Nat → Int32) (b1 : Nat) (b2 : Nat) (b3 : Nat) (b4 : Nat) (e1 : Nat → Int32) (e2 : Nat → Int32) (e3 : Nat → Int32) (e4 : Nat → Int32) (o1 : Int32) (o2 : Int32) (o3 : Int32) (my1 : Nat) (my2 : Nat) (my3 : Nat) (my4 : Nat) (mf1 : Nat → Int32) (mf2 : Nat → Int32) (mf3 : Nat → Int32) (mf4 : Nat → Int32) (mi1 : Int32) (mi2 : Int32) (mi3 : Int32) (a1 : Nat) (a2 : Nat) (wf : Nat → Int32) (af : Nat → Int32) (fi : Int32) (sd : Int32) (ar1 : Int32) (ar2 : Int32) (hv0 : zz_lwv f0 g0 n0 u0) (hv1 : zz_lwv f1 g1 n1 u1) (hv2 : zz_lwv f2 g2 n2 u2) (hv3 : zz_lwv f3 g3 n3 u3) (hpp : pp ≤ 7) (hpq : pq ≤ 6) (hw6 : ∀ j, j < 6 → zz_ok 7 (wf j)) (ha7 : ∀ j, j < 7 → zz_ok 6 (af j)) : zz_M l G mX9_marksIn 7 0 0 [.ref ob0, .int ar1, .int ar2] [(ob0, .inr (9, [.ref ut, .int uf1, .ref h1, .int uf3, .ref sc, .ref dr0, .ref k0, .ref my0, .ref c0, .ref ga, .ref pa0, .ref t0, .ref sl0, .ref hd0])), (sc, .inr (5, [.ref s1, .ref s2, .ref s3, .ref s4, .ref s5, .ref s6, .ref s7, .ref s8, .ref s9, .int (nI pp), .int (nI pq), .int i3, .int i4])), (s3, .inl (G.2 0, 7, .inl m3)), (s4, .inl (G.2 0, 7, .inl m4)), (s6, .inl (G.2 0, 6, .inl m6)), (s7, .inl (G.2 0, 6, .inl m7)), (s9, .inl (G.2 0, 9, .inl fc)), (s8, .inl (G.2 4, 4, .inr (.inr (.inr (.inr (va_up (va_up (va_up (va_up (fun _ => none) 0 (some w0)) 1 (some w1)) 2 (some w2)) 3 (some w3))))))), (w0, .inr (2, [.ref x0, .ref x1, .ref x2, .int (nI n0), .int (nI u0)])), (x0, .inl (G.2 0, 400, .inl f0)), (x1, .inl (G.2 0, 14, .inl g0)), (x2, .inl (G.2 0, 32, .inl z0_)), (w1, .inr (2, [.ref x3, .ref x4, .ref x5, .int (nI n1), .int (nI u1)])), (x3, .inl (G.2 0, 400, .inl f1)), (x4, .inl (G.2 0, 14, .inl g1)), (x5, .inl (G.2 0, 32, .inl z1_)), (w2, .inr (2, [.ref x6, .ref x7, .ref x8, .int (nI n2), .int (nI u2)])), (x6, .inl (G.2 0, 400, .inl f2)), (x7, .inl (G.2 0, 14, .inl g2)), (x8, .inl (G.2 0, 32, .inl z2_)), (w3, .inr (2, [.ref x9, .ref x10, .ref x11, .int (nI n3), .int (nI u3)])), (x9, .inl (G.2 0, 400, .inl f3)), (x10, .inl (G.2 0, 14, .inl g3)), (x11, .inl (G.2 0, 32, .inl z3_)), (s5, .inl (G.2 0, 6, .inl m5)), (k0, .inr (6, [.ref b1, .ref b2, .ref b3, .ref b4, .int o1, .int o2, .int o3])), (b1, .inl (G.2 0, 7, .inl e1)), (b2, .inl (G.2 0, 6, .inl e2)), (b3, .inl (G.2 0, 7, .inl e3)), (b4, .inl (G.2 0, 42, .inl e4)), (my0, .inr (6, [.ref my1, .ref my2, .ref my3, .ref my4, .int mi1, .int mi2, .int mi3])), (my1, .inl (G.2 0, 7, .inl mf1)), (my2, .inl (G.2 0, 6, .inl mf2)), (my3, .inl (G.2 0, 7, .inl mf3)), (my4, .inl (G.2 0, 42, .inl mf4)), (c0, .inr (0, [.ref a1, .ref a2, .int fi, .int sd])), (a1, .inl (G.2 0, 6, .inl wf)), (a2, .inl (G.2 0, 7, .inl af))] (fun rr u => ∃ (rv : Int32), ∃ (fcc : Nat → Int32), ∃ (zz0 : Nat → Int32), ∃ (zz1 : Nat → Int32), ∃ (zz2 : Nat → Int32), ∃ (zz3 : Nat → Int32), ∃ (nf1 : Nat → Int32), ∃ (nf2 : Nat → Int32), ∃ (nf3 : Nat → Int32), ∃ (nf4 : Nat → Int32), ∃ (ni1 : Int32), ∃ (ni2 : Int32), ∃ (ni3 : Int32), ∃ (ww : Nat → Int32), ∃ (aa : Nat → Int32), ∃ (fi2 : Int32), ∃ (sd2 : Int32), rr = some (.int rv) ∧ u = [(ob0, .inr (9, [.ref ut, .int uf1, .ref h1, .int uf3, .ref sc, .ref dr0, .ref k0, .ref my0, .ref c0, .ref ga, .ref pa0, .ref t0, .ref sl0, .ref hd0])), (sc, .inr (5, [.ref s1, .ref s2, .ref s3, .ref s4, .ref s5, .ref s6, .ref s7, .ref s8, .ref s9, .int (nI pp), .int (nI pq), .int i3, .int i4])), (s3, .inl (G.2 0, 7, .inl m3)), (s4, .inl (G.2 0, 7, .inl m4)), (s6, .inl (G.2 0, 6, .inl m6)), (s7, .inl (G.2 0, 6, .inl m7)), (s9, .inl (G.2 0, 9, .inl fcc)), (s8, .inl (G.2 4, 4, .inr (.inr (.inr (.inr (va_up (va_up (va_up (va_up (fun _ => none) 0 (some w0)) 1 (some w1)) 2 (some w2)) 3 (some w3))))))), (w0, .inr (2, [.ref x0, .ref x1, .ref x2, .int (nI n0), .int (nI u0)])), (x0, .inl (G.2 0, 400, .inl f0)), (x1, .inl (G.2 0, 14, .inl g0)), (x2, .inl (G.2 0, 32, .inl zz0)), (w1, .inr (2, [.ref x3, .ref x4, .ref x5, .int (nI n1), .int (nI u1)])), (x3, .inl (G.2 0, 400, .inl f1)), (x4, .inl (G.2 0, 14, .inl g1)), (x5, .inl (G.2 0, 32, .inl zz1)), (w2, .inr (2, [.ref x6, .ref x7, .ref x8, .int (nI n2), .int (nI u2)])), (x6, .inl (G.2 0, 400, .inl f2)), (x7, .inl (G.2 0, 14, .inl g2)), (x8, .inl (G.2 0, 32, .inl zz2)), (w3, .inr (2, [.ref x9, .ref x10, .ref x11, .int (nI n3), .int (nI u3)])), (x9, .inl (G.2 0, 400, .inl f3)), (x10, .inl (G.2 0, 14, .inl g3)), (x11, .inl (G.2 0, 32, .inl zz3)), (s5, .inl (G.2 0, 6, .inl m5)), (k0, .inr (6, [.ref b1, .ref b2, .ref b3, .ref b4, .int o1, .int o2, .int o3])), (b1, .inl (G.2 0, 7, .inl e1)), (b2, .inl (G.2 0, 6, .inl e2)), (b3, .inl (G.2 0, 7, .inl e3)), (b4, .inl (G.2 0, 42, .inl e4)), (my0, .inr (6, [.ref my1, .ref my2, .ref my3, .ref my4, .int ni1, .int ni2, .int ni3])), (my1, .inl (G.2 0, 7, .inl nf1)), (my2, .inl (G.2 0, 6, .inl nf2)), (my3, .inl (G.2 0, 7, .inl nf3)), (my4, .inl (G.2 0, 42, .inl nf4)), (c0, .inr (0, [.ref a1, .ref a2, .int fi2, .int sd2])), (a1, .inl (G.2 0, 6, .inl ww)), (a2, .inl (G.2 0, 7, .inl aa))] ∧ (zA (zz_In pp ar1 ∧ zz_In 61 ar2) (∃ a k : Nat, a < pp ∧ k ≤ 60 ∧ ar1 = nI a ∧ ar2 = nI k ∧ zA_D f0 g0 n0 u0 f1 g1 n1 u1 f2 g2 n2 u2 f3 g3 n3 u3 e1 e2 e3 e4 o1 o2 o3 m3 m6 m4 m7 i3 pp pq i4 (¬ (1 : Int32) = 0) k (fun h1 E2 E3 E4 O2 O3 => rv = E3 a)) rv (-1)) ∧ (∀ j, j < 6 → zz_ok 7 (ww j)) ∧ (∀ j, j < 7 → zz_ok 6 (aa j))) := by
  refine zz_enteri (by decide +kernel) (Nat.le_of_ble_eq_true rfl) ?_
  intro p e s m args below meth c A Q ls S hnm hret hw hl
  have hl : lv_has ls 3 [(0, .ref ob0), (1, .int ar1), (2, .int ar2)] := hl
  have hx := S.1
  have hb := S.2.1
  refine lv_aload_n hx hb dX9_marksIn_0 rfl (lv_at hl 0 rfl) ?_
  refine lv_iload_n hx hb dX9_marksIn_1 rfl (lv_at hl 1 rfl) ?_
  refine zz_callV (qb := 0) (As := [.int ar1]) (rest := []) (wr := [(s3, .inl (G.2 0, 7, .inl m3)), (s4, .inl (G.2 0, 7, .inl m4)), (s6, .inl (G.2 0, 6, .inl m6)), (s7, .inl (G.2 0, 6, .inl m7)), (s9, .inl (G.2 0, 9, .inl fc)), (s8, .inl (G.2 4, 4, .inr (.inr (.inr (.inr (va_up (va_up (va_up (va_up (fun _ => none) 0 (some w0)) 1 (some w1)) 2 (some w2)) 3 (some w3))))))), (w0, .inr (2, [.ref x0, .ref x1, .ref x2, .int (nI n0), .int (nI u0)])), (x0, .inl (G.2 0, 400, .inl f0)), (x1, .inl (G.2 0, 14, .inl g0)), (x2, .inl (G.2 0, 32, .inl z0_)), (w1, .inr (2, [.ref x3, .ref x4, .ref x5, .int (nI n1), .int (nI u1)])), (x3, .inl (G.2 0, 400, .inl f1)), (x4, .inl (G.2 0, 14, .inl g1)), (x5, .inl (G.2 0, 32, .inl z1_)), (w2, .inr (2, [.ref x6, .ref x7, .ref x8, .int (nI n2), .int (nI u2)])), (x6, .inl (G.2 0, 400, .inl f2)), (x7, .inl (G.2 0, 14, .inl g2)), (x8, .inl (G.2 0, 32, .inl z2_)), (w3, .inr (2, [.ref x9, .ref x10, .ref x11, .int (nI n3), .int (nI u3)])), (x9, .inl (G.2 0, 400, .inl f3)), (x10, .inl (G.2 0, 14, .inl g3)), (x11, .inl (G.2 0, 32, .inl z3_)), (s5, .inl (G.2 0, 6, .inl m5)), (k0, .inr (6, [.ref b1, .ref b2, .ref b3, .ref b4, .int o1, .int o2, .int o3])), (b1, .inl (G.2 0, 7, .inl e1)), (b2, .inl (G.2 0, 6, .inl e2)), (b3, .inl (G.2 0, 7, .inl e3)), (b4, .inl (G.2 0, 42, .inl e4)), (my0, .inr (6, [.ref my1, .ref my2, .ref my3, .ref my4, .int mi1, .int mi2, .int mi3])), (my1, .inl (G.2 0, 7, .inl mf1)), (my2, .inl (G.2 0, 6, .inl mf2)), (my3, .inl (G.2 0, 7, .inl mf3)), (my4, .inl (G.2 0, 42, .inl mf4)), (c0, .inr (0, [.ref a1, .ref a2, .int fi, .int sd])), (a1, .inl (G.2 0, 6, .inl wf)), (a2, .inl (G.2 0, 7, .inl af))]) S hw hl.1 lX9_121 (c_g_isPerson l G ob0 ut uf1 h1 uf3 sc dr0 k0 my0 c0 ga pa0 t0 sl0 hd0 s1 s2 s3 s4 s5 s6 s7 s8 s9 pp pq i3 i4 ar1 (by first | assumption | omega | exact Or.inr ⟨_, by omega, rfl⟩ | (unfold zz_sok; decide) | decide | exact (fun j hj => (hv7 j hj).1)) (by first | assumption | omega | exact Or.inr ⟨_, by omega, rfl⟩ | (unfold zz_sok; decide) | decide | exact (fun j hj => (hv7 j hj).1))) ⟨Nat.le_of_ble_eq_true rfl, Nat.le_of_ble_eq_true rfl⟩ ⟨Nat.le_of_ble_eq_true rfl, Nat.le_of_ble_eq_true rfl⟩ [0, 1] [2, 3, 4, 5, 6, 7, 8, 9, 10, 11, 12, 13, 14, 15, 16, 17, 18, 19, 20, 21, 22, 23, 24, 25, 26, 27, 28, 29, 30, 31, 32, 33, 34, 35, 36, 37] (by decide +kernel) rfl rfl (by decide +kernel) (by decide +kernel) rfl rfl rfl rfl (Nat.le_of_ble_eq_true rfl) dX9_marksIn_2 ?_
  clear hw
  intro rr u H locs hp hw
  refine hp.elim fun rv_1 zg0 => zg0.elim fun zee1 zg1 => zg1.elim fun zee2 zg2 => zg2.elim fun hq2_0 hq2_1 => ?_
  clear hp zg0 zg1 zg2
  subst zee1
  subst zee2
  replace hw : zz_w G A s [(s3, .inl (G.2 0, 7, .inl m3)), (s4, .inl (G.2 0, 7, .inl m4)), (s6, .inl (G.2 0, 6, .inl m6)), (s7, .inl (G.2 0, 6, .inl m7)), (s9, .inl (G.2 0, 9, .inl fc)), (s8, .inl (G.2 4, 4, .inr (.inr (.inr (.inr (va_up (va_up (va_up (va_up (fun _ => none) 0 (some w0)) 1 (some w1)) 2 (some w2)) 3 (some w3))))))), (w0, .inr (2, [.ref x0, .ref x1, .ref x2, .int (nI n0), .int (nI u0)])), (x0, .inl (G.2 0, 400, .inl f0)), (x1, .inl (G.2 0, 14, .inl g0)), (x2, .inl (G.2 0, 32, .inl z0_)), (w1, .inr (2, [.ref x3, .ref x4, .ref x5, .int (nI n1), .int (nI u1)])), (x3, .inl (G.2 0, 400, .inl f1)), (x4, .inl (G.2 0, 14, .inl g1)), (x5, .inl (G.2 0, 32, .inl z1_)), (w2, .inr (2, [.ref x6, .ref x7, .ref x8, .int (nI n2), .int (nI u2)])), (x6, .inl (G.2 0, 400, .inl f2)), (x7, .inl (G.2 0, 14, .inl g2)), (x8, .inl (G.2 0, 32, .inl z2_)), (w3, .inr (2, [.ref x9, .ref x10, .ref x11, .int (nI n3), .int (nI u3)])), (x9, .inl (G.2 0, 400, .inl f3)), (x10, .inl (G.2 0, 14, .inl g3)), (x11, .inl (G.2 0, 32, .inl z3_)), (s5, .inl (G.2 0, 6, .inl m5)), (k0, .inr (6, [.ref b1, .ref b2, .ref b3, .ref b4, .int o1, .int o2, .int o3])), (b1, .inl (G.2 0, 7, .inl e1)), (b2, .inl (G.2 0, 6, .inl e2)), (b3, .inl (G.2 0, 7, .inl e3)), (b4, .inl (G.2 0, 42, .inl e4)), (my0, .inr (6, [.ref my1, .ref my2, .ref my3, .ref my4, .int mi1, .int mi2, .int mi3])), (my1, .inl (G.2 0, 7, .inl mf1)), (my2, .inl (G.2 0, 6, .inl mf2)), (my3, .inl (G.2 0, 7, .inl mf3)), (my4, .inl (G.2 0, 42, .inl mf4)), (c0, .inr (0, [.ref a1, .ref a2, .int fi, .int sd])), (a1, .inl (G.2 0, 6, .inl wf)), (a2, .inl (G.2 0, 7, .inl af)), (ob0, .inr (9, [.ref ut, .int uf1, .ref h1, .int uf3, .ref sc, .ref dr0, .ref k0, .ref my0, .ref c0, .ref ga, .ref pa0, .ref t0, .ref sl0, .ref hd0])), (sc, .inr (5, [.ref s1, .ref s2, .ref s3, .ref s4, .ref s5, .ref s6, .ref s7, .ref s8, .ref s9, .int (nI pp), .int (nI pq), .int i3, .int i4]))] H _ := hw
  refine W.eq (g2 := F0 m 5 ls [.int rv_1]) rfl ?_
  refine lv_if_eq (tgt := 18) hx hb dX9_marksIn_5 (by decide) (fun c5_2 => ?_) (fun c5_2 => ?_)
  · skip
    refine lv_iconst (v := (-1)) hx hb dX9_marksIn_18 (by decide) ?_
    exact hret _ _ _ _ _ _ ⟨(-1), fc, z0_, z1_, z2_, z3_, mf1, mf2, mf3, mf4, mi1, mi2, mi3, wf, af, fi, sd, rfl, rfl, (by first | exact zA0 (fun z => hq2_1 (by assumption) z.1) | exact zA0 (fun z => zA_lt (by assumption) (by decide) z.2) | exact zA0 (fun z => zA_g60 (by assumption) z.2) | exact zA0 (fun z => zA_60 (by assumption) z.2) | exact zA1 ⟨⟨_, by assumption, rfl⟩, ⟨_, by omega, rfl⟩⟩ ⟨_, _, by assumption, by assumption, rfl, rfl, _, _, _, _, _, _, _, _, _, _, hq28_0, hq52_3, rfl⟩), (by first | assumption | exact Or.inl rfl | exact Or.inr rfl | omega), (by first | assumption | exact Or.inl rfl | exact Or.inr rfl | omega)⟩ (hw.sub [36, 37, 0, 1, 2, 3, 4, 5, 6, 7, 8, 9, 10, 11, 12, 13, 14, 15, 16, 17, 18, 19, 20, 21, 22, 23, 24, 25, 26, 27, 28, 29, 30, 31, 32, 33, 34, 35] (by decide +kernel) rfl) rfl dX9_marksIn_19
  · skip
    obtain ⟨vq3, hvq3, rfl⟩ := hq2_0.resolve_left c5_2
    refine lv_iload_n hx hb dX9_marksIn_8 rfl (lv_at hl 2 rfl) ?_
    refine lv_if_lt (tgt := 18) hx hb dX9_marksIn_9 (by decide) (fun c9_4 => ?_) (fun c9_4 => ?_)
    · skip
      refine lv_iconst (v := (-1)) hx hb dX9_marksIn_18 (by decide) ?_
      exact hret _ _ _ _ _ _ ⟨(-1), fc, z0_, z1_, z2_, z3_, mf1, mf2, mf3, mf4, mi1, mi2, mi3, wf, af, fi, sd, rfl, rfl, (by first | exact zA0 (fun z => hq2_1 (by assumption) z.1) | exact zA0 (fun z => zA_lt (by assumption) (by decide) z.2) | exact zA0 (fun z => zA_g60 (by assumption) z.2) | exact zA0 (fun z => zA_60 (by assumption) z.2) | exact zA1 ⟨⟨_, by assumption, rfl⟩, ⟨_, by omega, rfl⟩⟩ ⟨_, _, by assumption, by assumption, rfl, rfl, _, _, _, _, _, _, _, _, _, _, hq28_0, hq52_3, rfl⟩), (by first | assumption | exact Or.inl rfl | exact Or.inr rfl | omega), (by first | assumption | exact Or.inl rfl | exact Or.inr rfl | omega)⟩ (hw.sub [36, 37, 0, 1, 2, 3, 4, 5, 6, 7, 8, 9, 10, 11, 12, 13, 14, 15, 16, 17, 18, 19, 20, 21, 22, 23, 24, 25, 26, 27, 28, 29, 30, 31, 32, 33, 34, 35] (by decide +kernel) rfl) rfl dX9_marksIn_19
    · skip
      have hlo5 : ¬ ar2 < 0 := zz_lo0 c9_4
      refine lv_iload_n hx hb dX9_marksIn_12 rfl (lv_at hl 2 rfl) ?_
      refine lv_bipush (v := 60) hx hb dX9_marksIn_13 (by decide) ?_
      refine lv_icmp_le (tgt := 20) hx hb dX9_marksIn_15 (by decide) (fun c15_6 => ?_) (fun c15_6 => ?_)
      · skip
        obtain ⟨vq7, hvq7, rfl⟩ : ∃ k : Nat, k ≤ 60 ∧ ar2 = nI k := zz_rng hlo5 (Int32.not_lt.mpr c15_6) (by decide)
        refine lv_aload_n hx hb dX9_marksIn_20 rfl (lv_at hl 0 rfl) ?_
        refine zz_get (v := .ref my0) S hw fgX9_44 36 rfl rfl dX9_marksIn_21 ?_
        refine lv_aload_n hx hb dX9_marksIn_24 rfl (lv_at hl 0 rfl) ?_
        refine zz_get (v := .ref k0) S hw fgX9_40 36 rfl rfl dX9_marksIn_25 ?_
        refine zz_callV (qb := 28) (As := [.ref k0]) (rest := []) (wr := [(s3, .inl (G.2 0, 7, .inl m3)), (s4, .inl (G.2 0, 7, .inl m4)), (s6, .inl (G.2 0, 6, .inl m6)), (s7, .inl (G.2 0, 6, .inl m7)), (s9, .inl (G.2 0, 9, .inl fc)), (s8, .inl (G.2 4, 4, .inr (.inr (.inr (.inr (va_up (va_up (va_up (va_up (fun _ => none) 0 (some w0)) 1 (some w1)) 2 (some w2)) 3 (some w3))))))), (w0, .inr (2, [.ref x0, .ref x1, .ref x2, .int (nI n0), .int (nI u0)])), (x0, .inl (G.2 0, 400, .inl f0)), (x1, .inl (G.2 0, 14, .inl g0)), (x2, .inl (G.2 0, 32, .inl z0_)), (w1, .inr (2, [.ref x3, .ref x4, .ref x5, .int (nI n1), .int (nI u1)])), (x3, .inl (G.2 0, 400, .inl f1)), (x4, .inl (G.2 0, 14, .inl g1)), (x5, .inl (G.2 0, 32, .inl z1_)), (w2, .inr (2, [.ref x6, .ref x7, .ref x8, .int (nI n2), .int (nI u2)])), (x6, .inl (G.2 0, 400, .inl f2)), (x7, .inl (G.2 0, 14, .inl g2)), (x8, .inl (G.2 0, 32, .inl z2_)), (w3, .inr (2, [.ref x9, .ref x10, .ref x11, .int (nI n3), .int (nI u3)])), (x9, .inl (G.2 0, 400, .inl f3)), (x10, .inl (G.2 0, 14, .inl g3)), (x11, .inl (G.2 0, 32, .inl z3_)), (s5, .inl (G.2 0, 6, .inl m5)), (c0, .inr (0, [.ref a1, .ref a2, .int fi, .int sd])), (a1, .inl (G.2 0, 6, .inl wf)), (a2, .inl (G.2 0, 7, .inl af)), (ob0, .inr (9, [.ref ut, .int uf1, .ref h1, .int uf3, .ref sc, .ref dr0, .ref k0, .ref my0, .ref c0, .ref ga, .ref pa0, .ref t0, .ref sl0, .ref hd0])), (sc, .inr (5, [.ref s1, .ref s2, .ref s3, .ref s4, .ref s5, .ref s6, .ref s7, .ref s8, .ref s9, .int (nI pp), .int (nI pq), .int i3, .int i4]))]) S hw hl.1 lX9_244 (c_gcopyFrom l G my0 my1 my2 my3 my4 mf1 mf2 mf3 mf4 mi1 mi2 mi3 k0 b1 b2 b3 b4 e1 e2 e3 e4 o1 o2 o3) ⟨Nat.le_of_ble_eq_true rfl, Nat.le_of_ble_eq_true rfl⟩ ⟨Nat.le_of_ble_eq_true rfl, Nat.le_of_ble_eq_true rfl⟩ [28, 29, 30, 31, 32, 23, 24, 25, 26, 27] [0, 1, 2, 3, 4, 5, 6, 7, 8, 9, 10, 11, 12, 13, 14, 15, 16, 17, 18, 19, 20, 21, 22, 33, 34, 35, 36, 37] (by decide +kernel) rfl rfl (by decide +kernel) (by decide +kernel) rfl rfl rfl rfl (Nat.le_of_ble_eq_true rfl) dX9_marksIn_28 ?_
        clear hw
        intro rr u H locs hp hw
        refine hp.elim fun hh1_8 zg0 => zg0.elim fun hh2_9 zg1 => zg1.elim fun hh3_10 zg2 => zg2.elim fun hh4_11 zg3 => zg3.elim fun zee1 zg4 => zg4.elim fun zee2 hq28_0 => ?_
        clear hp zg0 zg1 zg2 zg3 zg4
        subst zee1
        subst zee2
        replace hw : zz_w G A s [(s3, .inl (G.2 0, 7, .inl m3)), (s4, .inl (G.2 0, 7, .inl m4)), (s6, .inl (G.2 0, 6, .inl m6)), (s7, .inl (G.2 0, 6, .inl m7)), (s9, .inl (G.2 0, 9, .inl fc)), (s8, .inl (G.2 4, 4, .inr (.inr (.inr (.inr (va_up (va_up (va_up (va_up (fun _ => none) 0 (some w0)) 1 (some w1)) 2 (some w2)) 3 (some w3))))))), (w0, .inr (2, [.ref x0, .ref x1, .ref x2, .int (nI n0), .int (nI u0)])), (x0, .inl (G.2 0, 400, .inl f0)), (x1, .inl (G.2 0, 14, .inl g0)), (x2, .inl (G.2 0, 32, .inl z0_)), (w1, .inr (2, [.ref x3, .ref x4, .ref x5, .int (nI n1), .int (nI u1)])), (x3, .inl (G.2 0, 400, .inl f1)), (x4, .inl (G.2 0, 14, .inl g1)), (x5, .inl (G.2 0, 32, .inl z1_)), (w2, .inr (2, [.ref x6, .ref x7, .ref x8, .int (nI n2), .int (nI u2)])), (x6, .inl (G.2 0, 400, .inl f2)), (x7, .inl (G.2 0, 14, .inl g2)), (x8, .inl (G.2 0, 32, .inl z2_)), (w3, .inr (2, [.ref x9, .ref x10, .ref x11, .int (nI n3), .int (nI u3)])), (x9, .inl (G.2 0, 400, .inl f3)), (x10, .inl (G.2 0, 14, .inl g3)), (x11, .inl (G.2 0, 32, .inl z3_)), (s5, .inl (G.2 0, 6, .inl m5)), (c0, .inr (0, [.ref a1, .ref a2, .int fi, .int sd])), (a1, .inl (G.2 0, 6, .inl wf)), (a2, .inl (G.2 0, 7, .inl af)), (ob0, .inr (9, [.ref ut, .int uf1, .ref h1, .int uf3, .ref sc, .ref dr0, .ref k0, .ref my0, .ref c0, .ref ga, .ref pa0, .ref t0, .ref sl0, .ref hd0])), (sc, .inr (5, [.ref s1, .ref s2, .ref s3, .ref s4, .ref s5, .ref s6, .ref s7, .ref s8, .ref s9, .int (nI pp), .int (nI pq), .int i3, .int i4])), (my0, .inr (6, [.ref my1, .ref my2, .ref my3, .ref my4, .int o1, .int o2, .int o3])), (my1, .inl (G.2 0, 7, .inl hh1_8)), (my2, .inl (G.2 0, 6, .inl hh2_9)), (my3, .inl (G.2 0, 7, .inl hh3_10)), (my4, .inl (G.2 0, 42, .inl hh4_11)), (k0, .inr (6, [.ref b1, .ref b2, .ref b3, .ref b4, .int o1, .int o2, .int o3])), (b1, .inl (G.2 0, 7, .inl e1)), (b2, .inl (G.2 0, 6, .inl e2)), (b3, .inl (G.2 0, 7, .inl e3)), (b4, .inl (G.2 0, 42, .inl e4))] H _ := hw
        refine W.eq (g2 := F0 m 31 ls []) rfl ?_
        refine lv_aload_n hx hb dX9_marksIn_31 rfl (lv_at hl 0 rfl) ?_
        refine W.eq (g2 := F0 m 32 ls [.ref ob0]) rfl ?_
        refine zz_get (v := .ref c0) S hw fgX9_50 26 rfl rfl dX9_marksIn_32 ?_
        refine lv_aload_n hx hb dX9_marksIn_35 rfl (lv_at hl 0 rfl) ?_
        refine zz_get (v := .ref sc) S hw fgX9_30 26 rfl rfl dX9_marksIn_36 ?_
        refine lv_aload_n hx hb dX9_marksIn_39 rfl (lv_at hl 0 rfl) ?_
        refine zz_get (v := .ref my0) S hw fgX9_44 26 rfl rfl dX9_marksIn_40 ?_
        refine lv_iload_n hx hb dX9_marksIn_43 rfl (lv_at hl 2 rfl) ?_
        refine lv_aload_n hx hb dX9_marksIn_44 rfl (lv_at hl 0 rfl) ?_
        refine zz_get (v := .ref sc) S hw fgX9_30 26 rfl rfl dX9_marksIn_45 ?_
        refine zz_get (v := .int i4) S hw fgX9_190 27 rfl rfl dX9_marksIn_48 ?_
        refine lv_iconst (v := 1) hx hb dX9_marksIn_51 (by decide) ?_
        refine zz_callV (qb := 23) (As := [.ref sc, .ref my0, .int (nI vq7), .int i4, .int 1]) (rest := []) (wr := [(s5, .inl (G.2 0, 6, .inl m5)), (ob0, .inr (9, [.ref ut, .int uf1, .ref h1, .int uf3, .ref sc, .ref dr0, .ref k0, .ref my0, .ref c0, .ref ga, .ref pa0, .ref t0, .ref sl0, .ref hd0])), (k0, .inr (6, [.ref b1, .ref b2, .ref b3, .ref b4, .int o1, .int o2, .int o3])), (b1, .inl (G.2 0, 7, .inl e1)), (b2, .inl (G.2 0, 6, .inl e2)), (b3, .inl (G.2 0, 7, .inl e3)), (b4, .inl (G.2 0, 42, .inl e4))]) S hw hl.1 lX9_193 (c_gpassDays l G c0 a1 a2 wf af fi sd sc s1 s2 s3 s4 s5 s6 s7 s8 s9 w0 w1 w2 w3 x0 x1 x2 x3 x4 x5 x6 x7 x8 x9 x10 x11 pp pq i3 i4 m3 m4 m6 m7 fc f0 g0 n0 u0 z0_ f1 g1 n1 u1 z1_ f2 g2 n2 u2 z2_ f3 g3 n3 u3 z3_ my0 my1 my2 my3 my4 hh1_8 hh2_9 hh3_10 hh4_11 o1 o2 o3 vq7 i4 1 (by first | assumption | omega | exact Or.inr ⟨_, by omega, rfl⟩ | (unfold zz_sok; decide) | decide | exact (fun j hj => (hv7 j hj).1)) (by first | assumption | omega | exact Or.inr ⟨_, by omega, rfl⟩ | (unfold zz_sok; decide) | decide | exact (fun j hj => (hv7 j hj).1)) (by first | assumption | omega | exact Or.inr ⟨_, by omega, rfl⟩ | (unfold zz_sok; decide) | decide | exact (fun j hj => (hv7 j hj).1)) (by first | assumption | omega | exact Or.inr ⟨_, by omega, rfl⟩ | (unfold zz_sok; decide) | decide | exact (fun j hj => (hv7 j hj).1)) (by first | assumption | omega | exact Or.inr ⟨_, by omega, rfl⟩ | (unfold zz_sok; decide) | decide | exact (fun j hj => (hv7 j hj).1)) (by first | assumption | omega | exact Or.inr ⟨_, by omega, rfl⟩ | (unfold zz_sok; decide) | decide | exact (fun j hj => (hv7 j hj).1)) (by first | assumption | omega | exact Or.inr ⟨_, by omega, rfl⟩ | (unfold zz_sok; decide) | decide | exact (fun j hj => (hv7 j hj).1)) (by first | assumption | omega | exact Or.inr ⟨_, by omega, rfl⟩ | (unfold zz_sok; decide) | decide | exact (fun j hj => (hv7 j hj).1)) (by first | assumption | omega | exact Or.inr ⟨_, by omega, rfl⟩ | (unfold zz_sok; decide) | decide | exact (fun j hj => (hv7 j hj).1))) ⟨Nat.le_of_ble_eq_true rfl, Nat.le_of_ble_eq_true rfl⟩ ⟨Nat.le_of_ble_eq_true rfl, Nat.le_of_ble_eq_true rfl⟩ [23, 24, 25, 27, 0, 1, 2, 3, 4, 5, 6, 7, 8, 9, 10, 11, 12, 13, 14, 15, 16, 17, 18, 19, 20, 21, 28, 29, 30, 31, 32] [22, 26, 33, 34, 35, 36, 37] (by decide +kernel) rfl rfl (by decide +kernel) (by decide +kernel) rfl rfl rfl rfl (Nat.le_of_ble_eq_true rfl) dX9_marksIn_52 ?_
        clear hw
        intro rr u H locs hp hw
        refine hp.elim fun rv_12 zg0 => zg0.elim fun ww_13 zg1 => zg1.elim fun aa_14 zg2 => zg2.elim fun fi2_15 zg3 => zg3.elim fun sd2_16 zg4 => zg4.elim fun fcc_17 zg5 => zg5.elim fun zz0_18 zg6 => zg6.elim fun zz1_19 zg7 => zg7.elim fun zz2_20 zg8 => zg8.elim fun zz3_21 zg9 => zg9.elim fun ee2_22 zg10 => zg10.elim fun ee3_23 zg11 => zg11.elim fun ee4_24 zg12 => zg12.elim fun oo2_25 zg13 => zg13.elim fun oo3_26 zg14 => zg14.elim fun zee1 zg15 => zg15.elim fun zee2 zg16 => zg16.elim fun hq52_0 zg17 => zg17.elim fun hq52_1 zg18 => zg18.elim fun hq52_2 hq52_3 => ?_
        clear hp zg0 zg1 zg2 zg3 zg4 zg5 zg6 zg7 zg8 zg9 zg10 zg11 zg12 zg13 zg14 zg15 zg16 zg17 zg18
        subst zee1
        subst zee2
        replace hw : zz_w G A s [(s5, .inl (G.2 0, 6, .inl m5)), (ob0, .inr (9, [.ref ut, .int uf1, .ref h1, .int uf3, .ref sc, .ref dr0, .ref k0, .ref my0, .ref c0, .ref ga, .ref pa0, .ref t0, .ref sl0, .ref hd0])), (k0, .inr (6, [.ref b1, .ref b2, .ref b3, .ref b4, .int o1, .int o2, .int o3])), (b1, .inl (G.2 0, 7, .inl e1)), (b2, .inl (G.2 0, 6, .inl e2)), (b3, .inl (G.2 0, 7, .inl e3)), (b4, .inl (G.2 0, 42, .inl e4)), (c0, .inr (0, [.ref a1, .ref a2, .int fi2_15, .int sd2_16])), (a1, .inl (G.2 0, 6, .inl ww_13)), (a2, .inl (G.2 0, 7, .inl aa_14)), (sc, .inr (5, [.ref s1, .ref s2, .ref s3, .ref s4, .ref s5, .ref s6, .ref s7, .ref s8, .ref s9, .int (nI pp), .int (nI pq), .int i3, .int i4])), (s3, .inl (G.2 0, 7, .inl m3)), (s4, .inl (G.2 0, 7, .inl m4)), (s6, .inl (G.2 0, 6, .inl m6)), (s7, .inl (G.2 0, 6, .inl m7)), (s9, .inl (G.2 0, 9, .inl fcc_17)), (s8, .inl (G.2 4, 4, .inr (.inr (.inr (.inr (va_up (va_up (va_up (va_up (fun _ => none) 0 (some w0)) 1 (some w1)) 2 (some w2)) 3 (some w3))))))), (w0, .inr (2, [.ref x0, .ref x1, .ref x2, .int (nI n0), .int (nI u0)])), (x0, .inl (G.2 0, 400, .inl f0)), (x1, .inl (G.2 0, 14, .inl g0)), (x2, .inl (G.2 0, 32, .inl zz0_18)), (w1, .inr (2, [.ref x3, .ref x4, .ref x5, .int (nI n1), .int (nI u1)])), (x3, .inl (G.2 0, 400, .inl f1)), (x4, .inl (G.2 0, 14, .inl g1)), (x5, .inl (G.2 0, 32, .inl zz1_19)), (w2, .inr (2, [.ref x6, .ref x7, .ref x8, .int (nI n2), .int (nI u2)])), (x6, .inl (G.2 0, 400, .inl f2)), (x7, .inl (G.2 0, 14, .inl g2)), (x8, .inl (G.2 0, 32, .inl zz2_20)), (w3, .inr (2, [.ref x9, .ref x10, .ref x11, .int (nI n3), .int (nI u3)])), (x9, .inl (G.2 0, 400, .inl f3)), (x10, .inl (G.2 0, 14, .inl g3)), (x11, .inl (G.2 0, 32, .inl zz3_21)), (my0, .inr (6, [.ref my1, .ref my2, .ref my3, .ref my4, .int o1, .int oo2_25, .int oo3_26])), (my1, .inl (G.2 0, 7, .inl hh1_8)), (my2, .inl (G.2 0, 6, .inl ee2_22)), (my3, .inl (G.2 0, 7, .inl ee3_23)), (my4, .inl (G.2 0, 42, .inl ee4_24))] H _ := hw
        refine W.eq (g2 := F0 m 55 ls [.int rv_12]) rfl ?_
        refine lv_pop hx hb dX9_marksIn_55 rfl ?_
        refine lv_aload_n hx hb dX9_marksIn_56 rfl (lv_at hl 0 rfl) ?_
        refine zz_get (v := .ref my0) S hw fgX9_44 1 rfl rfl dX9_marksIn_57 ?_
        refine W.eq (g2 := F0 m 60 ls [.ref my0]) rfl ?_
        refine zz_get (v := .ref my3) S hw fgX9_135 33 rfl rfl dX9_marksIn_60 ?_
        refine lv_iload_n hx hb dX9_marksIn_63 rfl (lv_at hl 1 rfl) ?_
        refine zz_iald (v := (ee3_23 vq3)) S hw 36 rfl (vp_in_nI (n := vq3) (by omega) (by decide)) (congrArg ee3_23 (nI_clamp (n := vq3) (by omega))) dX9_marksIn_64 ?_
        exact hret _ _ _ _ _ _ ⟨(ee3_23 vq3), fcc_17, zz0_18, zz1_19, zz2_20, zz3_21, hh1_8, ee2_22, ee3_23, ee4_24, o1, oo2_25, oo3_26, ww_13, aa_14, fi2_15, sd2_16, rfl, rfl, (by first | exact zA0 (fun z => hq2_1 (by assumption) z.1) | exact zA0 (fun z => zA_lt (by assumption) (by decide) z.2) | exact zA0 (fun z => zA_g60 (by assumption) z.2) | exact zA0 (fun z => zA_60 (by assumption) z.2) | exact zA1 ⟨⟨_, by assumption, rfl⟩, ⟨_, by omega, rfl⟩⟩ ⟨_, _, by assumption, by assumption, rfl, rfl, _, _, _, _, _, _, _, _, _, _, hq28_0, hq52_3, rfl⟩), (by first | assumption | exact Or.inl rfl | exact Or.inr rfl | omega), (by first | assumption | exact Or.inl rfl | exact Or.inr rfl | omega)⟩ (hw.sub [1, 10, 11, 12, 13, 14, 15, 16, 17, 18, 19, 20, 21, 22, 23, 24, 25, 26, 27, 28, 29, 30, 31, 32, 0, 2, 3, 4, 5, 6, 33, 34, 35, 36, 37, 7, 8, 9] (by decide +kernel) rfl) rfl dX9_marksIn_65
      · skip
        refine lv_iconst (v := (-1)) hx hb dX9_marksIn_18 (by decide) ?_
        exact hret _ _ _ _ _ _ ⟨(-1), fc, z0_, z1_, z2_, z3_, mf1, mf2, mf3, mf4, mi1, mi2, mi3, wf, af, fi, sd, rfl, rfl, (by first | exact zA0 (fun z => hq2_1 (by assumption) z.1) | exact zA0 (fun z => zA_lt (by assumption) (by decide) z.2) | exact zA0 (fun z => zA_g60 (by assumption) z.2) | exact zA0 (fun z => zA_60 (by assumption) z.2) | exact zA1 ⟨⟨_, by assumption, rfl⟩, ⟨_, by omega, rfl⟩⟩ ⟨_, _, by assumption, by assumption, rfl, rfl, _, _, _, _, _, _, _, _, _, _, hq28_0, hq52_3, rfl⟩), (by first | assumption | exact Or.inl rfl | exact Or.inr rfl | omega), (by first | assumption | exact Or.inl rfl | exact Or.inr rfl | omega)⟩ (hw.sub [36, 37, 0, 1, 2, 3, 4, 5, 6, 7, 8, 9, 10, 11, 12, 13, 14, 15, 16, 17, 18, 19, 20, 21, 22, 23, 24, 25, 26, 27, 28, 29, 30, 31, 32, 33, 34, 35] (by decide +kernel) rfl) rfl dX9_marksIn_19
theorem kd_ncX9_star : kd_ck 518805012421246719497073657611392611089990458456847563822401026080574508724443640384340593949575851270243300970669937375237606826383981550607799201477072069772671742123879775670466825979796942051569952969085318256903829678030019556544153860269739980387659812348352667319949425707476641608339932387311671961346187002907 132 cX9_star.data.toList 0 = true := by decide +kernel
theorem dX9_star_0 : decode cX9_star 0 = .ok (.iload_n 1, 1) := kd_dk0 kd_o27 kd_ncX9_star rfl
theorem dX9_star_1 : decode cX9_star 1 = .ok (.iconst 1, 1) := kd_dk0 kd_o4 kd_ncX9_star rfl
theorem dX9_star_2 : decode cX9_star 2 = .ok (.if_icmp .lt 16, 3) := kd_dj2 kd_o161 (w := 16) kd_ncX9_star rfl rfl
theorem dX9_star_5 : decode cX9_star 5 = .ok (.iload_n 1, 1) := kd_dk0 kd_o27 kd_ncX9_star rfl
theorem dX9_star_6 : decode cX9_star 6 = .ok (.bipush 60, 2) := kd_dj1 kd_o16 (w := 60) kd_ncX9_star rfl rfl
theorem dX9_star_8 : decode cX9_star 8 = .ok (.if_icmp .gt 10, 3) := kd_dj2 kd_o163 (w := 10) kd_ncX9_star rfl rfl
theorem dX9_star_11 : decode cX9_star 11 = .ok (.iload_n 2, 1) := kd_dk0 kd_o28 kd_ncX9_star rfl
theorem dX9_star_12 : decode cX9_star 12 = .ok (.invokestatic 210, 3) := kd_dk2 kd_o184 kd_ncX9_star rfl
theorem dX9_star_15 : decode cX9_star 15 = .ok (.ifCond .ne 5, 3) := kd_dj2 kd_o154 (w := 5) kd_ncX9_star rfl rfl
theorem dX9_star_18 : decode cX9_star 18 = .ok (.iconst (-1), 1) := kd_dk0 kd_o2 kd_ncX9_star rfl
theorem dX9_star_19 : decode cX9_star 19 = .ok (.ireturn, 1) := kd_dk0 kd_o172 kd_ncX9_star rfl
theorem dX9_star_20 : decode cX9_star 20 = .ok (.aload_n 0, 1) := kd_dk0 kd_o42 kd_ncX9_star rfl
theorem dX9_star_21 : decode cX9_star 21 = .ok (.getfield 44, 3) := kd_dk2 kd_o180 kd_ncX9_star rfl
theorem dX9_star_24 : decode cX9_star 24 = .ok (.aload_n 0, 1) := kd_dk0 kd_o42 kd_ncX9_star rfl
theorem dX9_star_25 : decode cX9_star 25 = .ok (.getfield 40, 3) := kd_dk2 kd_o180 kd_ncX9_star rfl
theorem dX9_star_28 : decode cX9_star 28 = .ok (.invokevirtual 244, 3) := kd_dk2 kd_o182 kd_ncX9_star rfl
theorem dX9_star_31 : decode cX9_star 31 = .ok (.aload_n 0, 1) := kd_dk0 kd_o42 kd_ncX9_star rfl
theorem dX9_star_32 : decode cX9_star 32 = .ok (.getfield 50, 3) := kd_dk2 kd_o180 kd_ncX9_star rfl
theorem dX9_star_35 : decode cX9_star 35 = .ok (.aload_n 0, 1) := kd_dk0 kd_o42 kd_ncX9_star rfl
theorem dX9_star_36 : decode cX9_star 36 = .ok (.getfield 30, 3) := kd_dk2 kd_o180 kd_ncX9_star rfl
theorem dX9_star_39 : decode cX9_star 39 = .ok (.aload_n 0, 1) := kd_dk0 kd_o42 kd_ncX9_star rfl
theorem dX9_star_40 : decode cX9_star 40 = .ok (.getfield 44, 3) := kd_dk2 kd_o180 kd_ncX9_star rfl
theorem dX9_star_43 : decode cX9_star 43 = .ok (.iload_n 1, 1) := kd_dk0 kd_o27 kd_ncX9_star rfl
theorem dX9_star_44 : decode cX9_star 44 = .ok (.aload_n 0, 1) := kd_dk0 kd_o42 kd_ncX9_star rfl
theorem dX9_star_45 : decode cX9_star 45 = .ok (.getfield 30, 3) := kd_dk2 kd_o180 kd_ncX9_star rfl
theorem dX9_star_48 : decode cX9_star 48 = .ok (.getfield 190, 3) := kd_dk2 kd_o180 kd_ncX9_star rfl
theorem dX9_star_51 : decode cX9_star 51 = .ok (.iconst 0, 1) := kd_dk0 kd_o3 kd_ncX9_star rfl
theorem dX9_star_52 : decode cX9_star 52 = .ok (.invokevirtual 193, 3) := kd_dk2 kd_o182 kd_ncX9_star rfl
theorem dX9_star_55 : decode cX9_star 55 = .ok (.pop, 1) := kd_dk0 kd_o87 kd_ncX9_star rfl
theorem dX9_star_56 : decode cX9_star 56 = .ok (.bipush (-2), 2) := kd_dj1 kd_o16 (w := 254) kd_ncX9_star rfl rfl
theorem dX9_star_58 : decode cX9_star 58 = .ok (.istore_n 3, 1) := kd_dk0 kd_o62 kd_ncX9_star rfl
theorem dX9_star_59 : decode cX9_star 59 = .ok (.bipush (-2), 2) := kd_dj1 kd_o16 (w := 254) kd_ncX9_star rfl rfl
theorem dX9_star_61 : decode cX9_star 61 = .ok (.istore 4, 2) := kd_dk1 kd_o54 kd_ncX9_star rfl
theorem dX9_star_63 : decode cX9_star 63 = .ok (.iconst 0, 1) := kd_dk0 kd_o3 kd_ncX9_star rfl
theorem dX9_star_64 : decode cX9_star 64 = .ok (.istore 5, 2) := kd_dk1 kd_o54 kd_ncX9_star rfl
theorem dX9_star_66 : decode cX9_star 66 = .ok (.iload 5, 2) := kd_dk1 kd_o21 kd_ncX9_star rfl
theorem dX9_star_68 : decode cX9_star 68 = .ok (.aload_n 0, 1) := kd_dk0 kd_o42 kd_ncX9_star rfl
theorem dX9_star_69 : decode cX9_star 69 = .ok (.getfield 30, 3) := kd_dk2 kd_o180 kd_ncX9_star rfl
theorem dX9_star_72 : decode cX9_star 72 = .ok (.getfield 105, 3) := kd_dk2 kd_o180 kd_ncX9_star rfl
theorem dX9_star_75 : decode cX9_star 75 = .ok (.if_icmp .ge 46, 3) := kd_dj2 kd_o162 (w := 46) kd_ncX9_star rfl rfl
theorem dX9_star_78 : decode cX9_star 78 = .ok (.aload_n 0, 1) := kd_dk0 kd_o42 kd_ncX9_star rfl
theorem dX9_star_79 : decode cX9_star 79 = .ok (.getfield 44, 3) := kd_dk2 kd_o180 kd_ncX9_star rfl
theorem dX9_star_82 : decode cX9_star 82 = .ok (.getfield 135, 3) := kd_dk2 kd_o180 kd_ncX9_star rfl
theorem dX9_star_85 : decode cX9_star 85 = .ok (.iload 5, 2) := kd_dk1 kd_o21 kd_ncX9_star rfl
theorem dX9_star_87 : decode cX9_star 87 = .ok (.iaload, 1) := kd_dk0 kd_o46 kd_ncX9_star rfl
theorem dX9_star_88 : decode cX9_star 88 = .ok (.aload_n 0, 1) := kd_dk0 kd_o42 kd_ncX9_star rfl
theorem dX9_star_89 : decode cX9_star 89 = .ok (.getfield 40, 3) := kd_dk2 kd_o180 kd_ncX9_star rfl
theorem dX9_star_92 : decode cX9_star 92 = .ok (.getfield 135, 3) := kd_dk2 kd_o180 kd_ncX9_star rfl
theorem dX9_star_95 : decode cX9_star 95 = .ok (.iload 5, 2) := kd_dk1 kd_o21 kd_ncX9_star rfl
theorem dX9_star_97 : decode cX9_star 97 = .ok (.iaload, 1) := kd_dk0 kd_o46 kd_ncX9_star rfl
theorem dX9_star_98 : decode cX9_star 98 = .ok (.isub, 1) := kd_dk0 kd_o100 kd_ncX9_star rfl
theorem dX9_star_99 : decode cX9_star 99 = .ok (.istore 6, 2) := kd_dk1 kd_o54 kd_ncX9_star rfl
theorem dX9_star_101 : decode cX9_star 101 = .ok (.iload 6, 2) := kd_dk1 kd_o21 kd_ncX9_star rfl
theorem dX9_star_103 : decode cX9_star 103 = .ok (.iload 4, 2) := kd_dk1 kd_o21 kd_ncX9_star rfl
theorem dX9_star_105 : decode cX9_star 105 = .ok (.if_icmp .le 10, 3) := kd_dj2 kd_o164 (w := 10) kd_ncX9_star rfl rfl
theorem dX9_star_108 : decode cX9_star 108 = .ok (.iload 6, 2) := kd_dk1 kd_o21 kd_ncX9_star rfl
theorem dX9_star_110 : decode cX9_star 110 = .ok (.istore 4, 2) := kd_dk1 kd_o54 kd_ncX9_star rfl
theorem dX9_star_112 : decode cX9_star 112 = .ok (.iload 5, 2) := kd_dk1 kd_o21 kd_ncX9_star rfl
theorem dX9_star_114 : decode cX9_star 114 = .ok (.istore_n 3, 1) := kd_dk0 kd_o62 kd_ncX9_star rfl
theorem dX9_star_115 : decode cX9_star 115 = .ok (.iinc 5 1, 3) := kd_dji kd_o132 (w := 1) kd_ncX9_star rfl rfl
theorem dX9_star_118 : decode cX9_star 118 = .ok (.goto (-52), 3) := kd_dj2 kd_o167 (w := 65484) kd_ncX9_star rfl rfl
theorem dX9_star_121 : decode cX9_star 121 = .ok (.iload_n 2, 1) := kd_dk0 kd_o28 kd_ncX9_star rfl
theorem dX9_star_122 : decode cX9_star 122 = .ok (.ifCond .ne 7, 3) := kd_dj2 kd_o154 (w := 7) kd_ncX9_star rfl rfl
theorem dX9_star_125 : decode cX9_star 125 = .ok (.iload_n 3, 1) := kd_dk0 kd_o29 kd_ncX9_star rfl
theorem dX9_star_126 : decode cX9_star 126 = .ok (.goto 5, 3) := kd_dj2 kd_o167 (w := 5) kd_ncX9_star rfl rfl
theorem dX9_star_129 : decode cX9_star 129 = .ok (.iload 4, 2) := kd_dk1 kd_o21 kd_ncX9_star rfl
theorem dX9_star_131 : decode cX9_star 131 = .ok (.ireturn, 1) := kd_dk0 kd_o172 kd_ncX9_star rfl
set_option maxHeartbeats 8000000 in
set_option maxRecDepth 100000 in
theorem c_g_star (l : Launch) (G : zz_G) (ob0 : Nat) (ut : Nat) (uf1 : Int32) (h1 : Nat) (uf3 : Int32) (sc : Nat) (dr0 : Nat) (k0 : Nat) (my0 : Nat) (c0 : Nat) (ga : Nat) (pa0 : Nat) (t0 : Nat) (sl0 : Nat) (hd0 : Nat) (s1 : Nat) (s2 : Nat) (s3 : Nat) (s4 : Nat) (s5 : Nat) (s6 : Nat) (s7 : Nat) (s8 : Nat) (s9 : Nat) (w0 : Nat) (w1 : Nat) (w2 : Nat) (w3 : Nat) (x0 : Nat) (x1 : Nat) (x2 : Nat) (x3 : Nat) (x4 : Nat) (x5 : Nat) (x6 : Nat) (x7 : Nat) (x8 : Nat) (x9 : Nat) (x10 : Nat) (x11 : Nat) (pp : Nat) (pq : Nat) (i3 : Int32) (i4 : Int32) (m3 : Nat → Int32) (m4 : Nat → Int32) (m6 : Nat → Int32) (m7 : Nat → Int32) (fc : Nat → Int32) (f0 : Nat → Int32) (g0 : Nat → Int32) (n0 : Nat) (u0 : Nat) (z0_ : Nat → Int32) (f1 : Nat → Int32) (g1 : Nat → Int32) (n1 : Nat) (u1 : Nat) (z1_ : Nat → Int32) (f2 : Nat → Int32) (g2 : Nat → Int32) (n2 : Nat) (u2 : Nat) (z2_ : Nat → Int32) (f3 : Nat → Int32) (g3 : Nat → Int32) (n3 : Nat) (u3 : Nat) (z3_ : Nat → Int32) (m5 : Nat → Int32) (b1 : Nat) (b2 : Nat) (b3 : Nat) (b4 : Nat) (e1 : Nat → Int32) (e2 : Nat → Int32) (e3 : Nat → Int32) (e4 : Nat → Int32) (o1 : Int32) (o2 : Int32) (o3 : Int32) (my1 : Nat) (my2 : Nat) (my3 : Nat) (my4 : Nat) (mf1 : Nat → Int32) (mf2 : Nat → Int32) (mf3 : Nat → Int32) (mf4 : Nat → Int32) (mi1 : Int32) (mi2 : Int32) (mi3 : Int32) (a1 : Nat) (a2 : Nat) (wf : Nat → Int32) (af : Nat → Int32) (fi : Int32) (sd : Int32) (ar1 : Int32) (ar2 : Int32) (hv0 : zz_lwv f0 g0 n0 u0) (hv1 : zz_lwv f1 g1 n1 u1) (hv2 : zz_lwv f2 g2 n2 u2) (hv3 : zz_lwv f3 g3 n3 u3) (hpp : pp ≤ 7) (hpq : pq ≤ 6) (hw6 : ∀ j, j < 6 → zz_ok 7 (wf j)) (ha7 : ∀ j, j < 7 → zz_ok 6 (af j)) : zz_M l G mX9_star 7 0 0 [.ref ob0, .int ar1, .int ar2] [(ob0, .inr (9, [.ref ut, .int uf1, .ref h1, .int uf3, .ref sc, .ref dr0, .ref k0, .ref my0, .ref c0, .ref ga, .ref pa0, .ref t0, .ref sl0, .ref hd0])), (sc, .inr (5, [.ref s1, .ref s2, .ref s3, .ref s4, .ref s5, .ref s6, .ref s7, .ref s8, .ref s9, .int (nI pp), .int (nI pq), .int i3, .int i4])), (s3, .inl (G.2 0, 7, .inl m3)), (s4, .inl (G.2 0, 7, .inl m4)), (s6, .inl (G.2 0, 6, .inl m6)), (s7, .inl (G.2 0, 6, .inl m7)), (s9, .inl (G.2 0, 9, .inl fc)), (s8, .inl (G.2 4, 4, .inr (.inr (.inr (.inr (va_up (va_up (va_up (va_up (fun _ => none) 0 (some w0)) 1 (some w1)) 2 (some w2)) 3 (some w3))))))), (w0, .inr (2, [.ref x0, .ref x1, .ref x2, .int (nI n0), .int (nI u0)])), (x0, .inl (G.2 0, 400, .inl f0)), (x1, .inl (G.2 0, 14, .inl g0)), (x2, .inl (G.2 0, 32, .inl z0_)), (w1, .inr (2, [.ref x3, .ref x4, .ref x5, .int (nI n1), .int (nI u1)])), (x3, .inl (G.2 0, 400, .inl f1)), (x4, .inl (G.2 0, 14, .inl g1)), (x5, .inl (G.2 0, 32, .inl z1_)), (w2, .inr (2, [.ref x6, .ref x7, .ref x8, .int (nI n2), .int (nI u2)])), (x6, .inl (G.2 0, 400, .inl f2)), (x7, .inl (G.2 0, 14, .inl g2)), (x8, .inl (G.2 0, 32, .inl z2_)), (w3, .inr (2, [.ref x9, .ref x10, .ref x11, .int (nI n3), .int (nI u3)])), (x9, .inl (G.2 0, 400, .inl f3)), (x10, .inl (G.2 0, 14, .inl g3)), (x11, .inl (G.2 0, 32, .inl z3_)), (s5, .inl (G.2 0, 6, .inl m5)), (k0, .inr (6, [.ref b1, .ref b2, .ref b3, .ref b4, .int o1, .int o2, .int o3])), (b1, .inl (G.2 0, 7, .inl e1)), (b2, .inl (G.2 0, 6, .inl e2)), (b3, .inl (G.2 0, 7, .inl e3)), (b4, .inl (G.2 0, 42, .inl e4)), (my0, .inr (6, [.ref my1, .ref my2, .ref my3, .ref my4, .int mi1, .int mi2, .int mi3])), (my1, .inl (G.2 0, 7, .inl mf1)), (my2, .inl (G.2 0, 6, .inl mf2)), (my3, .inl (G.2 0, 7, .inl mf3)), (my4, .inl (G.2 0, 42, .inl mf4)), (c0, .inr (0, [.ref a1, .ref a2, .int fi, .int sd])), (a1, .inl (G.2 0, 6, .inl wf)), (a2, .inl (G.2 0, 7, .inl af))] (fun rr u => ∃ (rv : Int32), ∃ (fcc : Nat → Int32), ∃ (zz0 : Nat → Int32), ∃ (zz1 : Nat → Int32), ∃ (zz2 : Nat → Int32), ∃ (zz3 : Nat → Int32), ∃ (nf1 : Nat → Int32), ∃ (nf2 : Nat → Int32), ∃ (nf3 : Nat → Int32), ∃ (nf4 : Nat → Int32), ∃ (ni1 : Int32), ∃ (ni2 : Int32), ∃ (ni3 : Int32), ∃ (ww : Nat → Int32), ∃ (aa : Nat → Int32), ∃ (fi2 : Int32), ∃ (sd2 : Int32), rr = some (.int rv) ∧ u = [(ob0, .inr (9, [.ref ut, .int uf1, .ref h1, .int uf3, .ref sc, .ref dr0, .ref k0, .ref my0, .ref c0, .ref ga, .ref pa0, .ref t0, .ref sl0, .ref hd0])), (sc, .inr (5, [.ref s1, .ref s2, .ref s3, .ref s4, .ref s5, .ref s6, .ref s7, .ref s8, .ref s9, .int (nI pp), .int (nI pq), .int i3, .int i4])), (s3, .inl (G.2 0, 7, .inl m3)), (s4, .inl (G.2 0, 7, .inl m4)), (s6, .inl (G.2 0, 6, .inl m6)), (s7, .inl (G.2 0, 6, .inl m7)), (s9, .inl (G.2 0, 9, .inl fcc)), (s8, .inl (G.2 4, 4, .inr (.inr (.inr (.inr (va_up (va_up (va_up (va_up (fun _ => none) 0 (some w0)) 1 (some w1)) 2 (some w2)) 3 (some w3))))))), (w0, .inr (2, [.ref x0, .ref x1, .ref x2, .int (nI n0), .int (nI u0)])), (x0, .inl (G.2 0, 400, .inl f0)), (x1, .inl (G.2 0, 14, .inl g0)), (x2, .inl (G.2 0, 32, .inl zz0)), (w1, .inr (2, [.ref x3, .ref x4, .ref x5, .int (nI n1), .int (nI u1)])), (x3, .inl (G.2 0, 400, .inl f1)), (x4, .inl (G.2 0, 14, .inl g1)), (x5, .inl (G.2 0, 32, .inl zz1)), (w2, .inr (2, [.ref x6, .ref x7, .ref x8, .int (nI n2), .int (nI u2)])), (x6, .inl (G.2 0, 400, .inl f2)), (x7, .inl (G.2 0, 14, .inl g2)), (x8, .inl (G.2 0, 32, .inl zz2)), (w3, .inr (2, [.ref x9, .ref x10, .ref x11, .int (nI n3), .int (nI u3)])), (x9, .inl (G.2 0, 400, .inl f3)), (x10, .inl (G.2 0, 14, .inl g3)), (x11, .inl (G.2 0, 32, .inl zz3)), (s5, .inl (G.2 0, 6, .inl m5)), (k0, .inr (6, [.ref b1, .ref b2, .ref b3, .ref b4, .int o1, .int o2, .int o3])), (b1, .inl (G.2 0, 7, .inl e1)), (b2, .inl (G.2 0, 6, .inl e2)), (b3, .inl (G.2 0, 7, .inl e3)), (b4, .inl (G.2 0, 42, .inl e4)), (my0, .inr (6, [.ref my1, .ref my2, .ref my3, .ref my4, .int ni1, .int ni2, .int ni3])), (my1, .inl (G.2 0, 7, .inl nf1)), (my2, .inl (G.2 0, 6, .inl nf2)), (my3, .inl (G.2 0, 7, .inl nf3)), (my4, .inl (G.2 0, 42, .inl nf4)), (c0, .inr (0, [.ref a1, .ref a2, .int fi2, .int sd2])), (a1, .inl (G.2 0, 6, .inl ww)), (a2, .inl (G.2 0, 7, .inl aa))] ∧ (zA ((zz_In 61 ar1 ∧ ¬ ar1 = 0) ∧ zz_In 2 ar2) (∃ k : Nat, k ≤ 60 ∧ ar1 = nI k ∧ zA_D f0 g0 n0 u0 f1 g1 n1 u1 f2 g2 n2 u2 f3 g3 n3 u3 e1 e2 e3 e4 o1 o2 o3 m3 m6 m4 m7 i3 pp pq i4 (¬ (0 : Int32) = 0) k (fun h1 E2 E3 E4 O2 O3 => rv = zP ar2 (zB (-2, -2) (fun a => E3 a - e3 a) pp))) rv (-1)) ∧ (∀ j, j < 6 → zz_ok 7 (ww j)) ∧ (∀ j, j < 7 → zz_ok 6 (aa j))) := by
  refine zz_enteri (by decide +kernel) (Nat.le_of_ble_eq_true rfl) ?_
  intro p e s m args below meth c A Q ls S hnm hret hw hl
  have hl : lv_has ls 7 [(0, .ref ob0), (1, .int ar1), (2, .int ar2)] := hl
  have hx := S.1
  have hb := S.2.1
  refine lv_iload_n hx hb dX9_star_0 rfl (lv_at hl 1 rfl) ?_
  refine lv_iconst (v := 1) hx hb dX9_star_1 (by decide) ?_
  refine lv_icmp_lt (tgt := 18) hx hb dX9_star_2 (by decide) (fun c2_1 => ?_) (fun c2_1 => ?_)
  · skip
    refine lv_iconst (v := (-1)) hx hb dX9_star_18 (by decide) ?_
    exact hret _ _ _ _ _ _ ⟨(-1), fc, z0_, z1_, z2_, z3_, mf1, mf2, mf3, mf4, mi1, mi2, mi3, wf, af, fi, sd, rfl, rfl, (by first | exact zA0 (fun z => zA_1n (by assumption) z.1) | exact zA0 (fun z => zA_lt (by assumption) (by decide) z.1.1) | exact zA0 (fun z => zA_g60 (by assumption) z.1.1) | exact zA0 (fun z => zA_60 (by assumption) z.1.1) | exact zA0 (fun z => zA_Tn hq12_1 (by assumption) z.2) | exact zA1 ⟨zA_1y (by assumption) (by assumption), zA_Ti hq12_1 (by assumption)⟩ ⟨_, by assumption, rfl, _, _, _, _, _, _, _, _, _, _, hq28_0, hq52_3, zP_0 (zB_e hdry (by omega)) (by assumption)⟩ | exact zA1 ⟨zA_1y (by assumption) (by assumption), zA_Ti hq12_1 (by assumption)⟩ ⟨_, by assumption, rfl, _, _, _, _, _, _, _, _, _, _, hq28_0, hq52_3, zP_1 (zB_e hdry (by omega)) (by assumption)⟩), (by first | assumption | exact Or.inl rfl | exact Or.inr rfl | omega), (by first | assumption | exact Or.inl rfl | exact Or.inr rfl | omega)⟩ hw rfl dX9_star_19
  · skip
    have hlo2 : ¬ ar1 < 0 := zz_lo1 c2_1
    refine lv_iload_n hx hb dX9_star_5 rfl (lv_at hl 1 rfl) ?_
    refine lv_bipush (v := 60) hx hb dX9_star_6 (by decide) ?_
    refine lv_icmp_gt (tgt := 18) hx hb dX9_star_8 (by decide) (fun c8_3 => ?_) (fun c8_3 => ?_)
    · skip
      refine lv_iconst (v := (-1)) hx hb dX9_star_18 (by decide) ?_
      exact hret _ _ _ _ _ _ ⟨(-1), fc, z0_, z1_, z2_, z3_, mf1, mf2, mf3, mf4, mi1, mi2, mi3, wf, af, fi, sd, rfl, rfl, (by first | exact zA0 (fun z => zA_1n (by assumption) z.1) | exact zA0 (fun z => zA_lt (by assumption) (by decide) z.1.1) | exact zA0 (fun z => zA_g60 (by assumption) z.1.1) | exact zA0 (fun z => zA_60 (by assumption) z.1.1) | exact zA0 (fun z => zA_Tn hq12_1 (by assumption) z.2) | exact zA1 ⟨zA_1y (by assumption) (by assumption), zA_Ti hq12_1 (by assumption)⟩ ⟨_, by assumption, rfl, _, _, _, _, _, _, _, _, _, _, hq28_0, hq52_3, zP_0 (zB_e hdry (by omega)) (by assumption)⟩ | exact zA1 ⟨zA_1y (by assumption) (by assumption), zA_Ti hq12_1 (by assumption)⟩ ⟨_, by assumption, rfl, _, _, _, _, _, _, _, _, _, _, hq28_0, hq52_3, zP_1 (zB_e hdry (by omega)) (by assumption)⟩), (by first | assumption | exact Or.inl rfl | exact Or.inr rfl | omega), (by first | assumption | exact Or.inl rfl | exact Or.inr rfl | omega)⟩ hw rfl dX9_star_19
    · skip
      obtain ⟨vq4, hvq4, rfl⟩ : ∃ k : Nat, k ≤ 60 ∧ ar1 = nI k := zz_rng hlo2 (c8_3) (by decide)
      refine lv_iload_n hx hb dX9_star_11 rfl (lv_at hl 2 rfl) ?_
      refine zz_callS (As := [.int ar2]) (rest := []) (wr := [(ob0, .inr (9, [.ref ut, .int uf1, .ref h1, .int uf3, .ref sc, .ref dr0, .ref k0, .ref my0, .ref c0, .ref ga, .ref pa0, .ref t0, .ref sl0, .ref hd0])), (sc, .inr (5, [.ref s1, .ref s2, .ref s3, .ref s4, .ref s5, .ref s6, .ref s7, .ref s8, .ref s9, .int (nI pp), .int (nI pq), .int i3, .int i4])), (s3, .inl (G.2 0, 7, .inl m3)), (s4, .inl (G.2 0, 7, .inl m4)), (s6, .inl (G.2 0, 6, .inl m6)), (s7, .inl (G.2 0, 6, .inl m7)), (s9, .inl (G.2 0, 9, .inl fc)), (s8, .inl (G.2 4, 4, .inr (.inr (.inr (.inr (va_up (va_up (va_up (va_up (fun _ => none) 0 (some w0)) 1 (some w1)) 2 (some w2)) 3 (some w3))))))), (w0, .inr (2, [.ref x0, .ref x1, .ref x2, .int (nI n0), .int (nI u0)])), (x0, .inl (G.2 0, 400, .inl f0)), (x1, .inl (G.2 0, 14, .inl g0)), (x2, .inl (G.2 0, 32, .inl z0_)), (w1, .inr (2, [.ref x3, .ref x4, .ref x5, .int (nI n1), .int (nI u1)])), (x3, .inl (G.2 0, 400, .inl f1)), (x4, .inl (G.2 0, 14, .inl g1)), (x5, .inl (G.2 0, 32, .inl z1_)), (w2, .inr (2, [.ref x6, .ref x7, .ref x8, .int (nI n2), .int (nI u2)])), (x6, .inl (G.2 0, 400, .inl f2)), (x7, .inl (G.2 0, 14, .inl g2)), (x8, .inl (G.2 0, 32, .inl z2_)), (w3, .inr (2, [.ref x9, .ref x10, .ref x11, .int (nI n3), .int (nI u3)])), (x9, .inl (G.2 0, 400, .inl f3)), (x10, .inl (G.2 0, 14, .inl g3)), (x11, .inl (G.2 0, 32, .inl z3_)), (s5, .inl (G.2 0, 6, .inl m5)), (k0, .inr (6, [.ref b1, .ref b2, .ref b3, .ref b4, .int o1, .int o2, .int o3])), (b1, .inl (G.2 0, 7, .inl e1)), (b2, .inl (G.2 0, 6, .inl e2)), (b3, .inl (G.2 0, 7, .inl e3)), (b4, .inl (G.2 0, 42, .inl e4)), (my0, .inr (6, [.ref my1, .ref my2, .ref my3, .ref my4, .int mi1, .int mi2, .int mi3])), (my1, .inl (G.2 0, 7, .inl mf1)), (my2, .inl (G.2 0, 6, .inl mf2)), (my3, .inl (G.2 0, 7, .inl mf3)), (my4, .inl (G.2 0, 42, .inl mf4)), (c0, .inr (0, [.ref a1, .ref a2, .int fi, .int sd])), (a1, .inl (G.2 0, 6, .inl wf)), (a2, .inl (G.2 0, 7, .inl af))]) S hw hl.1 lX9_210 (c_g_isOneOfTwo l G ar2) ⟨Nat.le_of_ble_eq_true rfl, Nat.le_of_ble_eq_true rfl⟩ ⟨Nat.le_of_ble_eq_true rfl, Nat.le_of_ble_eq_true rfl⟩ [] [0, 1, 2, 3, 4, 5, 6, 7, 8, 9, 10, 11, 12, 13, 14, 15, 16, 17, 18, 19, 20, 21, 22, 23, 24, 25, 26, 27, 28, 29, 30, 31, 32, 33, 34, 35, 36, 37] (by decide +kernel) rfl rfl (by decide +kernel) (by decide +kernel) rfl rfl (Nat.le_of_ble_eq_true rfl) dX9_star_12 ?_
      clear hw
      intro rr u H locs hp hw
      refine hp.elim fun rv_5 zg0 => zg0.elim fun zee1 zg1 => zg1.elim fun zee2 zg2 => zg2.elim fun hq12_0 hq12_1 => ?_
      clear hp zg0 zg1 zg2
      subst zee1
      subst zee2
      replace hw : zz_w G A s [(ob0, .inr (9, [.ref ut, .int uf1, .ref h1, .int uf3, .ref sc, .ref dr0, .ref k0, .ref my0, .ref c0, .ref ga, .ref pa0, .ref t0, .ref sl0, .ref hd0])), (sc, .inr (5, [.ref s1, .ref s2, .ref s3, .ref s4, .ref s5, .ref s6, .ref s7, .ref s8, .ref s9, .int (nI pp), .int (nI pq), .int i3, .int i4])), (s3, .inl (G.2 0, 7, .inl m3)), (s4, .inl (G.2 0, 7, .inl m4)), (s6, .inl (G.2 0, 6, .inl m6)), (s7, .inl (G.2 0, 6, .inl m7)), (s9, .inl (G.2 0, 9, .inl fc)), (s8, .inl (G.2 4, 4, .inr (.inr (.inr (.inr (va_up (va_up (va_up (va_up (fun _ => none) 0 (some w0)) 1 (some w1)) 2 (some w2)) 3 (some w3))))))), (w0, .inr (2, [.ref x0, .ref x1, .ref x2, .int (nI n0), .int (nI u0)])), (x0, .inl (G.2 0, 400, .inl f0)), (x1, .inl (G.2 0, 14, .inl g0)), (x2, .inl (G.2 0, 32, .inl z0_)), (w1, .inr (2, [.ref x3, .ref x4, .ref x5, .int (nI n1), .int (nI u1)])), (x3, .inl (G.2 0, 400, .inl f1)), (x4, .inl (G.2 0, 14, .inl g1)), (x5, .inl (G.2 0, 32, .inl z1_)), (w2, .inr (2, [.ref x6, .ref x7, .ref x8, .int (nI n2), .int (nI u2)])), (x6, .inl (G.2 0, 400, .inl f2)), (x7, .inl (G.2 0, 14, .inl g2)), (x8, .inl (G.2 0, 32, .inl z2_)), (w3, .inr (2, [.ref x9, .ref x10, .ref x11, .int (nI n3), .int (nI u3)])), (x9, .inl (G.2 0, 400, .inl f3)), (x10, .inl (G.2 0, 14, .inl g3)), (x11, .inl (G.2 0, 32, .inl z3_)), (s5, .inl (G.2 0, 6, .inl m5)), (k0, .inr (6, [.ref b1, .ref b2, .ref b3, .ref b4, .int o1, .int o2, .int o3])), (b1, .inl (G.2 0, 7, .inl e1)), (b2, .inl (G.2 0, 6, .inl e2)), (b3, .inl (G.2 0, 7, .inl e3)), (b4, .inl (G.2 0, 42, .inl e4)), (my0, .inr (6, [.ref my1, .ref my2, .ref my3, .ref my4, .int mi1, .int mi2, .int mi3])), (my1, .inl (G.2 0, 7, .inl mf1)), (my2, .inl (G.2 0, 6, .inl mf2)), (my3, .inl (G.2 0, 7, .inl mf3)), (my4, .inl (G.2 0, 42, .inl mf4)), (c0, .inr (0, [.ref a1, .ref a2, .int fi, .int sd])), (a1, .inl (G.2 0, 6, .inl wf)), (a2, .inl (G.2 0, 7, .inl af))] H _ := hw
      refine W.eq (g2 := F0 m 15 ls [.int rv_5]) rfl ?_
      refine lv_if_ne (tgt := 20) hx hb dX9_star_15 (by decide) (fun c15_6 => ?_) (fun c15_6 => ?_)
      · skip
        refine lv_aload_n hx hb dX9_star_20 rfl (lv_at hl 0 rfl) ?_
        refine zz_get (v := .ref my0) S hw fgX9_44 0 rfl rfl dX9_star_21 ?_
        refine lv_aload_n hx hb dX9_star_24 rfl (lv_at hl 0 rfl) ?_
        refine zz_get (v := .ref k0) S hw fgX9_40 0 rfl rfl dX9_star_25 ?_
        refine zz_callV (qb := 30) (As := [.ref k0]) (rest := []) (wr := [(ob0, .inr (9, [.ref ut, .int uf1, .ref h1, .int uf3, .ref sc, .ref dr0, .ref k0, .ref my0, .ref c0, .ref ga, .ref pa0, .ref t0, .ref sl0, .ref hd0])), (sc, .inr (5, [.ref s1, .ref s2, .ref s3, .ref s4, .ref s5, .ref s6, .ref s7, .ref s8, .ref s9, .int (nI pp), .int (nI pq), .int i3, .int i4])), (s3, .inl (G.2 0, 7, .inl m3)), (s4, .inl (G.2 0, 7, .inl m4)), (s6, .inl (G.2 0, 6, .inl m6)), (s7, .inl (G.2 0, 6, .inl m7)), (s9, .inl (G.2 0, 9, .inl fc)), (s8, .inl (G.2 4, 4, .inr (.inr (.inr (.inr (va_up (va_up (va_up (va_up (fun _ => none) 0 (some w0)) 1 (some w1)) 2 (some w2)) 3 (some w3))))))), (w0, .inr (2, [.ref x0, .ref x1, .ref x2, .int (nI n0), .int (nI u0)])), (x0, .inl (G.2 0, 400, .inl f0)), (x1, .inl (G.2 0, 14, .inl g0)), (x2, .inl (G.2 0, 32, .inl z0_)), (w1, .inr (2, [.ref x3, .ref x4, .ref x5, .int (nI n1), .int (nI u1)])), (x3, .inl (G.2 0, 400, .inl f1)), (x4, .inl (G.2 0, 14, .inl g1)), (x5, .inl (G.2 0, 32, .inl z1_)), (w2, .inr (2, [.ref x6, .ref x7, .ref x8, .int (nI n2), .int (nI u2)])), (x6, .inl (G.2 0, 400, .inl f2)), (x7, .inl (G.2 0, 14, .inl g2)), (x8, .inl (G.2 0, 32, .inl z2_)), (w3, .inr (2, [.ref x9, .ref x10, .ref x11, .int (nI n3), .int (nI u3)])), (x9, .inl (G.2 0, 400, .inl f3)), (x10, .inl (G.2 0, 14, .inl g3)), (x11, .inl (G.2 0, 32, .inl z3_)), (s5, .inl (G.2 0, 6, .inl m5)), (c0, .inr (0, [.ref a1, .ref a2, .int fi, .int sd])), (a1, .inl (G.2 0, 6, .inl wf)), (a2, .inl (G.2 0, 7, .inl af))]) S hw hl.1 lX9_244 (c_gcopyFrom l G my0 my1 my2 my3 my4 mf1 mf2 mf3 mf4 mi1 mi2 mi3 k0 b1 b2 b3 b4 e1 e2 e3 e4 o1 o2 o3) ⟨Nat.le_of_ble_eq_true rfl, Nat.le_of_ble_eq_true rfl⟩ ⟨Nat.le_of_ble_eq_true rfl, Nat.le_of_ble_eq_true rfl⟩ [30, 31, 32, 33, 34, 25, 26, 27, 28, 29] [0, 1, 2, 3, 4, 5, 6, 7, 8, 9, 10, 11, 12, 13, 14, 15, 16, 17, 18, 19, 20, 21, 22, 23, 24, 35, 36, 37] (by decide +kernel) rfl rfl (by decide +kernel) (by decide +kernel) rfl rfl rfl rfl (Nat.le_of_ble_eq_true rfl) dX9_star_28 ?_
        clear hw
        intro rr u H locs hp hw
        refine hp.elim fun hh1_7 zg0 => zg0.elim fun hh2_8 zg1 => zg1.elim fun hh3_9 zg2 => zg2.elim fun hh4_10 zg3 => zg3.elim fun zee1 zg4 => zg4.elim fun zee2 hq28_0 => ?_
        clear hp zg0 zg1 zg2 zg3 zg4
        subst zee1
        subst zee2
        replace hw : zz_w G A s [(ob0, .inr (9, [.ref ut, .int uf1, .ref h1, .int uf3, .ref sc, .ref dr0, .ref k0, .ref my0, .ref c0, .ref ga, .ref pa0, .ref t0, .ref sl0, .ref hd0])), (sc, .inr (5, [.ref s1, .ref s2, .ref s3, .ref s4, .ref s5, .ref s6, .ref s7, .ref s8, .ref s9, .int (nI pp), .int (nI pq), .int i3, .int i4])), (s3, .inl (G.2 0, 7, .inl m3)), (s4, .inl (G.2 0, 7, .inl m4)), (s6, .inl (G.2 0, 6, .inl m6)), (s7, .inl (G.2 0, 6, .inl m7)), (s9, .inl (G.2 0, 9, .inl fc)), (s8, .inl (G.2 4, 4, .inr (.inr (.inr (.inr (va_up (va_up (va_up (va_up (fun _ => none) 0 (some w0)) 1 (some w1)) 2 (some w2)) 3 (some w3))))))), (w0, .inr (2, [.ref x0, .ref x1, .ref x2, .int (nI n0), .int (nI u0)])), (x0, .inl (G.2 0, 400, .inl f0)), (x1, .inl (G.2 0, 14, .inl g0)), (x2, .inl (G.2 0, 32, .inl z0_)), (w1, .inr (2, [.ref x3, .ref x4, .ref x5, .int (nI n1), .int (nI u1)])), (x3, .inl (G.2 0, 400, .inl f1)), (x4, .inl (G.2 0, 14, .inl g1)), (x5, .inl (G.2 0, 32, .inl z1_)), (w2, .inr (2, [.ref x6, .ref x7, .ref x8, .int (nI n2), .int (nI u2)])), (x6, .inl (G.2 0, 400, .inl f2)), (x7, .inl (G.2 0, 14, .inl g2)), (x8, .inl (G.2 0, 32, .inl z2_)), (w3, .inr (2, [.ref x9, .ref x10, .ref x11, .int (nI n3), .int (nI u3)])), (x9, .inl (G.2 0, 400, .inl f3)), (x10, .inl (G.2 0, 14, .inl g3)), (x11, .inl (G.2 0, 32, .inl z3_)), (s5, .inl (G.2 0, 6, .inl m5)), (c0, .inr (0, [.ref a1, .ref a2, .int fi, .int sd])), (a1, .inl (G.2 0, 6, .inl wf)), (a2, .inl (G.2 0, 7, .inl af)), (my0, .inr (6, [.ref my1, .ref my2, .ref my3, .ref my4, .int o1, .int o2, .int o3])), (my1, .inl (G.2 0, 7, .inl hh1_7)), (my2, .inl (G.2 0, 6, .inl hh2_8)), (my3, .inl (G.2 0, 7, .inl hh3_9)), (my4, .inl (G.2 0, 42, .inl hh4_10)), (k0, .inr (6, [.ref b1, .ref b2, .ref b3, .ref b4, .int o1, .int o2, .int o3])), (b1, .inl (G.2 0, 7, .inl e1)), (b2, .inl (G.2 0, 6, .inl e2)), (b3, .inl (G.2 0, 7, .inl e3)), (b4, .inl (G.2 0, 42, .inl e4))] H _ := hw
        refine W.eq (g2 := F0 m 31 ls []) rfl ?_
        refine lv_aload_n hx hb dX9_star_31 rfl (lv_at hl 0 rfl) ?_
        refine W.eq (g2 := F0 m 32 ls [.ref ob0]) rfl ?_
        refine zz_get (v := .ref c0) S hw fgX9_50 0 rfl rfl dX9_star_32 ?_
        refine lv_aload_n hx hb dX9_star_35 rfl (lv_at hl 0 rfl) ?_
        refine zz_get (v := .ref sc) S hw fgX9_30 0 rfl rfl dX9_star_36 ?_
        refine lv_aload_n hx hb dX9_star_39 rfl (lv_at hl 0 rfl) ?_
        refine zz_get (v := .ref my0) S hw fgX9_44 0 rfl rfl dX9_star_40 ?_
        refine lv_iload_n hx hb dX9_star_43 rfl (lv_at hl 1 rfl) ?_
        refine lv_aload_n hx hb dX9_star_44 rfl (lv_at hl 0 rfl) ?_
        refine zz_get (v := .ref sc) S hw fgX9_30 0 rfl rfl dX9_star_45 ?_
        refine zz_get (v := .int i4) S hw fgX9_190 1 rfl rfl dX9_star_48 ?_
        refine lv_iconst (v := 0) hx hb dX9_star_51 (by decide) ?_
        refine zz_callV (qb := 25) (As := [.ref sc, .ref my0, .int (nI vq4), .int i4, .int 0]) (rest := []) (wr := [(ob0, .inr (9, [.ref ut, .int uf1, .ref h1, .int uf3, .ref sc, .ref dr0, .ref k0, .ref my0, .ref c0, .ref ga, .ref pa0, .ref t0, .ref sl0, .ref hd0])), (s5, .inl (G.2 0, 6, .inl m5)), (k0, .inr (6, [.ref b1, .ref b2, .ref b3, .ref b4, .int o1, .int o2, .int o3])), (b1, .inl (G.2 0, 7, .inl e1)), (b2, .inl (G.2 0, 6, .inl e2)), (b3, .inl (G.2 0, 7, .inl e3)), (b4, .inl (G.2 0, 42, .inl e4))]) S hw hl.1 lX9_193 (c_gpassDays l G c0 a1 a2 wf af fi sd sc s1 s2 s3 s4 s5 s6 s7 s8 s9 w0 w1 w2 w3 x0 x1 x2 x3 x4 x5 x6 x7 x8 x9 x10 x11 pp pq i3 i4 m3 m4 m6 m7 fc f0 g0 n0 u0 z0_ f1 g1 n1 u1 z1_ f2 g2 n2 u2 z2_ f3 g3 n3 u3 z3_ my0 my1 my2 my3 my4 hh1_7 hh2_8 hh3_9 hh4_10 o1 o2 o3 vq4 i4 0 (by first | assumption | omega | exact Or.inr ⟨_, by omega, rfl⟩ | (unfold zz_sok; decide) | decide | exact (fun j hj => (hv7 j hj).1)) (by first | assumption | omega | exact Or.inr ⟨_, by omega, rfl⟩ | (unfold zz_sok; decide) | decide | exact (fun j hj => (hv7 j hj).1)) (by first | assumption | omega | exact Or.inr ⟨_, by omega, rfl⟩ | (unfold zz_sok; decide) | decide | exact (fun j hj => (hv7 j hj).1)) (by first | assumption | omega | exact Or.inr ⟨_, by omega, rfl⟩ | (unfold zz_sok; decide) | decide | exact (fun j hj => (hv7 j hj).1)) (by first | assumption | omega | exact Or.inr ⟨_, by omega, rfl⟩ | (unfold zz_sok; decide) | decide | exact (fun j hj => (hv7 j hj).1)) (by first | assumption | omega | exact Or.inr ⟨_, by omega, rfl⟩ | (unfold zz_sok; decide) | decide | exact (fun j hj => (hv7 j hj).1)) (by first | assumption | omega | exact Or.inr ⟨_, by omega, rfl⟩ | (unfold zz_sok; decide) | decide | exact (fun j hj => (hv7 j hj).1)) (by first | assumption | omega | exact Or.inr ⟨_, by omega, rfl⟩ | (unfold zz_sok; decide) | decide | exact (fun j hj => (hv7 j hj).1)) (by first | assumption | omega | exact Or.inr ⟨_, by omega, rfl⟩ | (unfold zz_sok; decide) | decide | exact (fun j hj => (hv7 j hj).1))) ⟨Nat.le_of_ble_eq_true rfl, Nat.le_of_ble_eq_true rfl⟩ ⟨Nat.le_of_ble_eq_true rfl, Nat.le_of_ble_eq_true rfl⟩ [25, 26, 27, 1, 2, 3, 4, 5, 6, 7, 8, 9, 10, 11, 12, 13, 14, 15, 16, 17, 18, 19, 20, 21, 22, 23, 28, 29, 30, 31, 32] [0, 24, 33, 34, 35, 36, 37] (by decide +kernel) rfl rfl (by decide +kernel) (by decide +kernel) rfl rfl rfl rfl (Nat.le_of_ble_eq_true rfl) dX9_star_52 ?_
        clear hw
        intro rr u H locs hp hw
        refine hp.elim fun rv_11 zg0 => zg0.elim fun ww_12 zg1 => zg1.elim fun aa_13 zg2 => zg2.elim fun fi2_14 zg3 => zg3.elim fun sd2_15 zg4 => zg4.elim fun fcc_16 zg5 => zg5.elim fun zz0_17 zg6 => zg6.elim fun zz1_18 zg7 => zg7.elim fun zz2_19 zg8 => zg8.elim fun zz3_20 zg9 => zg9.elim fun ee2_21 zg10 => zg10.elim fun ee3_22 zg11 => zg11.elim fun ee4_23 zg12 => zg12.elim fun oo2_24 zg13 => zg13.elim fun oo3_25 zg14 => zg14.elim fun zee1 zg15 => zg15.elim fun zee2 zg16 => zg16.elim fun hq52_0 zg17 => zg17.elim fun hq52_1 zg18 => zg18.elim fun hq52_2 hq52_3 => ?_
        clear hp zg0 zg1 zg2 zg3 zg4 zg5 zg6 zg7 zg8 zg9 zg10 zg11 zg12 zg13 zg14 zg15 zg16 zg17 zg18
        subst zee1
        subst zee2
        replace hw : zz_w G A s [(ob0, .inr (9, [.ref ut, .int uf1, .ref h1, .int uf3, .ref sc, .ref dr0, .ref k0, .ref my0, .ref c0, .ref ga, .ref pa0, .ref t0, .ref sl0, .ref hd0])), (s5, .inl (G.2 0, 6, .inl m5)), (k0, .inr (6, [.ref b1, .ref b2, .ref b3, .ref b4, .int o1, .int o2, .int o3])), (b1, .inl (G.2 0, 7, .inl e1)), (b2, .inl (G.2 0, 6, .inl e2)), (b3, .inl (G.2 0, 7, .inl e3)), (b4, .inl (G.2 0, 42, .inl e4)), (c0, .inr (0, [.ref a1, .ref a2, .int fi2_14, .int sd2_15])), (a1, .inl (G.2 0, 6, .inl ww_12)), (a2, .inl (G.2 0, 7, .inl aa_13)), (sc, .inr (5, [.ref s1, .ref s2, .ref s3, .ref s4, .ref s5, .ref s6, .ref s7, .ref s8, .ref s9, .int (nI pp), .int (nI pq), .int i3, .int i4])), (s3, .inl (G.2 0, 7, .inl m3)), (s4, .inl (G.2 0, 7, .inl m4)), (s6, .inl (G.2 0, 6, .inl m6)), (s7, .inl (G.2 0, 6, .inl m7)), (s9, .inl (G.2 0, 9, .inl fcc_16)), (s8, .inl (G.2 4, 4, .inr (.inr (.inr (.inr (va_up (va_up (va_up (va_up (fun _ => none) 0 (some w0)) 1 (some w1)) 2 (some w2)) 3 (some w3))))))), (w0, .inr (2, [.ref x0, .ref x1, .ref x2, .int (nI n0), .int (nI u0)])), (x0, .inl (G.2 0, 400, .inl f0)), (x1, .inl (G.2 0, 14, .inl g0)), (x2, .inl (G.2 0, 32, .inl zz0_17)), (w1, .inr (2, [.ref x3, .ref x4, .ref x5, .int (nI n1), .int (nI u1)])), (x3, .inl (G.2 0, 400, .inl f1)), (x4, .inl (G.2 0, 14, .inl g1)), (x5, .inl (G.2 0, 32, .inl zz1_18)), (w2, .inr (2, [.ref x6, .ref x7, .ref x8, .int (nI n2), .int (nI u2)])), (x6, .inl (G.2 0, 400, .inl f2)), (x7, .inl (G.2 0, 14, .inl g2)), (x8, .inl (G.2 0, 32, .inl zz2_19)), (w3, .inr (2, [.ref x9, .ref x10, .ref x11, .int (nI n3), .int (nI u3)])), (x9, .inl (G.2 0, 400, .inl f3)), (x10, .inl (G.2 0, 14, .inl g3)), (x11, .inl (G.2 0, 32, .inl zz3_20)), (my0, .inr (6, [.ref my1, .ref my2, .ref my3, .ref my4, .int o1, .int oo2_24, .int oo3_25])), (my1, .inl (G.2 0, 7, .inl hh1_7)), (my2, .inl (G.2 0, 6, .inl ee2_21)), (my3, .inl (G.2 0, 7, .inl ee3_22)), (my4, .inl (G.2 0, 42, .inl ee4_23))] H _ := hw
        refine W.eq (g2 := F0 m 55 ls [.int rv_11]) rfl ?_
        refine lv_pop hx hb dX9_star_55 rfl ?_
        refine lv_bipush (v := (-2)) hx hb dX9_star_56 (by decide) ?_
        refine lv_istore_n (lv' := [(3, .int (-2)), (0, .ref ob0), (1, .int (nI vq4)), (2, .int ar2)]) hx hb dX9_star_58 rfl hl (by decide) rfl (fun ls hl => ?_)
        refine W.eq (g2 := F0 m 59 ls []) rfl ?_
        refine lv_bipush (v := (-2)) hx hb dX9_star_59 (by decide) ?_
        refine lv_istore (lv' := [(4, .int (-2)), (3, .int (-2)), (0, .ref ob0), (1, .int (nI vq4)), (2, .int ar2)]) hx hb dX9_star_61 hl (by decide) rfl (fun ls hl => ?_)
        refine lv_iconst (v := 0) hx hb dX9_star_63 (by decide) ?_
        refine lv_istore (lv' := [(5, .int 0), (4, .int (-2)), (3, .int (-2)), (0, .ref ob0), (1, .int (nI vq4)), (2, .int ar2)]) hx hb dX9_star_64 hl (by decide) rfl (fun ls hl => ?_)
        have lp66_41 : ∀ (vn27 vi26 : Nat) (vy34 : Int32) (vy35 : Int32) (H : Heap) (locs : List Loc) (ls : Array Slot), vi26 ≤ pp → pp < vi26 + vn27 → (vy35, vy34) = zB (-2, -2) (fun a => ee3_22 a - e3 a) vi26 → zz_w G A s [(ob0, .inr (9, [.ref ut, .int uf1, .ref h1, .int uf3, .ref sc, .ref dr0, .ref k0, .ref my0, .ref c0, .ref ga, .ref pa0, .ref t0, .ref sl0, .ref hd0])), (s5, .inl (G.2 0, 6, .inl m5)), (k0, .inr (6, [.ref b1, .ref b2, .ref b3, .ref b4, .int o1, .int o2, .int o3])), (b1, .inl (G.2 0, 7, .inl e1)), (b2, .inl (G.2 0, 6, .inl e2)), (b3, .inl (G.2 0, 7, .inl e3)), (b4, .inl (G.2 0, 42, .inl e4)), (c0, .inr (0, [.ref a1, .ref a2, .int fi2_14, .int sd2_15])), (a1, .inl (G.2 0, 6, .inl ww_12)), (a2, .inl (G.2 0, 7, .inl aa_13)), (sc, .inr (5, [.ref s1, .ref s2, .ref s3, .ref s4, .ref s5, .ref s6, .ref s7, .ref s8, .ref s9, .int (nI pp), .int (nI pq), .int i3, .int i4])), (s3, .inl (G.2 0, 7, .inl m3)), (s4, .inl (G.2 0, 7, .inl m4)), (s6, .inl (G.2 0, 6, .inl m6)), (s7, .inl (G.2 0, 6, .inl m7)), (s9, .inl (G.2 0, 9, .inl fcc_16)), (s8, .inl (G.2 4, 4, .inr (.inr (.inr (.inr (va_up (va_up (va_up (va_up (fun _ => none) 0 (some w0)) 1 (some w1)) 2 (some w2)) 3 (some w3))))))), (w0, .inr (2, [.ref x0, .ref x1, .ref x2, .int (nI n0), .int (nI u0)])), (x0, .inl (G.2 0, 400, .inl f0)), (x1, .inl (G.2 0, 14, .inl g0)), (x2, .inl (G.2 0, 32, .inl zz0_17)), (w1, .inr (2, [.ref x3, .ref x4, .ref x5, .int (nI n1), .int (nI u1)])), (x3, .inl (G.2 0, 400, .inl f1)), (x4, .inl (G.2 0, 14, .inl g1)), (x5, .inl (G.2 0, 32, .inl zz1_18)), (w2, .inr (2, [.ref x6, .ref x7, .ref x8, .int (nI n2), .int (nI u2)])), (x6, .inl (G.2 0, 400, .inl f2)), (x7, .inl (G.2 0, 14, .inl g2)), (x8, .inl (G.2 0, 32, .inl zz2_19)), (w3, .inr (2, [.ref x9, .ref x10, .ref x11, .int (nI n3), .int (nI u3)])), (x9, .inl (G.2 0, 400, .inl f3)), (x10, .inl (G.2 0, 14, .inl g3)), (x11, .inl (G.2 0, 32, .inl zz3_20)), (my0, .inr (6, [.ref my1, .ref my2, .ref my3, .ref my4, .int o1, .int oo2_24, .int oo3_25])), (my1, .inl (G.2 0, 7, .inl hh1_7)), (my2, .inl (G.2 0, 6, .inl ee2_21)), (my3, .inl (G.2 0, 7, .inl ee3_22)), (my4, .inl (G.2 0, 42, .inl ee4_23))] H locs → lv_has ls 7 [(5, .int (nI vi26)), (4, .int vy34), (3, .int vy35), (0, .ref ob0), (1, .int (nI vq4)), (2, .int ar2)] → W p l e (zz_rm 7 0 0) s m args below meth c H locs (0) (0) Q (F0 m 66 ls []) := by
          intro vn27
          induction vn27 with
          | zero => intro vi26 vy34 vy35 H locs ls hi1 hi2; exact absurd hi2 (by omega)
          | succ vn27 ih66 =>
            intro vi26 vy34 vy35 H locs ls hi66a hi66b hv66_40 hw hl
            refine lv_iload hx hb dX9_star_66 (lv_at hl 0 rfl) ?_
            refine lv_aload_n hx hb dX9_star_68 rfl (lv_at hl 3 rfl) ?_
            refine zz_get (v := .ref sc) S hw fgX9_30 0 rfl rfl dX9_star_69 ?_
            refine zz_get (v := .int (nI pp)) S hw fgX9_105 10 rfl rfl dX9_star_72 ?_
            refine lv_icmp_ge (tgt := 121) hx hb dX9_star_75 (by decide) (fun c75_42 => ?_) (fun c75_42 => ?_)
            · skip
              have c75_42n : pp ≤ vi26 := (zz_le (a := pp) (b := vi26) rfl rfl (by omega) (by omega)).mp c75_42
              refine lv_iload_n hx hb dX9_star_121 rfl (lv_at hl 5 rfl) ?_
              refine lv_if_ne (tgt := 129) hx hb dX9_star_122 (by decide) (fun c122_43 => ?_) (fun c122_43 => ?_)
              · skip
                refine lv_iload hx hb dX9_star_129 (lv_at hl 1 rfl) ?_
                exact hret _ _ _ _ _ _ ⟨vy34, fcc_16, zz0_17, zz1_18, zz2_19, zz3_20, hh1_7, ee2_21, ee3_22, ee4_23, o1, oo2_24, oo3_25, ww_12, aa_13, fi2_14, sd2_15, rfl, rfl, (by first | exact zA0 (fun z => zA_1n (by assumption) z.1) | exact zA0 (fun z => zA_lt (by assumption) (by decide) z.1.1) | exact zA0 (fun z => zA_g60 (by assumption) z.1.1) | exact zA0 (fun z => zA_60 (by assumption) z.1.1) | exact zA0 (fun z => zA_Tn hq12_1 (by assumption) z.2) | exact zA1 ⟨zA_1y (by assumption) (by assumption), zA_Ti hq12_1 (by assumption)⟩ ⟨_, by assumption, rfl, _, _, _, _, _, _, _, _, _, _, hq28_0, hq52_3, zP_0 (zB_e hv66_40 (by omega)) (by assumption)⟩ | exact zA1 ⟨zA_1y (by assumption) (by assumption), zA_Ti hq12_1 (by assumption)⟩ ⟨_, by assumption, rfl, _, _, _, _, _, _, _, _, _, _, hq28_0, hq52_3, zP_1 (zB_e hv66_40 (by omega)) (by assumption)⟩), (by first | assumption | exact Or.inl rfl | exact Or.inr rfl | omega), (by first | assumption | exact Or.inl rfl | exact Or.inr rfl | omega)⟩ (hw.sub [0, 10, 11, 12, 13, 14, 15, 16, 17, 18, 19, 20, 21, 22, 23, 24, 25, 26, 27, 28, 29, 30, 31, 32, 1, 2, 3, 4, 5, 6, 33, 34, 35, 36, 37, 7, 8, 9] (by decide +kernel) rfl) rfl dX9_star_131
              · skip
                refine lv_iload_n hx hb dX9_star_125 rfl (lv_at hl 2 rfl) ?_
                refine lv_goto (tgt := 131) hx hb dX9_star_126 (by decide) ?_
                exact hret _ _ _ _ _ _ ⟨vy35, fcc_16, zz0_17, zz1_18, zz2_19, zz3_20, hh1_7, ee2_21, ee3_22, ee4_23, o1, oo2_24, oo3_25, ww_12, aa_13, fi2_14, sd2_15, rfl, rfl, (by first | exact zA0 (fun z => zA_1n (by assumption) z.1) | exact zA0 (fun z => zA_lt (by assumption) (by decide) z.1.1) | exact zA0 (fun z => zA_g60 (by assumption) z.1.1) | exact zA0 (fun z => zA_60 (by assumption) z.1.1) | exact zA0 (fun z => zA_Tn hq12_1 (by assumption) z.2) | exact zA1 ⟨zA_1y (by assumption) (by assumption), zA_Ti hq12_1 (by assumption)⟩ ⟨_, by assumption, rfl, _, _, _, _, _, _, _, _, _, _, hq28_0, hq52_3, zP_0 (zB_e hv66_40 (by omega)) (by assumption)⟩ | exact zA1 ⟨zA_1y (by assumption) (by assumption), zA_Ti hq12_1 (by assumption)⟩ ⟨_, by assumption, rfl, _, _, _, _, _, _, _, _, _, _, hq28_0, hq52_3, zP_1 (zB_e hv66_40 (by omega)) (by assumption)⟩), (by first | assumption | exact Or.inl rfl | exact Or.inr rfl | omega), (by first | assumption | exact Or.inl rfl | exact Or.inr rfl | omega)⟩ (hw.sub [0, 10, 11, 12, 13, 14, 15, 16, 17, 18, 19, 20, 21, 22, 23, 24, 25, 26, 27, 28, 29, 30, 31, 32, 1, 2, 3, 4, 5, 6, 33, 34, 35, 36, 37, 7, 8, 9] (by decide +kernel) rfl) rfl dX9_star_131
            · skip
              have c75_42n : ¬ (pp ≤ vi26) := fun z => c75_42 ((zz_le (a := pp) (b := vi26) rfl rfl (by omega) (by omega)).mpr z)
              refine lv_aload_n hx hb dX9_star_78 rfl (lv_at hl 3 rfl) ?_
              refine zz_get (v := .ref my0) S hw fgX9_44 0 rfl rfl dX9_star_79 ?_
              refine W.eq (g2 := F0 m 82 ls [.ref my0]) rfl ?_
              refine zz_get (v := .ref my3) S hw fgX9_135 33 rfl rfl dX9_star_82 ?_
              refine lv_iload hx hb dX9_star_85 (lv_at hl 0 rfl) ?_
              refine zz_iald (v := (ee3_22 vi26)) S hw 36 rfl (vp_in_nI (n := vi26) (by omega) (by decide)) (congrArg ee3_22 (nI_clamp (n := vi26) (by omega))) dX9_star_87 ?_
              refine lv_aload_n hx hb dX9_star_88 rfl (lv_at hl 3 rfl) ?_
              refine zz_get (v := .ref k0) S hw fgX9_40 0 rfl rfl dX9_star_89 ?_
              refine zz_get (v := .ref b3) S hw fgX9_135 2 rfl rfl dX9_star_92 ?_
              refine lv_iload hx hb dX9_star_95 (lv_at hl 0 rfl) ?_
              refine zz_iald (v := (e3 vi26)) S hw 5 rfl (vp_in_nI (n := vi26) (by omega) (by decide)) (congrArg e3 (nI_clamp (n := vi26) (by omega))) dX9_star_97 ?_
              refine lv_isub hx hb dX9_star_98 ?_
              refine lv_topi (fun z44 ez44 => ?_)
              refine lv_istore (lv' := [(6, .int z44), (5, .int (nI vi26)), (4, .int vy34), (3, .int vy35), (0, .ref ob0), (1, .int (nI vq4)), (2, .int ar2)]) hx hb dX9_star_99 hl (by decide) rfl (fun ls hl => ?_)
              refine lv_iload hx hb dX9_star_101 (lv_at hl 0 rfl) ?_
              refine lv_iload hx hb dX9_star_103 (lv_at hl 2 rfl) ?_
              refine lv_icmp_le (tgt := 115) hx hb dX9_star_105 (by decide) (fun c105_45 => ?_) (fun c105_45 => ?_)
              · skip
                refine lv_iinc (v := (nI (vi26 + 1))) (lv' := [(5, .int (nI (vi26 + 1))), (6, .int z44), (4, .int vy34), (3, .int vy35), (0, .ref ob0), (1, .int (nI vq4)), (2, .int ar2)]) hx hb dX9_star_115 hl (k := 1) rfl (nI_add _ 1) (by decide) rfl (fun ls hl => ?_)
                refine lv_goto (tgt := 66) hx hb dX9_star_118 (by decide) ?_
                refine W.eq (g2 := F0 m 66 ls []) rfl ?_
                exact ih66 (vi26 + 1) vy34 vy35 _ _ _ (by omega) (by omega) (by first | exact zB_y hv66_40 (by assumption) (by first | assumption | exact Int32.not_le.mp (by assumption)) | exact zB_n hv66_40 (by assumption) (by first | assumption | exact Int32.not_lt.mpr (by assumption))) hw (lv_sub hl [0, 2, 3, 4, 5, 6] rfl)
              · skip
                refine lv_iload hx hb dX9_star_108 (lv_at hl 0 rfl) ?_
                refine lv_istore (lv' := [(4, .int z44), (6, .int z44), (5, .int (nI vi26)), (3, .int vy35), (0, .ref ob0), (1, .int (nI vq4)), (2, .int ar2)]) hx hb dX9_star_110 hl (by decide) rfl (fun ls hl => ?_)
                refine lv_iload hx hb dX9_star_112 (lv_at hl 2 rfl) ?_
                refine lv_istore_n (lv' := [(3, .int (nI vi26)), (4, .int z44), (6, .int z44), (5, .int (nI vi26)), (0, .ref ob0), (1, .int (nI vq4)), (2, .int ar2)]) hx hb dX9_star_114 rfl hl (by decide) rfl (fun ls hl => ?_)
                refine lv_iinc (v := (nI (vi26 + 1))) (lv' := [(5, .int (nI (vi26 + 1))), (3, .int (nI vi26)), (4, .int z44), (6, .int z44), (0, .ref ob0), (1, .int (nI vq4)), (2, .int ar2)]) hx hb dX9_star_115 hl (k := 3) rfl (nI_add _ 1) (by decide) rfl (fun ls hl => ?_)
                refine lv_goto (tgt := 66) hx hb dX9_star_118 (by decide) ?_
                exact ih66 (vi26 + 1) z44 (nI vi26) _ _ _ (by omega) (by omega) (by first | exact zB_y hv66_40 (by assumption) (by first | assumption | exact Int32.not_le.mp (by assumption)) | exact zB_n hv66_40 (by assumption) (by first | assumption | exact Int32.not_lt.mpr (by assumption))) hw (lv_sub hl [0, 2, 1, 4, 5, 6] rfl)
        exact lp66_41 (pp + 1 - 0) 0 (-2) (-2) _ _ _ (by omega) (by omega) rfl hw (lv_sub hl [0, 1, 2, 3, 4, 5] rfl)
      · skip
        refine lv_iconst (v := (-1)) hx hb dX9_star_18 (by decide) ?_
        exact hret _ _ _ _ _ _ ⟨(-1), fc, z0_, z1_, z2_, z3_, mf1, mf2, mf3, mf4, mi1, mi2, mi3, wf, af, fi, sd, rfl, rfl, (by first | exact zA0 (fun z => zA_1n (by assumption) z.1) | exact zA0 (fun z => zA_lt (by assumption) (by decide) z.1.1) | exact zA0 (fun z => zA_g60 (by assumption) z.1.1) | exact zA0 (fun z => zA_60 (by assumption) z.1.1) | exact zA0 (fun z => zA_Tn hq12_1 (by assumption) z.2) | exact zA1 ⟨zA_1y (by assumption) (by assumption), zA_Ti hq12_1 (by assumption)⟩ ⟨_, by assumption, rfl, _, _, _, _, _, _, _, _, _, _, hq28_0, hq52_3, zP_0 (zB_e hdry (by omega)) (by assumption)⟩ | exact zA1 ⟨zA_1y (by assumption) (by assumption), zA_Ti hq12_1 (by assumption)⟩ ⟨_, by assumption, rfl, _, _, _, _, _, _, _, _, _, _, hq28_0, hq52_3, zP_1 (zB_e hdry (by omega)) (by assumption)⟩), (by first | assumption | exact Or.inl rfl | exact Or.inr rfl | omega), (by first | assumption | exact Or.inl rfl | exact Or.inr rfl | omega)⟩ hw rfl dX9_star_19
theorem kd_ncX9_year : kd_ck 1677323101697474353870530681670226381856172484455761977694190018744891058251222854244246725496933741253222386259521611042876435162163813557886162468594242252647260501385250140787916704976973618047324218229590088040400134910448545461393695641570220826365232299821032007751626602052203319434011 121 cX9_year.data.toList 0 = true := by decide +kernel
theorem dX9_year_0 : decode cX9_year 0 = .ok (.iload_n 1, 1) := kd_dk0 kd_o27 kd_ncX9_year rfl
theorem dX9_year_1 : decode cX9_year 1 = .ok (.ifCond .lt 20, 3) := kd_dj2 kd_o155 (w := 20) kd_ncX9_year rfl rfl
theorem dX9_year_4 : decode cX9_year 4 = .ok (.iload_n 1, 1) := kd_dk0 kd_o27 kd_ncX9_year rfl
theorem dX9_year_5 : decode cX9_year 5 = .ok (.bipush 60, 2) := kd_dj1 kd_o16 (w := 60) kd_ncX9_year rfl rfl
theorem dX9_year_7 : decode cX9_year 7 = .ok (.if_icmp .gt 14, 3) := kd_dj2 kd_o163 (w := 14) kd_ncX9_year rfl rfl
theorem dX9_year_10 : decode cX9_year 10 = .ok (.iload_n 2, 1) := kd_dk0 kd_o28 kd_ncX9_year rfl
theorem dX9_year_11 : decode cX9_year 11 = .ok (.iconst 1, 1) := kd_dk0 kd_o4 kd_ncX9_year rfl
theorem dX9_year_12 : decode cX9_year 12 = .ok (.if_icmp .lt 9, 3) := kd_dj2 kd_o161 (w := 9) kd_ncX9_year rfl rfl
theorem dX9_year_15 : decode cX9_year 15 = .ok (.iload_n 2, 1) := kd_dk0 kd_o28 kd_ncX9_year rfl
theorem dX9_year_16 : decode cX9_year 16 = .ok (.bipush 20, 2) := kd_dj1 kd_o16 (w := 20) kd_ncX9_year rfl rfl
theorem dX9_year_18 : decode cX9_year 18 = .ok (.if_icmp .le 5, 3) := kd_dj2 kd_o164 (w := 5) kd_ncX9_year rfl rfl
theorem dX9_year_21 : decode cX9_year 21 = .ok (.iconst (-1), 1) := kd_dk0 kd_o2 kd_ncX9_year rfl
theorem dX9_year_22 : decode cX9_year 22 = .ok (.ireturn, 1) := kd_dk0 kd_o172 kd_ncX9_year rfl
theorem dX9_year_23 : decode cX9_year 23 = .ok (.iconst 0, 1) := kd_dk0 kd_o3 kd_ncX9_year rfl
theorem dX9_year_24 : decode cX9_year 24 = .ok (.istore_n 3, 1) := kd_dk0 kd_o62 kd_ncX9_year rfl
theorem dX9_year_25 : decode cX9_year 25 = .ok (.iconst 0, 1) := kd_dk0 kd_o3 kd_ncX9_year rfl
theorem dX9_year_26 : decode cX9_year 26 = .ok (.istore 4, 2) := kd_dk1 kd_o54 kd_ncX9_year rfl
theorem dX9_year_28 : decode cX9_year 28 = .ok (.iload 4, 2) := kd_dk1 kd_o21 kd_ncX9_year rfl
theorem dX9_year_30 : decode cX9_year 30 = .ok (.iload_n 2, 1) := kd_dk0 kd_o28 kd_ncX9_year rfl
theorem dX9_year_31 : decode cX9_year 31 = .ok (.if_icmp .ge 88, 3) := kd_dj2 kd_o162 (w := 88) kd_ncX9_year rfl rfl
theorem dX9_year_34 : decode cX9_year 34 = .ok (.aload_n 0, 1) := kd_dk0 kd_o42 kd_ncX9_year rfl
theorem dX9_year_35 : decode cX9_year 35 = .ok (.getfield 44, 3) := kd_dk2 kd_o180 kd_ncX9_year rfl
theorem dX9_year_38 : decode cX9_year 38 = .ok (.aload_n 0, 1) := kd_dk0 kd_o42 kd_ncX9_year rfl
theorem dX9_year_39 : decode cX9_year 39 = .ok (.getfield 40, 3) := kd_dk2 kd_o180 kd_ncX9_year rfl
theorem dX9_year_42 : decode cX9_year 42 = .ok (.invokevirtual 244, 3) := kd_dk2 kd_o182 kd_ncX9_year rfl
theorem dX9_year_45 : decode cX9_year 45 = .ok (.aload_n 0, 1) := kd_dk0 kd_o42 kd_ncX9_year rfl
theorem dX9_year_46 : decode cX9_year 46 = .ok (.getfield 50, 3) := kd_dk2 kd_o180 kd_ncX9_year rfl
theorem dX9_year_49 : decode cX9_year 49 = .ok (.aload_n 0, 1) := kd_dk0 kd_o42 kd_ncX9_year rfl
theorem dX9_year_50 : decode cX9_year 50 = .ok (.getfield 30, 3) := kd_dk2 kd_o180 kd_ncX9_year rfl
theorem dX9_year_53 : decode cX9_year 53 = .ok (.aload_n 0, 1) := kd_dk0 kd_o42 kd_ncX9_year rfl
theorem dX9_year_54 : decode cX9_year 54 = .ok (.getfield 44, 3) := kd_dk2 kd_o180 kd_ncX9_year rfl
theorem dX9_year_57 : decode cX9_year 57 = .ok (.iload_n 1, 1) := kd_dk0 kd_o27 kd_ncX9_year rfl
theorem dX9_year_58 : decode cX9_year 58 = .ok (.aload_n 0, 1) := kd_dk0 kd_o42 kd_ncX9_year rfl
theorem dX9_year_59 : decode cX9_year 59 = .ok (.getfield 30, 3) := kd_dk2 kd_o180 kd_ncX9_year rfl
theorem dX9_year_62 : decode cX9_year 62 = .ok (.getfield 190, 3) := kd_dk2 kd_o180 kd_ncX9_year rfl
theorem dX9_year_65 : decode cX9_year 65 = .ok (.iload 4, 2) := kd_dk1 kd_o21 kd_ncX9_year rfl
theorem dX9_year_67 : decode cX9_year 67 = .ok (.iadd, 1) := kd_dk0 kd_o96 kd_ncX9_year rfl
theorem dX9_year_68 : decode cX9_year 68 = .ok (.iconst 1, 1) := kd_dk0 kd_o4 kd_ncX9_year rfl
theorem dX9_year_69 : decode cX9_year 69 = .ok (.invokevirtual 193, 3) := kd_dk2 kd_o182 kd_ncX9_year rfl
theorem dX9_year_72 : decode cX9_year 72 = .ok (.pop, 1) := kd_dk0 kd_o87 kd_ncX9_year rfl
theorem dX9_year_73 : decode cX9_year 73 = .ok (.aload_n 0, 1) := kd_dk0 kd_o42 kd_ncX9_year rfl
theorem dX9_year_74 : decode cX9_year 74 = .ok (.getfield 50, 3) := kd_dk2 kd_o180 kd_ncX9_year rfl
theorem dX9_year_77 : decode cX9_year 77 = .ok (.aload_n 0, 1) := kd_dk0 kd_o42 kd_ncX9_year rfl
theorem dX9_year_78 : decode cX9_year 78 = .ok (.getfield 30, 3) := kd_dk2 kd_o180 kd_ncX9_year rfl
theorem dX9_year_81 : decode cX9_year 81 = .ok (.aload_n 0, 1) := kd_dk0 kd_o42 kd_ncX9_year rfl
theorem dX9_year_82 : decode cX9_year 82 = .ok (.getfield 44, 3) := kd_dk2 kd_o180 kd_ncX9_year rfl
theorem dX9_year_85 : decode cX9_year 85 = .ok (.invokevirtual 141, 3) := kd_dk2 kd_o182 kd_ncX9_year rfl
theorem dX9_year_88 : decode cX9_year 88 = .ok (.iload_n 3, 1) := kd_dk0 kd_o29 kd_ncX9_year rfl
theorem dX9_year_89 : decode cX9_year 89 = .ok (.aload_n 0, 1) := kd_dk0 kd_o42 kd_ncX9_year rfl
theorem dX9_year_90 : decode cX9_year 90 = .ok (.getfield 50, 3) := kd_dk2 kd_o180 kd_ncX9_year rfl
theorem dX9_year_93 : decode cX9_year 93 = .ok (.getfield 261, 3) := kd_dk2 kd_o180 kd_ncX9_year rfl
theorem dX9_year_96 : decode cX9_year 96 = .ok (.aload_n 0, 1) := kd_dk0 kd_o42 kd_ncX9_year rfl
theorem dX9_year_97 : decode cX9_year 97 = .ok (.getfield 30, 3) := kd_dk2 kd_o180 kd_ncX9_year rfl
theorem dX9_year_100 : decode cX9_year 100 = .ok (.getfield 108, 3) := kd_dk2 kd_o180 kd_ncX9_year rfl
theorem dX9_year_103 : decode cX9_year 103 = .ok (.if_icmp .ne 7, 3) := kd_dj2 kd_o160 (w := 7) kd_ncX9_year rfl rfl
theorem dX9_year_106 : decode cX9_year 106 = .ok (.iconst 1, 1) := kd_dk0 kd_o4 kd_ncX9_year rfl
theorem dX9_year_107 : decode cX9_year 107 = .ok (.goto 4, 3) := kd_dj2 kd_o167 (w := 4) kd_ncX9_year rfl rfl
theorem dX9_year_110 : decode cX9_year 110 = .ok (.iconst 0, 1) := kd_dk0 kd_o3 kd_ncX9_year rfl
theorem dX9_year_111 : decode cX9_year 111 = .ok (.iadd, 1) := kd_dk0 kd_o96 kd_ncX9_year rfl
theorem dX9_year_112 : decode cX9_year 112 = .ok (.istore_n 3, 1) := kd_dk0 kd_o62 kd_ncX9_year rfl
theorem dX9_year_113 : decode cX9_year 113 = .ok (.iinc 4 1, 3) := kd_dji kd_o132 (w := 1) kd_ncX9_year rfl rfl
theorem dX9_year_116 : decode cX9_year 116 = .ok (.goto (-88), 3) := kd_dj2 kd_o167 (w := 65448) kd_ncX9_year rfl rfl
theorem dX9_year_119 : decode cX9_year 119 = .ok (.iload_n 3, 1) := kd_dk0 kd_o29 kd_ncX9_year rfl
theorem dX9_year_120 : decode cX9_year 120 = .ok (.ireturn, 1) := kd_dk0 kd_o172 kd_ncX9_year rfl
set_option maxHeartbeats 8000000 in
set_option maxRecDepth 100000 in
theorem c_g_year (l : Launch) (G : zz_G) (ob0 : Nat) (ut : Nat) (uf1 : Int32) (h1 : Nat) (uf3 : Int32) (sc : Nat) (dr0 : Nat) (k0 : Nat) (my0 : Nat) (c0 : Nat) (ga : Nat) (pa0 : Nat) (t0 : Nat) (sl0 : Nat) (hd0 : Nat) (s1 : Nat) (s2 : Nat) (s3 : Nat) (s4 : Nat) (s5 : Nat) (s6 : Nat) (s7 : Nat) (s8 : Nat) (s9 : Nat) (w0 : Nat) (w1 : Nat) (w2 : Nat) (w3 : Nat) (x0 : Nat) (x1 : Nat) (x2 : Nat) (x3 : Nat) (x4 : Nat) (x5 : Nat) (x6 : Nat) (x7 : Nat) (x8 : Nat) (x9 : Nat) (x10 : Nat) (x11 : Nat) (pp : Nat) (pq : Nat) (i3 : Int32) (i4 : Int32) (m3 : Nat → Int32) (m4 : Nat → Int32) (m6 : Nat → Int32) (m7 : Nat → Int32) (fc : Nat → Int32) (f0 : Nat → Int32) (g0 : Nat → Int32) (n0 : Nat) (u0 : Nat) (z0_ : Nat → Int32) (f1 : Nat → Int32) (g1 : Nat → Int32) (n1 : Nat) (u1 : Nat) (z1_ : Nat → Int32) (f2 : Nat → Int32) (g2 : Nat → Int32) (n2 : Nat) (u2 : Nat) (z2_ : Nat → Int32) (f3 : Nat → Int32) (g3 : Nat → Int32) (n3 : Nat) (u3 : Nat) (z3_ : Nat → Int32) (m5 : Nat → Int32) (b1 : Nat) (b2 : Nat) (b3 : Nat) (b4 : Nat) (e1 : Nat → Int32) (e2 : Nat → Int32) (e3 : Nat → Int32) (e4 : Nat → Int32) (o1 : Int32) (o2 : Int32) (o3 : Int32) (my1 : Nat) (my2 : Nat) (my3 : Nat) (my4 : Nat) (mf1 : Nat → Int32) (mf2 : Nat → Int32) (mf3 : Nat → Int32) (mf4 : Nat → Int32) (mi1 : Int32) (mi2 : Int32) (mi3 : Int32) (a1 : Nat) (a2 : Nat) (wf : Nat → Int32) (af : Nat → Int32) (fi : Int32) (sd : Int32) (ar1 : Int32) (ar2 : Int32) (hv0 : zz_lwv f0 g0 n0 u0) (hv1 : zz_lwv f1 g1 n1 u1) (hv2 : zz_lwv f2 g2 n2 u2) (hv3 : zz_lwv f3 g3 n3 u3) (hpp : pp ≤ 7) (hpq : pq ≤ 6) (hw6 : ∀ j, j < 6 → zz_ok 7 (wf j)) (ha7 : ∀ j, j < 7 → zz_ok 6 (af j)) : zz_M l G mX9_year 7 0 0 [.ref ob0, .int ar1, .int ar2] [(ob0, .inr (9, [.ref ut, .int uf1, .ref h1, .int uf3, .ref sc, .ref dr0, .ref k0, .ref my0, .ref c0, .ref ga, .ref pa0, .ref t0, .ref sl0, .ref hd0])), (sc, .inr (5, [.ref s1, .ref s2, .ref s3, .ref s4, .ref s5, .ref s6, .ref s7, .ref s8, .ref s9, .int (nI pp), .int (nI pq), .int i3, .int i4])), (s3, .inl (G.2 0, 7, .inl m3)), (s4, .inl (G.2 0, 7, .inl m4)), (s6, .inl (G.2 0, 6, .inl m6)), (s7, .inl (G.2 0, 6, .inl m7)), (s9, .inl (G.2 0, 9, .inl fc)), (s8, .inl (G.2 4, 4, .inr (.inr (.inr (.inr (va_up (va_up (va_up (va_up (fun _ => none) 0 (some w0)) 1 (some w1)) 2 (some w2)) 3 (some w3))))))), (w0, .inr (2, [.ref x0, .ref x1, .ref x2, .int (nI n0), .int (nI u0)])), (x0, .inl (G.2 0, 400, .inl f0)), (x1, .inl (G.2 0, 14, .inl g0)), (x2, .inl (G.2 0, 32, .inl z0_)), (w1, .inr (2, [.ref x3, .ref x4, .ref x5, .int (nI n1), .int (nI u1)])), (x3, .inl (G.2 0, 400, .inl f1)), (x4, .inl (G.2 0, 14, .inl g1)), (x5, .inl (G.2 0, 32, .inl z1_)), (w2, .inr (2, [.ref x6, .ref x7, .ref x8, .int (nI n2), .int (nI u2)])), (x6, .inl (G.2 0, 400, .inl f2)), (x7, .inl (G.2 0, 14, .inl g2)), (x8, .inl (G.2 0, 32, .inl z2_)), (w3, .inr (2, [.ref x9, .ref x10, .ref x11, .int (nI n3), .int (nI u3)])), (x9, .inl (G.2 0, 400, .inl f3)), (x10, .inl (G.2 0, 14, .inl g3)), (x11, .inl (G.2 0, 32, .inl z3_)), (s5, .inl (G.2 0, 6, .inl m5)), (k0, .inr (6, [.ref b1, .ref b2, .ref b3, .ref b4, .int o1, .int o2, .int o3])), (b1, .inl (G.2 0, 7, .inl e1)), (b2, .inl (G.2 0, 6, .inl e2)), (b3, .inl (G.2 0, 7, .inl e3)), (b4, .inl (G.2 0, 42, .inl e4)), (my0, .inr (6, [.ref my1, .ref my2, .ref my3, .ref my4, .int mi1, .int mi2, .int mi3])), (my1, .inl (G.2 0, 7, .inl mf1)), (my2, .inl (G.2 0, 6, .inl mf2)), (my3, .inl (G.2 0, 7, .inl mf3)), (my4, .inl (G.2 0, 42, .inl mf4)), (c0, .inr (0, [.ref a1, .ref a2, .int fi, .int sd])), (a1, .inl (G.2 0, 6, .inl wf)), (a2, .inl (G.2 0, 7, .inl af))] (fun rr u => ∃ (rv : Int32), ∃ (fcc : Nat → Int32), ∃ (zz0 : Nat → Int32), ∃ (zz1 : Nat → Int32), ∃ (zz2 : Nat → Int32), ∃ (zz3 : Nat → Int32), ∃ (nf1 : Nat → Int32), ∃ (nf2 : Nat → Int32), ∃ (nf3 : Nat → Int32), ∃ (nf4 : Nat → Int32), ∃ (ni1 : Int32), ∃ (ni2 : Int32), ∃ (ni3 : Int32), ∃ (ww : Nat → Int32), ∃ (aa : Nat → Int32), ∃ (fi2 : Int32), ∃ (sd2 : Int32), rr = some (.int rv) ∧ u = [(ob0, .inr (9, [.ref ut, .int uf1, .ref h1, .int uf3, .ref sc, .ref dr0, .ref k0, .ref my0, .ref c0, .ref ga, .ref pa0, .ref t0, .ref sl0, .ref hd0])), (sc, .inr (5, [.ref s1, .ref s2, .ref s3, .ref s4, .ref s5, .ref s6, .ref s7, .ref s8, .ref s9, .int (nI pp), .int (nI pq), .int i3, .int i4])), (s3, .inl (G.2 0, 7, .inl m3)), (s4, .inl (G.2 0, 7, .inl m4)), (s6, .inl (G.2 0, 6, .inl m6)), (s7, .inl (G.2 0, 6, .inl m7)), (s9, .inl (G.2 0, 9, .inl fcc)), (s8, .inl (G.2 4, 4, .inr (.inr (.inr (.inr (va_up (va_up (va_up (va_up (fun _ => none) 0 (some w0)) 1 (some w1)) 2 (some w2)) 3 (some w3))))))), (w0, .inr (2, [.ref x0, .ref x1, .ref x2, .int (nI n0), .int (nI u0)])), (x0, .inl (G.2 0, 400, .inl f0)), (x1, .inl (G.2 0, 14, .inl g0)), (x2, .inl (G.2 0, 32, .inl zz0)), (w1, .inr (2, [.ref x3, .ref x4, .ref x5, .int (nI n1), .int (nI u1)])), (x3, .inl (G.2 0, 400, .inl f1)), (x4, .inl (G.2 0, 14, .inl g1)), (x5, .inl (G.2 0, 32, .inl zz1)), (w2, .inr (2, [.ref x6, .ref x7, .ref x8, .int (nI n2), .int (nI u2)])), (x6, .inl (G.2 0, 400, .inl f2)), (x7, .inl (G.2 0, 14, .inl g2)), (x8, .inl (G.2 0, 32, .inl zz2)), (w3, .inr (2, [.ref x9, .ref x10, .ref x11, .int (nI n3), .int (nI u3)])), (x9, .inl (G.2 0, 400, .inl f3)), (x10, .inl (G.2 0, 14, .inl g3)), (x11, .inl (G.2 0, 32, .inl zz3)), (s5, .inl (G.2 0, 6, .inl m5)), (k0, .inr (6, [.ref b1, .ref b2, .ref b3, .ref b4, .int o1, .int o2, .int o3])), (b1, .inl (G.2 0, 7, .inl e1)), (b2, .inl (G.2 0, 6, .inl e2)), (b3, .inl (G.2 0, 7, .inl e3)), (b4, .inl (G.2 0, 42, .inl e4)), (my0, .inr (6, [.ref my1, .ref my2, .ref my3, .ref my4, .int ni1, .int ni2, .int ni3])), (my1, .inl (G.2 0, 7, .inl nf1)), (my2, .inl (G.2 0, 6, .inl nf2)), (my3, .inl (G.2 0, 7, .inl nf3)), (my4, .inl (G.2 0, 42, .inl nf4)), (c0, .inr (0, [.ref a1, .ref a2, .int fi2, .int sd2])), (a1, .inl (G.2 0, 6, .inl ww)), (a2, .inl (G.2 0, 7, .inl aa))] ∧ (zA (zz_In 61 ar1 ∧ (zz_In 21 ar2 ∧ ¬ ar2 = 0)) (∃ k s : Nat, k ≤ 60 ∧ s ≤ 20 ∧ ar1 = nI k ∧ ar2 = nI s ∧ zE (fun i v => zA_D f0 g0 n0 u0 f1 g1 n1 u1 f2 g2 n2 u2 f3 g3 n3 u3 e1 e2 e3 e4 o1 o2 o3 m3 m6 m4 m7 i3 pp pq (i4 + nI i) (¬ (1 : Int32) = 0) k (fun h1 E2 E3 E4 O2 O3 => ∃ C B x y, zk_F f0 g0 n0 u0 (zm_S 99 h1 E2 m3 m6 m4 m7 E4 O2) (fun x => ¬ zm_bit o1 (nI x) = 0) i3 pp pq (C, B, x, y) ∧ v = zC1 (x = nI pq))) s rv) rv (-1)) ∧ (∀ j, j < 6 → zz_ok 7 (ww j)) ∧ (∀ j, j < 7 → zz_ok 6 (aa j))) := by
  refine zz_enteri (by decide +kernel) (Nat.le_of_ble_eq_true rfl) ?_
  intro p e s m args below meth c A Q ls S hnm hret hw hl
  have hl : lv_has ls 5 [(0, .ref ob0), (1, .int ar1), (2, .int ar2)] := hl
  have hx := S.1
  have hb := S.2.1
  refine lv_iload_n hx hb dX9_year_0 rfl (lv_at hl 1 rfl) ?_
  refine lv_if_lt (tgt := 21) hx hb dX9_year_1 (by decide) (fun c1_1 => ?_) (fun c1_1 => ?_)
  · skip
    refine lv_iconst (v := (-1)) hx hb dX9_year_21 (by decide) ?_
    exact hret _ _ _ _ _ _ ⟨(-1), fc, z0_, z1_, z2_, z3_, mf1, mf2, mf3, mf4, mi1, mi2, mi3, wf, af, fi, sd, rfl, rfl, (by first | exact zA0 (fun z => zA_lt (by assumption) (by decide) z.1) | exact zA0 (fun z => zA_g60 (by assumption) z.1) | exact zA0 (fun z => zA_60 (by assumption) z.1) | exact zA0 (fun z => zA_1m (by assumption) z.2) | exact zA0 (fun z => zA_g20 (by assumption) z.2.1) | exact zA0 (fun z => zA_20 (by assumption) z.2.1) | exact zA1 ⟨⟨_, by omega, rfl⟩, zA_2y20 (by assumption) (by assumption)⟩ ⟨_, _, by assumption, by assumption, rfl, rfl, zE_e hdry (by omega)⟩), (by first | assumption | exact Or.inl rfl | exact Or.inr rfl | omega), (by first | assumption | exact Or.inl rfl | exact Or.inr rfl | omega)⟩ hw rfl dX9_year_22
  · skip
    have hlo2 : ¬ ar1 < 0 := zz_lo0 c1_1
    refine lv_iload_n hx hb dX9_year_4 rfl (lv_at hl 1 rfl) ?_
    refine lv_bipush (v := 60) hx hb dX9_year_5 (by decide) ?_
    refine lv_icmp_gt (tgt := 21) hx hb dX9_year_7 (by decide) (fun c7_3 => ?_) (fun c7_3 => ?_)
    · skip
      refine lv_iconst (v := (-1)) hx hb dX9_year_21 (by decide) ?_
      exact hret _ _ _ _ _ _ ⟨(-1), fc, z0_, z1_, z2_, z3_, mf1, mf2, mf3, mf4, mi1, mi2, mi3, wf, af, fi, sd, rfl, rfl, (by first | exact zA0 (fun z => zA_lt (by assumption) (by decide) z.1) | exact zA0 (fun z => zA_g60 (by assumption) z.1) | exact zA0 (fun z => zA_60 (by assumption) z.1) | exact zA0 (fun z => zA_1m (by assumption) z.2) | exact zA0 (fun z => zA_g20 (by assumption) z.2.1) | exact zA0 (fun z => zA_20 (by assumption) z.2.1) | exact zA1 ⟨⟨_, by omega, rfl⟩, zA_2y20 (by assumption) (by assumption)⟩ ⟨_, _, by assumption, by assumption, rfl, rfl, zE_e hdry (by omega)⟩), (by first | assumption | exact Or.inl rfl | exact Or.inr rfl | omega), (by first | assumption | exact Or.inl rfl | exact Or.inr rfl | omega)⟩ hw rfl dX9_year_22
    · skip
      obtain ⟨vq4, hvq4, rfl⟩ : ∃ k : Nat, k ≤ 60 ∧ ar1 = nI k := zz_rng hlo2 (c7_3) (by decide)
      refine lv_iload_n hx hb dX9_year_10 rfl (lv_at hl 2 rfl) ?_
      refine lv_iconst (v := 1) hx hb dX9_year_11 (by decide) ?_
      refine lv_icmp_lt (tgt := 21) hx hb dX9_year_12 (by decide) (fun c12_5 => ?_) (fun c12_5 => ?_)
      · skip
        refine lv_iconst (v := (-1)) hx hb dX9_year_21 (by decide) ?_
        exact hret _ _ _ _ _ _ ⟨(-1), fc, z0_, z1_, z2_, z3_, mf1, mf2, mf3, mf4, mi1, mi2, mi3, wf, af, fi, sd, rfl, rfl, (by first | exact zA0 (fun z => zA_lt (by assumption) (by decide) z.1) | exact zA0 (fun z => zA_g60 (by assumption) z.1) | exact zA0 (fun z => zA_60 (by assumption) z.1) | exact zA0 (fun z => zA_1m (by assumption) z.2) | exact zA0 (fun z => zA_g20 (by assumption) z.2.1) | exact zA0 (fun z => zA_20 (by assumption) z.2.1) | exact zA1 ⟨⟨_, by omega, rfl⟩, zA_2y20 (by assumption) (by assumption)⟩ ⟨_, _, by assumption, by assumption, rfl, rfl, zE_e hdry (by omega)⟩), (by first | assumption | exact Or.inl rfl | exact Or.inr rfl | omega), (by first | assumption | exact Or.inl rfl | exact Or.inr rfl | omega)⟩ hw rfl dX9_year_22
      · skip
        have hlo6 : ¬ ar2 < 0 := zz_lo1 c12_5
        refine lv_iload_n hx hb dX9_year_15 rfl (lv_at hl 2 rfl) ?_
        refine lv_bipush (v := 20) hx hb dX9_year_16 (by decide) ?_
        refine lv_icmp_le (tgt := 23) hx hb dX9_year_18 (by decide) (fun c18_7 => ?_) (fun c18_7 => ?_)
        · skip
          obtain ⟨vq8, hvq8, rfl⟩ : ∃ k : Nat, k ≤ 20 ∧ ar2 = nI k := zz_rng hlo6 (Int32.not_lt.mpr c18_7) (by decide)
          refine lv_iconst (v := 0) hx hb dX9_year_23 (by decide) ?_
          refine lv_istore_n (lv' := [(3, .int 0), (0, .ref ob0), (1, .int (nI vq4)), (2, .int (nI vq8))]) hx hb dX9_year_24 rfl hl (by decide) rfl (fun ls hl => ?_)
          refine lv_iconst (v := 0) hx hb dX9_year_25 (by decide) ?_
          refine lv_istore (lv' := [(4, .int 0), (3, .int 0), (0, .ref ob0), (1, .int (nI vq4)), (2, .int (nI vq8))]) hx hb dX9_year_26 hl (by decide) rfl (fun ls hl => ?_)
          refine W.eq (g2 := F0 m 28 ls []) rfl ?_
          have lp28_124 : ∀ (vn10 vi9 : Nat) (vy72 : Int32) (vF73 : Nat → Int32) (vF74 : Nat → Int32) (vF75 : Nat → Int32) (vF76 : Nat → Int32) (vF77 : Nat → Int32) (vy78 : Int32) (vy79 : Int32) (vy80 : Int32) (vF81 : Nat → Int32) (vF82 : Nat → Int32) (vF83 : Nat → Int32) (vF84 : Nat → Int32) (vy85 : Int32) (vy86 : Int32) (vF87 : Nat → Int32) (vF88 : Nat → Int32) (H : Heap) (locs : List Loc) (ls : Array Slot), vi9 ≤ vq8 → vq8 < vi9 + vn10 → (∀ j, j < 6 → zz_ok 7 (vF87 j)) → (∀ j, j < 7 → zz_ok 6 (vF88 j)) → zE (fun i v => zA_D f0 g0 n0 u0 f1 g1 n1 u1 f2 g2 n2 u2 f3 g3 n3 u3 e1 e2 e3 e4 o1 o2 o3 m3 m6 m4 m7 i3 pp pq (i4 + nI i) (¬ (1 : Int32) = 0) vq4 (fun h1 E2 E3 E4 O2 O3 => ∃ C B x y, zk_F f0 g0 n0 u0 (zm_S 99 h1 E2 m3 m6 m4 m7 E4 O2) (fun x => ¬ zm_bit o1 (nI x) = 0) i3 pp pq (C, B, x, y) ∧ v = zC1 (x = nI pq))) vi9 vy72 → zz_w G A s [(ob0, .inr (9, [.ref ut, .int uf1, .ref h1, .int uf3, .ref sc, .ref dr0, .ref k0, .ref my0, .ref c0, .ref ga, .ref pa0, .ref t0, .ref sl0, .ref hd0])), (sc, .inr (5, [.ref s1, .ref s2, .ref s3, .ref s4, .ref s5, .ref s6, .ref s7, .ref s8, .ref s9, .int (nI pp), .int (nI pq), .int i3, .int i4])), (s3, .inl (G.2 0, 7, .inl m3)), (s4, .inl (G.2 0, 7, .inl m4)), (s6, .inl (G.2 0, 6, .inl m6)), (s7, .inl (G.2 0, 6, .inl m7)), (s9, .inl (G.2 0, 9, .inl vF73)), (s8, .inl (G.2 4, 4, .inr (.inr (.inr (.inr (va_up (va_up (va_up (va_up (fun _ => none) 0 (some w0)) 1 (some w1)) 2 (some w2)) 3 (some w3))))))), (w0, .inr (2, [.ref x0, .ref x1, .ref x2, .int (nI n0), .int (nI u0)])), (x0, .inl (G.2 0, 400, .inl f0)), (x1, .inl (G.2 0, 14, .inl g0)), (x2, .inl (G.2 0, 32, .inl vF74)), (w1, .inr (2, [.ref x3, .ref x4, .ref x5, .int (nI n1), .int (nI u1)])), (x3, .inl (G.2 0, 400, .inl f1)), (x4, .inl (G.2 0, 14, .inl g1)), (x5, .inl (G.2 0, 32, .inl vF75)), (w2, .inr (2, [.ref x6, .ref x7, .ref x8, .int (nI n2), .int (nI u2)])), (x6, .inl (G.2 0, 400, .inl f2)), (x7, .inl (G.2 0, 14, .inl g2)), (x8, .inl (G.2 0, 32, .inl vF76)), (w3, .inr (2, [.ref x9, .ref x10, .ref x11, .int (nI n3), .int (nI u3)])), (x9, .inl (G.2 0, 400, .inl f3)), (x10, .inl (G.2 0, 14, .inl g3)), (x11, .inl (G.2 0, 32, .inl vF77)), (s5, .inl (G.2 0, 6, .inl m5)), (k0, .inr (6, [.ref b1, .ref b2, .ref b3, .ref b4, .int o1, .int o2, .int o3])), (b1, .inl (G.2 0, 7, .inl e1)), (b2, .inl (G.2 0, 6, .inl e2)), (b3, .inl (G.2 0, 7, .inl e3)), (b4, .inl (G.2 0, 42, .inl e4)), (my0, .inr (6, [.ref my1, .ref my2, .ref my3, .ref my4, .int vy78, .int vy79, .int vy80])), (my1, .inl (G.2 0, 7, .inl vF81)), (my2, .inl (G.2 0, 6, .inl vF82)), (my3, .inl (G.2 0, 7, .inl vF83)), (my4, .inl (G.2 0, 42, .inl vF84)), (c0, .inr (0, [.ref a1, .ref a2, .int vy85, .int vy86])), (a1, .inl (G.2 0, 6, .inl vF87)), (a2, .inl (G.2 0, 7, .inl vF88))] H locs → lv_has ls 5 [(4, .int (nI vi9)), (3, .int vy72), (0, .ref ob0), (1, .int (nI vq4)), (2, .int (nI vq8))] → W p l e (zz_rm 7 0 0) s m args below meth c H locs (0) (0) Q (F0 m 28 ls []) := by
            intro vn10
            induction vn10 with
            | zero => intro vi9 vy72 vF73 vF74 vF75 vF76 vF77 vy78 vy79 vy80 vF81 vF82 vF83 vF84 vy85 vy86 vF87 vF88 H locs ls hi1 hi2; exact absurd hi2 (by omega)
            | succ vn10 ih28 =>
              intro vi9 vy72 vF73 vF74 vF75 vF76 vF77 vy78 vy79 vy80 vF81 vF82 vF83 vF84 vy85 vy86 vF87 vF88 H locs ls hi28a hi28b hv28_121 hv28_122 hv28_123 hw hl
              refine lv_iload hx hb dX9_year_28 (lv_at hl 0 rfl) ?_
              refine lv_iload_n hx hb dX9_year_30 rfl (lv_at hl 4 rfl) ?_
              refine lv_icmp_ge (tgt := 119) hx hb dX9_year_31 (by decide) (fun c31_125 => ?_) (fun c31_125 => ?_)
              · skip
                have c31_125n : vq8 ≤ vi9 := (zz_le (a := vq8) (b := vi9) rfl rfl (by omega) (by omega)).mp c31_125
                refine lv_iload_n hx hb dX9_year_119 rfl (lv_at hl 1 rfl) ?_
                exact hret _ _ _ _ _ _ ⟨vy72, vF73, vF74, vF75, vF76, vF77, vF81, vF82, vF83, vF84, vy78, vy79, vy80, vF87, vF88, vy85, vy86, rfl, rfl, (by first | exact zA0 (fun z => zA_lt (by assumption) (by decide) z.1) | exact zA0 (fun z => zA_g60 (by assumption) z.1) | exact zA0 (fun z => zA_60 (by assumption) z.1) | exact zA0 (fun z => zA_1m (by assumption) z.2) | exact zA0 (fun z => zA_g20 (by assumption) z.2.1) | exact zA0 (fun z => zA_20 (by assumption) z.2.1) | exact zA1 ⟨⟨_, by omega, rfl⟩, zA_2y20 (by assumption) (by assumption)⟩ ⟨_, _, by assumption, by assumption, rfl, rfl, zE_e hv28_123 (by omega)⟩), (by first | assumption | exact Or.inl rfl | exact Or.inr rfl | omega), (by first | assumption | exact Or.inl rfl | exact Or.inr rfl | omega)⟩ hw rfl dX9_year_120
              · skip
                have c31_125n : ¬ (vq8 ≤ vi9) := fun z => c31_125 ((zz_le (a := vq8) (b := vi9) rfl rfl (by omega) (by omega)).mpr z)
                refine lv_aload_n hx hb dX9_year_34 rfl (lv_at hl 2 rfl) ?_
                refine zz_get (v := .ref my0) S hw fgX9_44 0 rfl rfl dX9_year_35 ?_
                refine lv_aload_n hx hb dX9_year_38 rfl (lv_at hl 2 rfl) ?_
                refine zz_get (v := .ref k0) S hw fgX9_40 0 rfl rfl dX9_year_39 ?_
                refine zz_callV (qb := 30) (As := [.ref k0]) (rest := []) (wr := [(ob0, .inr (9, [.ref ut, .int uf1, .ref h1, .int uf3, .ref sc, .ref dr0, .ref k0, .ref my0, .ref c0, .ref ga, .ref pa0, .ref t0, .ref sl0, .ref hd0])), (sc, .inr (5, [.ref s1, .ref s2, .ref s3, .ref s4, .ref s5, .ref s6, .ref s7, .ref s8, .ref s9, .int (nI pp), .int (nI pq), .int i3, .int i4])), (s3, .inl (G.2 0, 7, .inl m3)), (s4, .inl (G.2 0, 7, .inl m4)), (s6, .inl (G.2 0, 6, .inl m6)), (s7, .inl (G.2 0, 6, .inl m7)), (s9, .inl (G.2 0, 9, .inl vF73)), (s8, .inl (G.2 4, 4, .inr (.inr (.inr (.inr (va_up (va_up (va_up (va_up (fun _ => none) 0 (some w0)) 1 (some w1)) 2 (some w2)) 3 (some w3))))))), (w0, .inr (2, [.ref x0, .ref x1, .ref x2, .int (nI n0), .int (nI u0)])), (x0, .inl (G.2 0, 400, .inl f0)), (x1, .inl (G.2 0, 14, .inl g0)), (x2, .inl (G.2 0, 32, .inl vF74)), (w1, .inr (2, [.ref x3, .ref x4, .ref x5, .int (nI n1), .int (nI u1)])), (x3, .inl (G.2 0, 400, .inl f1)), (x4, .inl (G.2 0, 14, .inl g1)), (x5, .inl (G.2 0, 32, .inl vF75)), (w2, .inr (2, [.ref x6, .ref x7, .ref x8, .int (nI n2), .int (nI u2)])), (x6, .inl (G.2 0, 400, .inl f2)), (x7, .inl (G.2 0, 14, .inl g2)), (x8, .inl (G.2 0, 32, .inl vF76)), (w3, .inr (2, [.ref x9, .ref x10, .ref x11, .int (nI n3), .int (nI u3)])), (x9, .inl (G.2 0, 400, .inl f3)), (x10, .inl (G.2 0, 14, .inl g3)), (x11, .inl (G.2 0, 32, .inl vF77)), (s5, .inl (G.2 0, 6, .inl m5)), (c0, .inr (0, [.ref a1, .ref a2, .int vy85, .int vy86])), (a1, .inl (G.2 0, 6, .inl vF87)), (a2, .inl (G.2 0, 7, .inl vF88))]) S hw hl.1 lX9_244 (c_gcopyFrom l G my0 my1 my2 my3 my4 vF81 vF82 vF83 vF84 vy78 vy79 vy80 k0 b1 b2 b3 b4 e1 e2 e3 e4 o1 o2 o3) ⟨Nat.le_of_ble_eq_true rfl, Nat.le_of_ble_eq_true rfl⟩ ⟨Nat.le_of_ble_eq_true rfl, Nat.le_of_ble_eq_true rfl⟩ [30, 31, 32, 33, 34, 25, 26, 27, 28, 29] [0, 1, 2, 3, 4, 5, 6, 7, 8, 9, 10, 11, 12, 13, 14, 15, 16, 17, 18, 19, 20, 21, 22, 23, 24, 35, 36, 37] (by decide +kernel) rfl rfl (by decide +kernel) (by decide +kernel) rfl rfl rfl rfl (Nat.le_of_ble_eq_true rfl) dX9_year_42 ?_
                clear hw
                intro rr u H locs hp hw
                refine hp.elim fun hh1_126 zg0 => zg0.elim fun hh2_127 zg1 => zg1.elim fun hh3_128 zg2 => zg2.elim fun hh4_129 zg3 => zg3.elim fun zee1 zg4 => zg4.elim fun zee2 hq42_0 => ?_
                clear hp zg0 zg1 zg2 zg3 zg4
                subst zee1
                subst zee2
                replace hw : zz_w G A s [(ob0, .inr (9, [.ref ut, .int uf1, .ref h1, .int uf3, .ref sc, .ref dr0, .ref k0, .ref my0, .ref c0, .ref ga, .ref pa0, .ref t0, .ref sl0, .ref hd0])), (sc, .inr (5, [.ref s1, .ref s2, .ref s3, .ref s4, .ref s5, .ref s6, .ref s7, .ref s8, .ref s9, .int (nI pp), .int (nI pq), .int i3, .int i4])), (s3, .inl (G.2 0, 7, .inl m3)), (s4, .inl (G.2 0, 7, .inl m4)), (s6, .inl (G.2 0, 6, .inl m6)), (s7, .inl (G.2 0, 6, .inl m7)), (s9, .inl (G.2 0, 9, .inl vF73)), (s8, .inl (G.2 4, 4, .inr (.inr (.inr (.inr (va_up (va_up (va_up (va_up (fun _ => none) 0 (some w0)) 1 (some w1)) 2 (some w2)) 3 (some w3))))))), (w0, .inr (2, [.ref x0, .ref x1, .ref x2, .int (nI n0), .int (nI u0)])), (x0, .inl (G.2 0, 400, .inl f0)), (x1, .inl (G.2 0, 14, .inl g0)), (x2, .inl (G.2 0, 32, .inl vF74)), (w1, .inr (2, [.ref x3, .ref x4, .ref x5, .int (nI n1), .int (nI u1)])), (x3, .inl (G.2 0, 400, .inl f1)), (x4, .inl (G.2 0, 14, .inl g1)), (x5, .inl (G.2 0, 32, .inl vF75)), (w2, .inr (2, [.ref x6, .ref x7, .ref x8, .int (nI n2), .int (nI u2)])), (x6, .inl (G.2 0, 400, .inl f2)), (x7, .inl (G.2 0, 14, .inl g2)), (x8, .inl (G.2 0, 32, .inl vF76)), (w3, .inr (2, [.ref x9, .ref x10, .ref x11, .int (nI n3), .int (nI u3)])), (x9, .inl (G.2 0, 400, .inl f3)), (x10, .inl (G.2 0, 14, .inl g3)), (x11, .inl (G.2 0, 32, .inl vF77)), (s5, .inl (G.2 0, 6, .inl m5)), (c0, .inr (0, [.ref a1, .ref a2, .int vy85, .int vy86])), (a1, .inl (G.2 0, 6, .inl vF87)), (a2, .inl (G.2 0, 7, .inl vF88)), (my0, .inr (6, [.ref my1, .ref my2, .ref my3, .ref my4, .int o1, .int o2, .int o3])), (my1, .inl (G.2 0, 7, .inl hh1_126)), (my2, .inl (G.2 0, 6, .inl hh2_127)), (my3, .inl (G.2 0, 7, .inl hh3_128)), (my4, .inl (G.2 0, 42, .inl hh4_129)), (k0, .inr (6, [.ref b1, .ref b2, .ref b3, .ref b4, .int o1, .int o2, .int o3])), (b1, .inl (G.2 0, 7, .inl e1)), (b2, .inl (G.2 0, 6, .inl e2)), (b3, .inl (G.2 0, 7, .inl e3)), (b4, .inl (G.2 0, 42, .inl e4))] H _ := hw
                refine W.eq (g2 := F0 m 45 ls []) rfl ?_
                refine lv_aload_n hx hb dX9_year_45 rfl (lv_at hl 2 rfl) ?_
                refine zz_get (v := .ref c0) S hw fgX9_50 0 rfl rfl dX9_year_46 ?_
                refine lv_aload_n hx hb dX9_year_49 rfl (lv_at hl 2 rfl) ?_
                refine zz_get (v := .ref sc) S hw fgX9_30 0 rfl rfl dX9_year_50 ?_
                refine lv_aload_n hx hb dX9_year_53 rfl (lv_at hl 2 rfl) ?_
                refine zz_get (v := .ref my0) S hw fgX9_44 0 rfl rfl dX9_year_54 ?_
                refine W.eq (g2 := F0 m 57 ls [.ref my0, .ref sc, .ref c0]) rfl ?_
                refine lv_iload_n hx hb dX9_year_57 rfl (lv_at hl 3 rfl) ?_
                refine lv_aload_n hx hb dX9_year_58 rfl (lv_at hl 2 rfl) ?_
                refine zz_get (v := .ref sc) S hw fgX9_30 0 rfl rfl dX9_year_59 ?_
                refine zz_get (v := .int i4) S hw fgX9_190 1 rfl rfl dX9_year_62 ?_
                refine lv_iload hx hb dX9_year_65 (lv_at hl 0 rfl) ?_
                refine lv_iadd hx hb dX9_year_67 ?_
                refine lv_topi (fun z130 ez130 => ?_)
                refine lv_iconst (v := 1) hx hb dX9_year_68 (by decide) ?_
                refine zz_callV (qb := 25) (As := [.ref sc, .ref my0, .int (nI vq4), .int z130, .int 1]) (rest := []) (wr := [(ob0, .inr (9, [.ref ut, .int uf1, .ref h1, .int uf3, .ref sc, .ref dr0, .ref k0, .ref my0, .ref c0, .ref ga, .ref pa0, .ref t0, .ref sl0, .ref hd0])), (s5, .inl (G.2 0, 6, .inl m5)), (k0, .inr (6, [.ref b1, .ref b2, .ref b3, .ref b4, .int o1, .int o2, .int o3])), (b1, .inl (G.2 0, 7, .inl e1)), (b2, .inl (G.2 0, 6, .inl e2)), (b3, .inl (G.2 0, 7, .inl e3)), (b4, .inl (G.2 0, 42, .inl e4))]) S hw hl.1 lX9_193 (c_gpassDays l G c0 a1 a2 vF87 vF88 vy85 vy86 sc s1 s2 s3 s4 s5 s6 s7 s8 s9 w0 w1 w2 w3 x0 x1 x2 x3 x4 x5 x6 x7 x8 x9 x10 x11 pp pq i3 i4 m3 m4 m6 m7 vF73 f0 g0 n0 u0 vF74 f1 g1 n1 u1 vF75 f2 g2 n2 u2 vF76 f3 g3 n3 u3 vF77 my0 my1 my2 my3 my4 hh1_126 hh2_127 hh3_128 hh4_129 o1 o2 o3 vq4 z130 1 (by first | assumption | omega | exact Or.inr ⟨_, by omega, rfl⟩ | (unfold zz_sok; decide) | decide | exact (fun j hj => (hv7 j hj).1)) (by first | assumption | omega | exact Or.inr ⟨_, by omega, rfl⟩ | (unfold zz_sok; decide) | decide | exact (fun j hj => (hv7 j hj).1)) (by first | assumption | omega | exact Or.inr ⟨_, by omega, rfl⟩ | (unfold zz_sok; decide) | decide | exact (fun j hj => (hv7 j hj).1)) (by first | assumption | omega | exact Or.inr ⟨_, by omega, rfl⟩ | (unfold zz_sok; decide) | decide | exact (fun j hj => (hv7 j hj).1)) (by first | assumption | omega | exact Or.inr ⟨_, by omega, rfl⟩ | (unfold zz_sok; decide) | decide | exact (fun j hj => (hv7 j hj).1)) (by first | assumption | omega | exact Or.inr ⟨_, by omega, rfl⟩ | (unfold zz_sok; decide) | decide | exact (fun j hj => (hv7 j hj).1)) (by first | assumption | omega | exact Or.inr ⟨_, by omega, rfl⟩ | (unfold zz_sok; decide) | decide | exact (fun j hj => (hv7 j hj).1)) (by first | assumption | omega | exact Or.inr ⟨_, by omega, rfl⟩ | (unfold zz_sok; decide) | decide | exact (fun j hj => (hv7 j hj).1)) (by first | assumption | omega | exact Or.inr ⟨_, by omega, rfl⟩ | (unfold zz_sok; decide) | decide | exact (fun j hj => (hv7 j hj).1))) ⟨Nat.le_of_ble_eq_true rfl, Nat.le_of_ble_eq_true rfl⟩ ⟨Nat.le_of_ble_eq_true rfl, Nat.le_of_ble_eq_true rfl⟩ [25, 26, 27, 1, 2, 3, 4, 5, 6, 7, 8, 9, 10, 11, 12, 13, 14, 15, 16, 17, 18, 19, 20, 21, 22, 23, 28, 29, 30, 31, 32] [0, 24, 33, 34, 35, 36, 37] (by decide +kernel) rfl rfl (by decide +kernel) (by decide +kernel) rfl rfl rfl rfl (Nat.le_of_ble_eq_true rfl) dX9_year_69 ?_
                clear hw
                intro rr u H locs hp hw
                refine hp.elim fun rv_131 zg0 => zg0.elim fun ww_132 zg1 => zg1.elim fun aa_133 zg2 => zg2.elim fun fi2_134 zg3 => zg3.elim fun sd2_135 zg4 => zg4.elim fun fcc_136 zg5 => zg5.elim fun zz0_137 zg6 => zg6.elim fun zz1_138 zg7 => zg7.elim fun zz2_139 zg8 => zg8.elim fun zz3_140 zg9 => zg9.elim fun ee2_141 zg10 => zg10.elim fun ee3_142 zg11 => zg11.elim fun ee4_143 zg12 => zg12.elim fun oo2_144 zg13 => zg13.elim fun oo3_145 zg14 => zg14.elim fun zee1 zg15 => zg15.elim fun zee2 zg16 => zg16.elim fun hq69_0 zg17 => zg17.elim fun hq69_1 zg18 => zg18.elim fun hq69_2 hq69_3 => ?_
                clear hp zg0 zg1 zg2 zg3 zg4 zg5 zg6 zg7 zg8 zg9 zg10 zg11 zg12 zg13 zg14 zg15 zg16 zg17 zg18
                subst zee1
                subst zee2
                replace hw : zz_w G A s [(ob0, .inr (9, [.ref ut, .int uf1, .ref h1, .int uf3, .ref sc, .ref dr0, .ref k0, .ref my0, .ref c0, .ref ga, .ref pa0, .ref t0, .ref sl0, .ref hd0])), (s5, .inl (G.2 0, 6, .inl m5)), (k0, .inr (6, [.ref b1, .ref b2, .ref b3, .ref b4, .int o1, .int o2, .int o3])), (b1, .inl (G.2 0, 7, .inl e1)), (b2, .inl (G.2 0, 6, .inl e2)), (b3, .inl (G.2 0, 7, .inl e3)), (b4, .inl (G.2 0, 42, .inl e4)), (c0, .inr (0, [.ref a1, .ref a2, .int fi2_134, .int sd2_135])), (a1, .inl (G.2 0, 6, .inl ww_132)), (a2, .inl (G.2 0, 7, .inl aa_133)), (sc, .inr (5, [.ref s1, .ref s2, .ref s3, .ref s4, .ref s5, .ref s6, .ref s7, .ref s8, .ref s9, .int (nI pp), .int (nI pq), .int i3, .int i4])), (s3, .inl (G.2 0, 7, .inl m3)), (s4, .inl (G.2 0, 7, .inl m4)), (s6, .inl (G.2 0, 6, .inl m6)), (s7, .inl (G.2 0, 6, .inl m7)), (s9, .inl (G.2 0, 9, .inl fcc_136)), (s8, .inl (G.2 4, 4, .inr (.inr (.inr (.inr (va_up (va_up (va_up (va_up (fun _ => none) 0 (some w0)) 1 (some w1)) 2 (some w2)) 3 (some w3))))))), (w0, .inr (2, [.ref x0, .ref x1, .ref x2, .int (nI n0), .int (nI u0)])), (x0, .inl (G.2 0, 400, .inl f0)), (x1, .inl (G.2 0, 14, .inl g0)), (x2, .inl (G.2 0, 32, .inl zz0_137)), (w1, .inr (2, [.ref x3, .ref x4, .ref x5, .int (nI n1), .int (nI u1)])), (x3, .inl (G.2 0, 400, .inl f1)), (x4, .inl (G.2 0, 14, .inl g1)), (x5, .inl (G.2 0, 32, .inl zz1_138)), (w2, .inr (2, [.ref x6, .ref x7, .ref x8, .int (nI n2), .int (nI u2)])), (x6, .inl (G.2 0, 400, .inl f2)), (x7, .inl (G.2 0, 14, .inl g2)), (x8, .inl (G.2 0, 32, .inl zz2_139)), (w3, .inr (2, [.ref x9, .ref x10, .ref x11, .int (nI n3), .int (nI u3)])), (x9, .inl (G.2 0, 400, .inl f3)), (x10, .inl (G.2 0, 14, .inl g3)), (x11, .inl (G.2 0, 32, .inl zz3_140)), (my0, .inr (6, [.ref my1, .ref my2, .ref my3, .ref my4, .int o1, .int oo2_144, .int oo3_145])), (my1, .inl (G.2 0, 7, .inl hh1_126)), (my2, .inl (G.2 0, 6, .inl ee2_141)), (my3, .inl (G.2 0, 7, .inl ee3_142)), (my4, .inl (G.2 0, 42, .inl ee4_143))] H _ := hw
                refine W.eq (g2 := F0 m 72 ls [.int rv_131]) rfl ?_
                refine lv_pop hx hb dX9_year_72 rfl ?_
                refine lv_aload_n hx hb dX9_year_73 rfl (lv_at hl 2 rfl) ?_
                refine zz_get (v := .ref c0) S hw fgX9_50 0 rfl rfl dX9_year_74 ?_
                refine lv_aload_n hx hb dX9_year_77 rfl (lv_at hl 2 rfl) ?_
                refine zz_get (v := .ref sc) S hw fgX9_30 0 rfl rfl dX9_year_78 ?_
                refine lv_aload_n hx hb dX9_year_81 rfl (lv_at hl 2 rfl) ?_
                refine W.eq (g2 := F0 m 82 ls [.ref ob0, .ref sc, .ref c0]) rfl ?_
                refine zz_get (v := .ref my0) S hw fgX9_44 0 rfl rfl dX9_year_82 ?_
                refine zz_callV (qb := 7) (As := [.ref sc, .ref my0]) (rest := []) (wr := [(ob0, .inr (9, [.ref ut, .int uf1, .ref h1, .int uf3, .ref sc, .ref dr0, .ref k0, .ref my0, .ref c0, .ref ga, .ref pa0, .ref t0, .ref sl0, .ref hd0])), (s5, .inl (G.2 0, 6, .inl m5)), (k0, .inr (6, [.ref b1, .ref b2, .ref b3, .ref b4, .int o1, .int o2, .int o3])), (b1, .inl (G.2 0, 7, .inl e1)), (b2, .inl (G.2 0, 6, .inl e2)), (b3, .inl (G.2 0, 7, .inl e3)), (b4, .inl (G.2 0, 42, .inl e4)), (my3, .inl (G.2 0, 7, .inl ee3_142))]) S hw hl.1 lX9_141 (c_gfill l G c0 a1 a2 ww_132 aa_133 fi2_134 sd2_135 sc s1 s2 s3 s4 s5 s6 s7 s8 s9 w0 w1 w2 w3 x0 x1 x2 x3 x4 x5 x6 x7 x8 x9 x10 x11 pp pq i3 i4 m3 m4 m6 m7 fcc_136 f0 g0 n0 u0 zz0_137 f1 g1 n1 u1 zz1_138 f2 g2 n2 u2 zz2_139 f3 g3 n3 u3 zz3_140 my0 my1 my2 my3 my4 hh1_126 ee2_141 ee4_143 o1 oo2_144 oo3_145 (by first | assumption | omega | exact Or.inr ⟨_, by omega, rfl⟩ | (unfold zz_sok; decide) | decide | exact (fun j hj => (hv7 j hj).1)) (by first | assumption | omega | exact Or.inr ⟨_, by omega, rfl⟩ | (unfold zz_sok; decide) | decide | exact (fun j hj => (hv7 j hj).1)) (by first | assumption | omega | exact Or.inr ⟨_, by omega, rfl⟩ | (unfold zz_sok; decide) | decide | exact (fun j hj => (hv7 j hj).1)) (by first | assumption | omega | exact Or.inr ⟨_, by omega, rfl⟩ | (unfold zz_sok; decide) | decide | exact (fun j hj => (hv7 j hj).1)) (by first | assumption | omega | exact Or.inr ⟨_, by omega, rfl⟩ | (unfold zz_sok; decide) | decide | exact (fun j hj => (hv7 j hj).1)) (by first | assumption | omega | exact Or.inr ⟨_, by omega, rfl⟩ | (unfold zz_sok; decide) | decide | exact (fun j hj => (hv7 j hj).1)) (by first | assumption | omega | exact Or.inr ⟨_, by omega, rfl⟩ | (unfold zz_sok; decide) | decide | exact (fun j hj => (hv7 j hj).1)) (by first | assumption | omega | exact Or.inr ⟨_, by omega, rfl⟩ | (unfold zz_sok; decide) | decide | exact (fun j hj => (hv7 j hj).1))) ⟨Nat.le_of_ble_eq_true rfl, Nat.le_of_ble_eq_true rfl⟩ ⟨Nat.le_of_ble_eq_true rfl, Nat.le_of_ble_eq_true rfl⟩ [7, 8, 9, 10, 11, 12, 13, 14, 15, 16, 17, 18, 19, 20, 21, 22, 23, 24, 25, 26, 27, 28, 29, 30, 31, 32, 33, 34, 35, 37] [0, 1, 2, 3, 4, 5, 6, 36] (by decide +kernel) rfl rfl (by decide +kernel) (by decide +kernel) rfl rfl rfl rfl (Nat.le_of_ble_eq_true rfl) dX9_year_85 ?_
                clear hw
                intro rr u H locs hp hw
                refine hp.elim fun ww_146 zg0 => zg0.elim fun aa_147 zg1 => zg1.elim fun fi2_148 zg2 => zg2.elim fun sd2_149 zg3 => zg3.elim fun fcc_150 zg4 => zg4.elim fun zz0_151 zg5 => zg5.elim fun zz1_152 zg6 => zg6.elim fun zz2_153 zg7 => zg7.elim fun zz3_154 zg8 => zg8.elim fun zee1 zg9 => zg9.elim fun zee2 zg10 => zg10.elim fun hq85_0 zg11 => zg11.elim fun hq85_1 hq85_2 => ?_
                clear hp zg0 zg1 zg2 zg3 zg4 zg5 zg6 zg7 zg8 zg9 zg10 zg11
                subst zee1
                subst zee2
                replace hw : zz_w G A s [(ob0, .inr (9, [.ref ut, .int uf1, .ref h1, .int uf3, .ref sc, .ref dr0, .ref k0, .ref my0, .ref c0, .ref ga, .ref pa0, .ref t0, .ref sl0, .ref hd0])), (s5, .inl (G.2 0, 6, .inl m5)), (k0, .inr (6, [.ref b1, .ref b2, .ref b3, .ref b4, .int o1, .int o2, .int o3])), (b1, .inl (G.2 0, 7, .inl e1)), (b2, .inl (G.2 0, 6, .inl e2)), (b3, .inl (G.2 0, 7, .inl e3)), (b4, .inl (G.2 0, 42, .inl e4)), (my3, .inl (G.2 0, 7, .inl ee3_142)), (c0, .inr (0, [.ref a1, .ref a2, .int fi2_148, .int sd2_149])), (a1, .inl (G.2 0, 6, .inl ww_146)), (a2, .inl (G.2 0, 7, .inl aa_147)), (sc, .inr (5, [.ref s1, .ref s2, .ref s3, .ref s4, .ref s5, .ref s6, .ref s7, .ref s8, .ref s9, .int (nI pp), .int (nI pq), .int i3, .int i4])), (s3, .inl (G.2 0, 7, .inl m3)), (s4, .inl (G.2 0, 7, .inl m4)), (s6, .inl (G.2 0, 6, .inl m6)), (s7, .inl (G.2 0, 6, .inl m7)), (s9, .inl (G.2 0, 9, .inl fcc_150)), (s8, .inl (G.2 4, 4, .inr (.inr (.inr (.inr (va_up (va_up (va_up (va_up (fun _ => none) 0 (some w0)) 1 (some w1)) 2 (some w2)) 3 (some w3))))))), (w0, .inr (2, [.ref x0, .ref x1, .ref x2, .int (nI n0), .int (nI u0)])), (x0, .inl (G.2 0, 400, .inl f0)), (x1, .inl (G.2 0, 14, .inl g0)), (x2, .inl (G.2 0, 32, .inl zz0_151)), (w1, .inr (2, [.ref x3, .ref x4, .ref x5, .int (nI n1), .int (nI u1)])), (x3, .inl (G.2 0, 400, .inl f1)), (x4, .inl (G.2 0, 14, .inl g1)), (x5, .inl (G.2 0, 32, .inl zz1_152)), (w2, .inr (2, [.ref x6, .ref x7, .ref x8, .int (nI n2), .int (nI u2)])), (x6, .inl (G.2 0, 400, .inl f2)), (x7, .inl (G.2 0, 14, .inl g2)), (x8, .inl (G.2 0, 32, .inl zz2_153)), (w3, .inr (2, [.ref x9, .ref x10, .ref x11, .int (nI n3), .int (nI u3)])), (x9, .inl (G.2 0, 400, .inl f3)), (x10, .inl (G.2 0, 14, .inl g3)), (x11, .inl (G.2 0, 32, .inl zz3_154)), (my0, .inr (6, [.ref my1, .ref my2, .ref my3, .ref my4, .int o1, .int oo2_144, .int oo3_145])), (my1, .inl (G.2 0, 7, .inl hh1_126)), (my2, .inl (G.2 0, 6, .inl ee2_141)), (my4, .inl (G.2 0, 42, .inl ee4_143))] H _ := hw
                refine W.eq (g2 := F0 m 88 ls []) rfl ?_
                refine lv_iload_n hx hb dX9_year_88 rfl (lv_at hl 1 rfl) ?_
                refine lv_aload_n hx hb dX9_year_89 rfl (lv_at hl 2 rfl) ?_
                refine zz_get (v := .ref c0) S hw fgX9_50 0 rfl rfl dX9_year_90 ?_
                refine zz_get (v := .int fi2_148) S hw fgX9_261 8 rfl rfl dX9_year_93 ?_
                refine lv_aload_n hx hb dX9_year_96 rfl (lv_at hl 2 rfl) ?_
                refine zz_get (v := .ref sc) S hw fgX9_30 0 rfl rfl dX9_year_97 ?_
                refine zz_get (v := .int (nI pq)) S hw fgX9_108 11 rfl rfl dX9_year_100 ?_
                refine lv_icmp_ne (tgt := 110) hx hb dX9_year_103 (by decide) (fun c103_155 => ?_) (fun c103_155 => ?_)
                · skip
                  refine lv_iconst (v := 0) hx hb dX9_year_110 (by decide) ?_
                  refine lv_iadd hx hb dX9_year_111 ?_
                  refine zz_topi (y := vy72) (Int32.add_zero _) ?_
                  refine lv_istore_n (lv' := [(3, .int vy72), (4, .int (nI vi9)), (0, .ref ob0), (1, .int (nI vq4)), (2, .int (nI vq8))]) hx hb dX9_year_112 rfl hl (by decide) rfl (fun ls hl => ?_)
                  refine lv_iinc (v := (nI (vi9 + 1))) (lv' := [(4, .int (nI (vi9 + 1))), (3, .int vy72), (0, .ref ob0), (1, .int (nI vq4)), (2, .int (nI vq8))]) hx hb dX9_year_113 hl (k := 1) rfl (nI_add _ 1) (by decide) rfl (fun ls hl => ?_)
                  refine lv_goto (tgt := 28) hx hb dX9_year_116 (by decide) ?_
                  refine W.eq (g2 := F0 m 28 ls []) rfl ?_
                  exact ih28 (vi9 + 1) vy72 fcc_150 zz0_151 zz1_152 zz2_153 zz3_154 o1 oo2_144 oo3_145 hh1_126 ee2_141 ee3_142 ee4_143 fi2_148 sd2_149 ww_146 aa_147 _ _ _ (by omega) (by omega) (by first | assumption | exact Or.inl rfl | exact Or.inr rfl | omega) (by first | assumption | exact Or.inl rfl | exact Or.inr rfl | omega) (by first | exact zE_s hv28_123 (by assumption) ⟨_, _, _, _, _, _, _, _, _, _, hq42_0, zd_Hz (by assumption) hq69_3, _, _, _, _, hq85_2, (zC_1 (by assumption)).symm⟩ | exact zE_x1 hv28_123 ⟨_, _, _, _, _, _, _, _, _, _, hq42_0, zd_Hz (by assumption) hq69_3, _, _, _, _, hq85_2, (zC_1 (by assumption)).symm⟩ | exact zE_x0 hv28_123 ⟨_, _, _, _, _, _, _, _, _, _, hq42_0, zd_Hz (by assumption) hq69_3, _, _, _, _, hq85_2, (zC_0 (by assumption)).symm⟩) (hw.sub [0, 11, 12, 13, 14, 15, 16, 17, 18, 19, 20, 21, 22, 23, 24, 25, 26, 27, 28, 29, 30, 31, 32, 33, 1, 2, 3, 4, 5, 6, 34, 35, 36, 7, 37, 8, 9, 10] (by decide +kernel) rfl) (lv_sub hl [0, 1, 2, 3, 4] rfl)
                · skip
                  refine lv_iconst (v := 1) hx hb dX9_year_106 (by decide) ?_
                  refine lv_goto (tgt := 111) hx hb dX9_year_107 (by decide) ?_
                  refine lv_iadd hx hb dX9_year_111 ?_
                  refine lv_topi (fun z156 ez156 => ?_)
                  refine lv_istore_n (lv' := [(3, .int z156), (4, .int (nI vi9)), (0, .ref ob0), (1, .int (nI vq4)), (2, .int (nI vq8))]) hx hb dX9_year_112 rfl hl (by decide) rfl (fun ls hl => ?_)
                  refine lv_iinc (v := (nI (vi9 + 1))) (lv' := [(4, .int (nI (vi9 + 1))), (3, .int z156), (0, .ref ob0), (1, .int (nI vq4)), (2, .int (nI vq8))]) hx hb dX9_year_113 hl (k := 1) rfl (nI_add _ 1) (by decide) rfl (fun ls hl => ?_)
                  refine lv_goto (tgt := 28) hx hb dX9_year_116 (by decide) ?_
                  exact ih28 (vi9 + 1) z156 fcc_150 zz0_151 zz1_152 zz2_153 zz3_154 o1 oo2_144 oo3_145 hh1_126 ee2_141 ee3_142 ee4_143 fi2_148 sd2_149 ww_146 aa_147 _ _ _ (by omega) (by omega) (by first | assumption | exact Or.inl rfl | exact Or.inr rfl | omega) (by first | assumption | exact Or.inl rfl | exact Or.inr rfl | omega) (by first | exact zE_s hv28_123 (by assumption) ⟨_, _, _, _, _, _, _, _, _, _, hq42_0, zd_Hz (by assumption) hq69_3, _, _, _, _, hq85_2, (zC_1 (by assumption)).symm⟩ | exact zE_x1 hv28_123 ⟨_, _, _, _, _, _, _, _, _, _, hq42_0, zd_Hz (by assumption) hq69_3, _, _, _, _, hq85_2, (zC_1 (by assumption)).symm⟩ | exact zE_x0 hv28_123 ⟨_, _, _, _, _, _, _, _, _, _, hq42_0, zd_Hz (by assumption) hq69_3, _, _, _, _, hq85_2, (zC_0 (by assumption)).symm⟩) (hw.sub [0, 11, 12, 13, 14, 15, 16, 17, 18, 19, 20, 21, 22, 23, 24, 25, 26, 27, 28, 29, 30, 31, 32, 33, 1, 2, 3, 4, 5, 6, 34, 35, 36, 7, 37, 8, 9, 10] (by decide +kernel) rfl) (lv_sub hl [0, 1, 2, 3, 4] rfl)
          exact lp28_124 (vq8 + 1 - 0) 0 0 fc z0_ z1_ z2_ z3_ mi1 mi2 mi3 mf1 mf2 mf3 mf4 fi sd wf af _ _ _ (by omega) (by omega) (by first | assumption | exact Or.inl rfl | exact Or.inr rfl | omega) (by first | assumption | exact Or.inl rfl | exact Or.inr rfl | omega) zE_0 hw (lv_sub hl [0, 1, 2, 3, 4] rfl)
        · skip
          refine lv_iconst (v := (-1)) hx hb dX9_year_21 (by decide) ?_
          exact hret _ _ _ _ _ _ ⟨(-1), fc, z0_, z1_, z2_, z3_, mf1, mf2, mf3, mf4, mi1, mi2, mi3, wf, af, fi, sd, rfl, rfl, (by first | exact zA0 (fun z => zA_lt (by assumption) (by decide) z.1) | exact zA0 (fun z => zA_g60 (by assumption) z.1) | exact zA0 (fun z => zA_60 (by assumption) z.1) | exact zA0 (fun z => zA_1m (by assumption) z.2) | exact zA0 (fun z => zA_g20 (by assumption) z.2.1) | exact zA0 (fun z => zA_20 (by assumption) z.2.1) | exact zA1 ⟨⟨_, by omega, rfl⟩, zA_2y20 (by assumption) (by assumption)⟩ ⟨_, _, by assumption, by assumption, rfl, rfl, zE_e hdry (by omega)⟩), (by first | assumption | exact Or.inl rfl | exact Or.inr rfl | omega), (by first | assumption | exact Or.inl rfl | exact Or.inr rfl | omega)⟩ hw rfl dX9_year_22
theorem kd_ncX9_tell : kd_ck 304021972714883159193095963179276590558071963068818286692521786007564458794 31 cX9_tell.data.toList 0 = true := by decide +kernel
theorem dX9_tell_0 : decode cX9_tell 0 = .ok (.aload_n 0, 1) := kd_dk0 kd_o42 kd_ncX9_tell rfl
theorem dX9_tell_1 : decode cX9_tell 1 = .ok (.iload_n 1, 1) := kd_dk0 kd_o27 kd_ncX9_tell rfl
theorem dX9_tell_2 : decode cX9_tell 2 = .ok (.invokevirtual 154, 3) := kd_dk2 kd_o182 kd_ncX9_tell rfl
theorem dX9_tell_5 : decode cX9_tell 5 = .ok (.ifCond .eq 13, 3) := kd_dj2 kd_o153 (w := 13) kd_ncX9_tell rfl rfl
theorem dX9_tell_8 : decode cX9_tell 8 = .ok (.iload_n 2, 1) := kd_dk0 kd_o28 kd_ncX9_tell rfl
theorem dX9_tell_9 : decode cX9_tell 9 = .ok (.ifCond .lt 9, 3) := kd_dj2 kd_o155 (w := 9) kd_ncX9_tell rfl rfl
theorem dX9_tell_12 : decode cX9_tell 12 = .ok (.iload_n 2, 1) := kd_dk0 kd_o28 kd_ncX9_tell rfl
theorem dX9_tell_13 : decode cX9_tell 13 = .ok (.bipush 99, 2) := kd_dj1 kd_o16 (w := 99) kd_ncX9_tell rfl rfl
theorem dX9_tell_15 : decode cX9_tell 15 = .ok (.if_icmp .le 5, 3) := kd_dj2 kd_o164 (w := 5) kd_ncX9_tell rfl rfl
theorem dX9_tell_18 : decode cX9_tell 18 = .ok (.iconst (-1), 1) := kd_dk0 kd_o2 kd_ncX9_tell rfl
theorem dX9_tell_19 : decode cX9_tell 19 = .ok (.ireturn, 1) := kd_dk0 kd_o172 kd_ncX9_tell rfl
theorem dX9_tell_20 : decode cX9_tell 20 = .ok (.aload_n 0, 1) := kd_dk0 kd_o42 kd_ncX9_tell rfl
theorem dX9_tell_21 : decode cX9_tell 21 = .ok (.getfield 71, 3) := kd_dk2 kd_o180 kd_ncX9_tell rfl
theorem dX9_tell_24 : decode cX9_tell 24 = .ok (.iload_n 1, 1) := kd_dk0 kd_o27 kd_ncX9_tell rfl
theorem dX9_tell_25 : decode cX9_tell 25 = .ok (.iload_n 2, 1) := kd_dk0 kd_o28 kd_ncX9_tell rfl
theorem dX9_tell_26 : decode cX9_tell 26 = .ok (.iload_n 3, 1) := kd_dk0 kd_o29 kd_ncX9_tell rfl
theorem dX9_tell_27 : decode cX9_tell 27 = .ok (.invokevirtual 274, 3) := kd_dk2 kd_o182 kd_ncX9_tell rfl
theorem dX9_tell_30 : decode cX9_tell 30 = .ok (.ireturn, 1) := kd_dk0 kd_o172 kd_ncX9_tell rfl
set_option maxHeartbeats 8000000 in
set_option maxRecDepth 100000 in
theorem c_g_tell (l : Launch) (G : zz_G) (ob0 : Nat) (ut : Nat) (uf1 : Int32) (h1 : Nat) (uf3 : Int32) (sc : Nat) (dr0 : Nat) (k0 : Nat) (my0 : Nat) (c0 : Nat) (ga : Nat) (pa0 : Nat) (t0 : Nat) (sl0 : Nat) (hd0 : Nat) (s1 : Nat) (s2 : Nat) (s3 : Nat) (s4 : Nat) (s5 : Nat) (s6 : Nat) (s7 : Nat) (s8 : Nat) (s9 : Nat) (pp : Nat) (pq : Nat) (i3 : Int32) (i4 : Int32) (t1 : Nat) (t2 : Nat) (t3 : Nat) (tp : Nat → Int32) (tw : Nat → Int32) (ts : Nat → Int32) (tm : Nat) (ar1 : Int32) (ar2 : Int32) (ar3 : Int32) (hpp : pp ≤ 7) (hpq : pq ≤ 6) (htm : tm ≤ 20) (htp : ∀ j, j < 20 → ∃ q : Nat, q < 6 ∧ tp j = nI q) : zz_M l G mX9_tell 1 0 0 [.ref ob0, .int ar1, .int ar2, .int ar3] [(ob0, .inr (9, [.ref ut, .int uf1, .ref h1, .int uf3, .ref sc, .ref dr0, .ref k0, .ref my0, .ref c0, .ref ga, .ref pa0, .ref t0, .ref sl0, .ref hd0])), (sc, .inr (5, [.ref s1, .ref s2, .ref s3, .ref s4, .ref s5, .ref s6, .ref s7, .ref s8, .ref s9, .int (nI pp), .int (nI pq), .int i3, .int i4])), (t0, .inr (8, [.ref t1, .ref t2, .ref t3, .int (nI tm)])), (t1, .inl (G.2 0, 20, .inl tp)), (t2, .inl (G.2 0, 20, .inl tw)), (t3, .inl (G.2 2, 20, .inl ts))] (fun rr u => ∃ (rv : Int32), ∃ (tmm : Nat), ∃ (tpp : Nat → Int32), ∃ (tww : Nat → Int32), ∃ (tss : Nat → Int32), rr = some (.int rv) ∧ u = [(ob0, .inr (9, [.ref ut, .int uf1, .ref h1, .int uf3, .ref sc, .ref dr0, .ref k0, .ref my0, .ref c0, .ref ga, .ref pa0, .ref t0, .ref sl0, .ref hd0])), (sc, .inr (5, [.ref s1, .ref s2, .ref s3, .ref s4, .ref s5, .ref s6, .ref s7, .ref s8, .ref s9, .int (nI pp), .int (nI pq), .int i3, .int i4])), (t0, .inr (8, [.ref t1, .ref t2, .ref t3, .int (nI tmm)])), (t1, .inl (G.2 0, 20, .inl tpp)), (t2, .inl (G.2 0, 20, .inl tww)), (t3, .inl (G.2 2, 20, .inl tss))] ∧ (zz_tle pq tm ar1 ar2 rv tmm) ∧ (tmm ≤ 20) ∧ (∀ j, j < 20 → ∃ q : Nat, q < 6 ∧ tpp j = nI q)) := by
  refine zz_enteri (by decide +kernel) (Nat.le_of_ble_eq_true rfl) ?_
  intro p e s m args below meth c A Q ls S hnm hret hw hl
  have hl : lv_has ls 4 [(0, .ref ob0), (1, .int ar1), (2, .int ar2), (3, .int ar3)] := hl
  have hx := S.1
  have hb := S.2.1
  refine lv_aload_n hx hb dX9_tell_0 rfl (lv_at hl 0 rfl) ?_
  refine lv_iload_n hx hb dX9_tell_1 rfl (lv_at hl 1 rfl) ?_
  refine zz_callV (qb := 0) (As := [.int ar1]) (rest := []) (wr := [(t0, .inr (8, [.ref t1, .ref t2, .ref t3, .int (nI tm)])), (t1, .inl (G.2 0, 20, .inl tp)), (t2, .inl (G.2 0, 20, .inl tw)), (t3, .inl (G.2 2, 20, .inl ts))]) S hw hl.1 lX9_154 (c_g_isPart l G ob0 ut uf1 h1 uf3 sc dr0 k0 my0 c0 ga pa0 t0 sl0 hd0 s1 s2 s3 s4 s5 s6 s7 s8 s9 pp pq i3 i4 ar1 (by first | assumption | omega | exact Or.inr ⟨_, by omega, rfl⟩ | (unfold zz_sok; decide) | decide | exact (fun j hj => (hv7 j hj).1)) (by first | assumption | omega | exact Or.inr ⟨_, by omega, rfl⟩ | (unfold zz_sok; decide) | decide | exact (fun j hj => (hv7 j hj).1))) ⟨Nat.le_of_ble_eq_true rfl, Nat.le_of_ble_eq_true rfl⟩ ⟨Nat.le_of_ble_eq_true rfl, Nat.le_of_ble_eq_true rfl⟩ [0, 1] [2, 3, 4, 5] (by decide) rfl rfl (by decide) (by decide) rfl rfl rfl rfl (Nat.le_of_ble_eq_true rfl) dX9_tell_2 ?_
  clear hw
  intro rr u H locs hp hw
  refine hp.elim fun rv_1 zg0 => zg0.elim fun zee1 zg1 => zg1.elim fun zee2 zg2 => zg2.elim fun hq2_0 hq2_1 => ?_
  clear hp zg0 zg1 zg2
  subst zee1
  subst zee2
  replace hw : zz_w G A s [(t0, .inr (8, [.ref t1, .ref t2, .ref t3, .int (nI tm)])), (t1, .inl (G.2 0, 20, .inl tp)), (t2, .inl (G.2 0, 20, .inl tw)), (t3, .inl (G.2 2, 20, .inl ts)), (ob0, .inr (9, [.ref ut, .int uf1, .ref h1, .int uf3, .ref sc, .ref dr0, .ref k0, .ref my0, .ref c0, .ref ga, .ref pa0, .ref t0, .ref sl0, .ref hd0])), (sc, .inr (5, [.ref s1, .ref s2, .ref s3, .ref s4, .ref s5, .ref s6, .ref s7, .ref s8, .ref s9, .int (nI pp), .int (nI pq), .int i3, .int i4]))] H _ := hw
  refine W.eq (g2 := F0 m 5 ls [.int rv_1]) rfl ?_
  refine lv_if_eq (tgt := 18) hx hb dX9_tell_5 (by decide) (fun c5_2 => ?_) (fun c5_2 => ?_)
  · skip
    refine lv_iconst (v := (-1)) hx hb dX9_tell_18 (by decide) ?_
    exact hret _ _ _ _ _ _ ⟨(-1), tm, tp, tw, ts, rfl, rfl, (by first | exact zz_tl1 (by assumption) (by assumption) | exact zz_tl2 (by assumption) | exact zz_tl3 (by assumption) | exact zz_tl3 (Int32.not_le.mp (by assumption)) | exact zz_tl4 (by assumption) (by assumption) | exact zz_tl5 (by omega) | exact zz_tl6 (by omega) (by omega) (by omega) | exact zz_tl7 (by omega) (by omega) (by assumption)), (by first | assumption | omega), (by first | assumption | omega)⟩ (hw.sub [4, 5, 0, 1, 2, 3] (by decide) rfl) rfl dX9_tell_19
  · skip
    obtain ⟨vq3, hvq3, rfl⟩ := hq2_0.resolve_left c5_2
    refine lv_iload_n hx hb dX9_tell_8 rfl (lv_at hl 2 rfl) ?_
    refine lv_if_lt (tgt := 18) hx hb dX9_tell_9 (by decide) (fun c9_4 => ?_) (fun c9_4 => ?_)
    · skip
      refine lv_iconst (v := (-1)) hx hb dX9_tell_18 (by decide) ?_
      exact hret _ _ _ _ _ _ ⟨(-1), tm, tp, tw, ts, rfl, rfl, (by first | exact zz_tl1 (by assumption) (by assumption) | exact zz_tl2 (by assumption) | exact zz_tl3 (by assumption) | exact zz_tl3 (Int32.not_le.mp (by assumption)) | exact zz_tl4 (by assumption) (by assumption) | exact zz_tl5 (by omega) | exact zz_tl6 (by omega) (by omega) (by omega) | exact zz_tl7 (by omega) (by omega) (by assumption)), (by first | assumption | omega), (by first | assumption | omega)⟩ (hw.sub [4, 5, 0, 1, 2, 3] (by decide) rfl) rfl dX9_tell_19
    · skip
      have hlo5 : ¬ ar2 < 0 := zz_lo0 c9_4
      refine lv_iload_n hx hb dX9_tell_12 rfl (lv_at hl 2 rfl) ?_
      refine lv_bipush (v := 99) hx hb dX9_tell_13 (by decide) ?_
      refine lv_icmp_le (tgt := 20) hx hb dX9_tell_15 (by decide) (fun c15_6 => ?_) (fun c15_6 => ?_)
      · skip
        obtain ⟨vq7, hvq7, rfl⟩ : ∃ k : Nat, k ≤ 99 ∧ ar2 = nI k := zz_rng hlo5 (Int32.not_lt.mpr c15_6) (by decide)
        refine lv_aload_n hx hb dX9_tell_20 rfl (lv_at hl 0 rfl) ?_
        refine zz_get (v := .ref t0) S hw fgX9_71 4 rfl rfl dX9_tell_21 ?_
        refine lv_iload_n hx hb dX9_tell_24 rfl (lv_at hl 1 rfl) ?_
        refine lv_iload_n hx hb dX9_tell_25 rfl (lv_at hl 2 rfl) ?_
        refine lv_iload_n hx hb dX9_tell_26 rfl (lv_at hl 3 rfl) ?_
        refine zz_callV (qb := 0) (As := [.int (nI vq3), .int (nI vq7), .int ar3]) (rest := []) (wr := [(ob0, .inr (9, [.ref ut, .int uf1, .ref h1, .int uf3, .ref sc, .ref dr0, .ref k0, .ref my0, .ref c0, .ref ga, .ref pa0, .ref t0, .ref sl0, .ref hd0])), (sc, .inr (5, [.ref s1, .ref s2, .ref s3, .ref s4, .ref s5, .ref s6, .ref s7, .ref s8, .ref s9, .int (nI pp), .int (nI pq), .int i3, .int i4]))]) S hw hl.1 lX9_274 (c_gTadd l G t0 t1 t2 t3 tp tw ts tm vq3 (nI vq7) ar3 (by first | assumption | omega | exact Or.inr ⟨_, by omega, rfl⟩ | (unfold zz_sok; decide) | decide | exact (fun j hj => (hv7 j hj).1)) (by first | assumption | omega | exact Or.inr ⟨_, by omega, rfl⟩ | (unfold zz_sok; decide) | decide | exact (fun j hj => (hv7 j hj).1)) (by first | assumption | omega | exact Or.inr ⟨_, by omega, rfl⟩ | (unfold zz_sok; decide) | decide | exact (fun j hj => (hv7 j hj).1))) ⟨Nat.le_of_ble_eq_true rfl, Nat.le_of_ble_eq_true rfl⟩ ⟨Nat.le_of_ble_eq_true rfl, Nat.le_of_ble_eq_true rfl⟩ [0, 1, 2, 3] [4, 5] (by decide) rfl rfl (by decide) (by decide) rfl rfl rfl rfl (Nat.le_of_ble_eq_true rfl) dX9_tell_27 ?_
        clear hw
        intro rr u H locs hp hw
        refine hp.elim fun rv_8 zg0 => zg0.elim fun tpp_9 zg1 => zg1.elim fun tww_10 zg2 => zg2.elim fun tss_11 zg3 => zg3.elim fun tmm_12 zg4 => zg4.elim fun zee1 zg5 => zg5.elim fun zee2 zg6 => zg6.elim fun hq27_0 zg7 => zg7.elim fun hq27_1 hq27_2 => ?_
        clear hp zg0 zg1 zg2 zg3 zg4 zg5 zg6 zg7
        subst zee1
        subst zee2
        replace hw : zz_w G A s [(ob0, .inr (9, [.ref ut, .int uf1, .ref h1, .int uf3, .ref sc, .ref dr0, .ref k0, .ref my0, .ref c0, .ref ga, .ref pa0, .ref t0, .ref sl0, .ref hd0])), (sc, .inr (5, [.ref s1, .ref s2, .ref s3, .ref s4, .ref s5, .ref s6, .ref s7, .ref s8, .ref s9, .int (nI pp), .int (nI pq), .int i3, .int i4])), (t0, .inr (8, [.ref t1, .ref t2, .ref t3, .int (nI tmm_12)])), (t1, .inl (G.2 0, 20, .inl tpp_9)), (t2, .inl (G.2 0, 20, .inl tww_10)), (t3, .inl (G.2 2, 20, .inl tss_11))] H _ := hw
        refine W.eq (g2 := F0 m 30 ls [.int rv_8]) rfl ?_
        refine W.eq (g2 := F0 m 30 ls [.int rv_8]) rfl ?_
        exact hret _ _ _ _ _ _ ⟨rv_8, tmm_12, tpp_9, tww_10, tss_11, rfl, rfl, (by first | exact zz_tl1 (by assumption) (by assumption) | exact zz_tl2 (by assumption) | exact zz_tl3 (by assumption) | exact zz_tl3 (Int32.not_le.mp (by assumption)) | exact zz_tl4 (by assumption) (by assumption) | exact zz_tl5 (by omega) | exact zz_tl6 (by omega) (by omega) (by omega) | exact zz_tl7 (by omega) (by omega) (by assumption)), (by first | assumption | omega), (by first | assumption | omega)⟩ hw rfl dX9_tell_30
      · skip
        refine lv_iconst (v := (-1)) hx hb dX9_tell_18 (by decide) ?_
        exact hret _ _ _ _ _ _ ⟨(-1), tm, tp, tw, ts, rfl, rfl, (by first | exact zz_tl1 (by assumption) (by assumption) | exact zz_tl2 (by assumption) | exact zz_tl3 (by assumption) | exact zz_tl3 (Int32.not_le.mp (by assumption)) | exact zz_tl4 (by assumption) (by assumption) | exact zz_tl5 (by omega) | exact zz_tl6 (by omega) (by omega) (by omega) | exact zz_tl7 (by omega) (by omega) (by assumption)), (by first | assumption | omega), (by first | assumption | omega)⟩ (hw.sub [4, 5, 0, 1, 2, 3] (by decide) rfl) rfl dX9_tell_19
theorem kd_ncX9_forget : kd_ck 58564996279602395930440687200011898893354 17 cX9_forget.data.toList 0 = true := by decide +kernel
theorem dX9_forget_0 : decode cX9_forget 0 = .ok (.aload_n 0, 1) := kd_dk0 kd_o42 kd_ncX9_forget rfl
theorem dX9_forget_1 : decode cX9_forget 1 = .ok (.getfield 71, 3) := kd_dk2 kd_o180 kd_ncX9_forget rfl
theorem dX9_forget_4 : decode cX9_forget 4 = .ok (.getfield 278, 3) := kd_dk2 kd_o180 kd_ncX9_forget rfl
theorem dX9_forget_7 : decode cX9_forget 7 = .ok (.istore_n 1, 1) := kd_dk0 kd_o60 kd_ncX9_forget rfl
theorem dX9_forget_8 : decode cX9_forget 8 = .ok (.aload_n 0, 1) := kd_dk0 kd_o42 kd_ncX9_forget rfl
theorem dX9_forget_9 : decode cX9_forget 9 = .ok (.getfield 71, 3) := kd_dk2 kd_o180 kd_ncX9_forget rfl
theorem dX9_forget_12 : decode cX9_forget 12 = .ok (.invokevirtual 104, 3) := kd_dk2 kd_o182 kd_ncX9_forget rfl
theorem dX9_forget_15 : decode cX9_forget 15 = .ok (.iload_n 1, 1) := kd_dk0 kd_o27 kd_ncX9_forget rfl
theorem dX9_forget_16 : decode cX9_forget 16 = .ok (.ireturn, 1) := kd_dk0 kd_o172 kd_ncX9_forget rfl
set_option maxHeartbeats 8000000 in
set_option maxRecDepth 100000 in
theorem c_g_forget (l : Launch) (G : zz_G) (ob0 : Nat) (ut : Nat) (uf1 : Int32) (h1 : Nat) (uf3 : Int32) (sc : Nat) (dr0 : Nat) (k0 : Nat) (my0 : Nat) (c0 : Nat) (ga : Nat) (pa0 : Nat) (t0 : Nat) (sl0 : Nat) (hd0 : Nat) (t1 : Nat) (t2 : Nat) (t3 : Nat) (tp : Nat → Int32) (tw : Nat → Int32) (ts : Nat → Int32) (tm : Nat) (htm : tm ≤ 20) (htp : ∀ j, j < 20 → ∃ q : Nat, q < 6 ∧ tp j = nI q) : zz_M l G mX9_forget 1 0 0 [.ref ob0] [(ob0, .inr (9, [.ref ut, .int uf1, .ref h1, .int uf3, .ref sc, .ref dr0, .ref k0, .ref my0, .ref c0, .ref ga, .ref pa0, .ref t0, .ref sl0, .ref hd0])), (t0, .inr (8, [.ref t1, .ref t2, .ref t3, .int (nI tm)])), (t1, .inl (G.2 0, 20, .inl tp)), (t2, .inl (G.2 0, 20, .inl tw)), (t3, .inl (G.2 2, 20, .inl ts))] (fun rr u => ∃ (rv : Int32), ∃ (tmm : Nat), ∃ (tpp : Nat → Int32), ∃ (tww : Nat → Int32), ∃ (tss : Nat → Int32), rr = some (.int rv) ∧ u = [(ob0, .inr (9, [.ref ut, .int uf1, .ref h1, .int uf3, .ref sc, .ref dr0, .ref k0, .ref my0, .ref c0, .ref ga, .ref pa0, .ref t0, .ref sl0, .ref hd0])), (t0, .inr (8, [.ref t1, .ref t2, .ref t3, .int (nI tmm)])), (t1, .inl (G.2 0, 20, .inl tpp)), (t2, .inl (G.2 0, 20, .inl tww)), (t3, .inl (G.2 2, 20, .inl tss))] ∧ (rv = nI tm ∧ tmm = 0) ∧ (tmm ≤ 20) ∧ (∀ j, j < 20 → ∃ q : Nat, q < 6 ∧ tpp j = nI q)) := by
  refine zz_enteri (by decide +kernel) (Nat.le_of_ble_eq_true rfl) ?_
  intro p e s m args below meth c A Q ls S hnm hret hw hl
  have hl : lv_has ls 2 [(0, .ref ob0)] := hl
  have hx := S.1
  have hb := S.2.1
  refine lv_aload_n hx hb dX9_forget_0 rfl (lv_at hl 0 rfl) ?_
  refine zz_get (v := .ref t0) S hw fgX9_71 0 rfl rfl dX9_forget_1 ?_
  refine zz_get (v := .int (nI tm)) S hw fgX9_278 1 rfl rfl dX9_forget_4 ?_
  refine lv_istore_n (lv' := [(1, .int (nI tm)), (0, .ref ob0)]) hx hb dX9_forget_7 rfl hl (by decide) rfl (fun ls hl => ?_)
  refine lv_aload_n hx hb dX9_forget_8 rfl (lv_at hl 1 rfl) ?_
  refine zz_get (v := .ref t0) S hw fgX9_71 0 rfl rfl dX9_forget_9 ?_
  refine zz_callV (qb := 1) (As := []) (rest := []) (wr := [(ob0, .inr (9, [.ref ut, .int uf1, .ref h1, .int uf3, .ref sc, .ref dr0, .ref k0, .ref my0, .ref c0, .ref ga, .ref pa0, .ref t0, .ref sl0, .ref hd0])), (t1, .inl (G.2 0, 20, .inl tp)), (t2, .inl (G.2 0, 20, .inl tw)), (t3, .inl (G.2 2, 20, .inl ts))]) S hw hl.1 lX9_104 (c_gTclear l G t0 t1 t2 t3 (nI tm)) ⟨Nat.le_of_ble_eq_true rfl, Nat.le_of_ble_eq_true rfl⟩ ⟨Nat.le_of_ble_eq_true rfl, Nat.le_of_ble_eq_true rfl⟩ [1] [0, 2, 3, 4] (by decide) rfl rfl (by decide) (by decide) rfl rfl rfl rfl (Nat.le_of_ble_eq_true rfl) dX9_forget_12 ?_
  clear hw
  intro rr u H locs hp hw
  refine hp.elim fun zee1 zee2 => ?_
  clear hp
  subst zee1
  subst zee2
  replace hw : zz_w G A s [(ob0, .inr (9, [.ref ut, .int uf1, .ref h1, .int uf3, .ref sc, .ref dr0, .ref k0, .ref my0, .ref c0, .ref ga, .ref pa0, .ref t0, .ref sl0, .ref hd0])), (t1, .inl (G.2 0, 20, .inl tp)), (t2, .inl (G.2 0, 20, .inl tw)), (t3, .inl (G.2 2, 20, .inl ts)), (t0, .inr (8, [.ref t1, .ref t2, .ref t3, .int 0]))] H _ := hw
  refine W.eq (g2 := F0 m 15 ls []) rfl ?_
  refine lv_iload_n hx hb dX9_forget_15 rfl (lv_at hl 0 rfl) ?_
  exact hret _ _ _ _ _ _ ⟨(nI tm), 0, tp, tw, ts, rfl, rfl, ⟨rfl, rfl⟩, (by first | assumption | omega), (by first | assumption | omega)⟩ (hw.sub [0, 4, 1, 2, 3] (by decide) rfl) rfl dX9_forget_16
theorem kd_ncX9_who : kd_ck 7456460128371521393405991182035756585113209202057581348109402508057519208117977822871430326756039003821373696407129061165920983835 54 cX9_who.data.toList 0 = true := by decide +kernel
theorem dX9_who_0 : decode cX9_who 0 = .ok (.iload_n 1, 1) := kd_dk0 kd_o27 kd_ncX9_who rfl
theorem dX9_who_1 : decode cX9_who 1 = .ok (.ifCond .lt 21, 3) := kd_dj2 kd_o155 (w := 21) kd_ncX9_who rfl rfl
theorem dX9_who_4 : decode cX9_who 4 = .ok (.iload_n 1, 1) := kd_dk0 kd_o27 kd_ncX9_who rfl
theorem dX9_who_5 : decode cX9_who 5 = .ok (.aload_n 0, 1) := kd_dk0 kd_o42 kd_ncX9_who rfl
theorem dX9_who_6 : decode cX9_who 6 = .ok (.getfield 71, 3) := kd_dk2 kd_o180 kd_ncX9_who rfl
theorem dX9_who_9 : decode cX9_who 9 = .ok (.getfield 278, 3) := kd_dk2 kd_o180 kd_ncX9_who rfl
theorem dX9_who_12 : decode cX9_who 12 = .ok (.if_icmp .gt 10, 3) := kd_dj2 kd_o163 (w := 10) kd_ncX9_who rfl rfl
theorem dX9_who_15 : decode cX9_who 15 = .ok (.iload_n 2, 1) := kd_dk0 kd_o28 kd_ncX9_who rfl
theorem dX9_who_16 : decode cX9_who 16 = .ok (.invokestatic 210, 3) := kd_dk2 kd_o184 kd_ncX9_who rfl
theorem dX9_who_19 : decode cX9_who 19 = .ok (.ifCond .ne 5, 3) := kd_dj2 kd_o154 (w := 5) kd_ncX9_who rfl rfl
theorem dX9_who_22 : decode cX9_who 22 = .ok (.iconst (-1), 1) := kd_dk0 kd_o2 kd_ncX9_who rfl
theorem dX9_who_23 : decode cX9_who 23 = .ok (.ireturn, 1) := kd_dk0 kd_o172 kd_ncX9_who rfl
theorem dX9_who_24 : decode cX9_who 24 = .ok (.aload_n 0, 1) := kd_dk0 kd_o42 kd_ncX9_who rfl
theorem dX9_who_25 : decode cX9_who 25 = .ok (.getfield 71, 3) := kd_dk2 kd_o180 kd_ncX9_who rfl
theorem dX9_who_28 : decode cX9_who 28 = .ok (.iload_n 1, 1) := kd_dk0 kd_o27 kd_ncX9_who rfl
theorem dX9_who_29 : decode cX9_who 29 = .ok (.aload_n 0, 1) := kd_dk0 kd_o42 kd_ncX9_who rfl
theorem dX9_who_30 : decode cX9_who 30 = .ok (.getfield 30, 3) := kd_dk2 kd_o180 kd_ncX9_who rfl
theorem dX9_who_33 : decode cX9_who 33 = .ok (.aload_n 0, 1) := kd_dk0 kd_o42 kd_ncX9_who rfl
theorem dX9_who_34 : decode cX9_who 34 = .ok (.getfield 40, 3) := kd_dk2 kd_o180 kd_ncX9_who rfl
theorem dX9_who_37 : decode cX9_who 37 = .ok (.invokevirtual 281, 3) := kd_dk2 kd_o182 kd_ncX9_who rfl
theorem dX9_who_40 : decode cX9_who 40 = .ok (.istore_n 3, 1) := kd_dk0 kd_o62 kd_ncX9_who rfl
theorem dX9_who_41 : decode cX9_who 41 = .ok (.iload_n 2, 1) := kd_dk0 kd_o28 kd_ncX9_who rfl
theorem dX9_who_42 : decode cX9_who 42 = .ok (.ifCond .ne 10, 3) := kd_dj2 kd_o154 (w := 10) kd_ncX9_who rfl rfl
theorem dX9_who_45 : decode cX9_who 45 = .ok (.iload_n 3, 1) := kd_dk0 kd_o29 kd_ncX9_who rfl
theorem dX9_who_46 : decode cX9_who 46 = .ok (.invokestatic 285, 3) := kd_dk2 kd_o184 kd_ncX9_who rfl
theorem dX9_who_49 : decode cX9_who 49 = .ok (.goto 4, 3) := kd_dj2 kd_o167 (w := 4) kd_ncX9_who rfl rfl
theorem dX9_who_52 : decode cX9_who 52 = .ok (.iload_n 3, 1) := kd_dk0 kd_o29 kd_ncX9_who rfl
theorem dX9_who_53 : decode cX9_who 53 = .ok (.ireturn, 1) := kd_dk0 kd_o172 kd_ncX9_who rfl
set_option maxHeartbeats 8000000 in
set_option maxRecDepth 100000 in
theorem c_g_who (l : Launch) (G : zz_G) (ob0 : Nat) (ut : Nat) (uf1 : Int32) (h1 : Nat) (uf3 : Int32) (sc : Nat) (dr0 : Nat) (k0 : Nat) (my0 : Nat) (c0 : Nat) (ga : Nat) (pa0 : Nat) (t0 : Nat) (sl0 : Nat) (hd0 : Nat) (s1 : Nat) (s2 : Nat) (s3 : Nat) (s4 : Nat) (s5 : Nat) (s6 : Nat) (s7 : Nat) (s8 : Nat) (s9 : Nat) (w0 : Nat) (w1 : Nat) (w2 : Nat) (w3 : Nat) (x0 : Nat) (x1 : Nat) (x2 : Nat) (x3 : Nat) (x4 : Nat) (x5 : Nat) (x6 : Nat) (x7 : Nat) (x8 : Nat) (x9 : Nat) (x10 : Nat) (x11 : Nat) (pp : Nat) (pq : Nat) (i3 : Int32) (i4 : Int32) (m3 : Nat → Int32) (m4 : Nat → Int32) (m6 : Nat → Int32) (m7 : Nat → Int32) (fc : Nat → Int32) (f0 : Nat → Int32) (g0 : Nat → Int32) (n0 : Nat) (u0 : Nat) (z0_ : Nat → Int32) (f1 : Nat → Int32) (g1 : Nat → Int32) (n1 : Nat) (u1 : Nat) (z1_ : Nat → Int32) (f2 : Nat → Int32) (g2 : Nat → Int32) (n2 : Nat) (u2 : Nat) (z2_ : Nat → Int32) (f3 : Nat → Int32) (g3 : Nat → Int32) (n3 : Nat) (u3 : Nat) (z3_ : Nat → Int32) (m5 : Nat → Int32) (b1 : Nat) (b2 : Nat) (b3 : Nat) (b4 : Nat) (e1 : Nat → Int32) (e2 : Nat → Int32) (e3 : Nat → Int32) (e4 : Nat → Int32) (o1 : Int32) (o2 : Int32) (o3 : Int32) (t1 : Nat) (t2 : Nat) (t3 : Nat) (tp : Nat → Int32) (tw : Nat → Int32) (ts : Nat → Int32) (tm : Nat) (ar1 : Int32) (ar2 : Int32) (hv0 : zz_lwv f0 g0 n0 u0) (hv1 : zz_lwv f1 g1 n1 u1) (hv2 : zz_lwv f2 g2 n2 u2) (hv3 : zz_lwv f3 g3 n3 u3) (hpp : pp ≤ 7) (hpq : pq ≤ 6) (htm : tm ≤ 20) (htp : ∀ j, j < 20 → ∃ q : Nat, q < 6 ∧ tp j = nI q) : zz_M l G mX9_who 6 0 0 [.ref ob0, .int ar1, .int ar2] [(ob0, .inr (9, [.ref ut, .int uf1, .ref h1, .int uf3, .ref sc, .ref dr0, .ref k0, .ref my0, .ref c0, .ref ga, .ref pa0, .ref t0, .ref sl0, .ref hd0])), (sc, .inr (5, [.ref s1, .ref s2, .ref s3, .ref s4, .ref s5, .ref s6, .ref s7, .ref s8, .ref s9, .int (nI pp), .int (nI pq), .int i3, .int i4])), (s3, .inl (G.2 0, 7, .inl m3)), (s4, .inl (G.2 0, 7, .inl m4)), (s6, .inl (G.2 0, 6, .inl m6)), (s7, .inl (G.2 0, 6, .inl m7)), (s9, .inl (G.2 0, 9, .inl fc)), (s8, .inl (G.2 4, 4, .inr (.inr (.inr (.inr (va_up (va_up (va_up (va_up (fun _ => none) 0 (some w0)) 1 (some w1)) 2 (some w2)) 3 (some w3))))))), (w0, .inr (2, [.ref x0, .ref x1, .ref x2, .int (nI n0), .int (nI u0)])), (x0, .inl (G.2 0, 400, .inl f0)), (x1, .inl (G.2 0, 14, .inl g0)), (x2, .inl (G.2 0, 32, .inl z0_)), (w1, .inr (2, [.ref x3, .ref x4, .ref x5, .int (nI n1), .int (nI u1)])), (x3, .inl (G.2 0, 400, .inl f1)), (x4, .inl (G.2 0, 14, .inl g1)), (x5, .inl (G.2 0, 32, .inl z1_)), (w2, .inr (2, [.ref x6, .ref x7, .ref x8, .int (nI n2), .int (nI u2)])), (x6, .inl (G.2 0, 400, .inl f2)), (x7, .inl (G.2 0, 14, .inl g2)), (x8, .inl (G.2 0, 32, .inl z2_)), (w3, .inr (2, [.ref x9, .ref x10, .ref x11, .int (nI n3), .int (nI u3)])), (x9, .inl (G.2 0, 400, .inl f3)), (x10, .inl (G.2 0, 14, .inl g3)), (x11, .inl (G.2 0, 32, .inl z3_)), (s5, .inl (G.2 0, 6, .inl m5)), (k0, .inr (6, [.ref b1, .ref b2, .ref b3, .ref b4, .int o1, .int o2, .int o3])), (b1, .inl (G.2 0, 7, .inl e1)), (b2, .inl (G.2 0, 6, .inl e2)), (b3, .inl (G.2 0, 7, .inl e3)), (b4, .inl (G.2 0, 42, .inl e4)), (t0, .inr (8, [.ref t1, .ref t2, .ref t3, .int (nI tm)])), (t1, .inl (G.2 0, 20, .inl tp)), (t2, .inl (G.2 0, 20, .inl tw)), (t3, .inl (G.2 2, 20, .inl ts))] (fun rr u => ∃ (rv : Int32), ∃ (fcc : Nat → Int32), ∃ (zz0 : Nat → Int32), ∃ (zz1 : Nat → Int32), ∃ (zz2 : Nat → Int32), ∃ (zz3 : Nat → Int32), rr = some (.int rv) ∧ u = [(ob0, .inr (9, [.ref ut, .int uf1, .ref h1, .int uf3, .ref sc, .ref dr0, .ref k0, .ref my0, .ref c0, .ref ga, .ref pa0, .ref t0, .ref sl0, .ref hd0])), (sc, .inr (5, [.ref s1, .ref s2, .ref s3, .ref s4, .ref s5, .ref s6, .ref s7, .ref s8, .ref s9, .int (nI pp), .int (nI pq), .int i3, .int i4])), (s3, .inl (G.2 0, 7, .inl m3)), (s4, .inl (G.2 0, 7, .inl m4)), (s6, .inl (G.2 0, 6, .inl m6)), (s7, .inl (G.2 0, 6, .inl m7)), (s9, .inl (G.2 0, 9, .inl fcc)), (s8, .inl (G.2 4, 4, .inr (.inr (.inr (.inr (va_up (va_up (va_up (va_up (fun _ => none) 0 (some w0)) 1 (some w1)) 2 (some w2)) 3 (some w3))))))), (w0, .inr (2, [.ref x0, .ref x1, .ref x2, .int (nI n0), .int (nI u0)])), (x0, .inl (G.2 0, 400, .inl f0)), (x1, .inl (G.2 0, 14, .inl g0)), (x2, .inl (G.2 0, 32, .inl zz0)), (w1, .inr (2, [.ref x3, .ref x4, .ref x5, .int (nI n1), .int (nI u1)])), (x3, .inl (G.2 0, 400, .inl f1)), (x4, .inl (G.2 0, 14, .inl g1)), (x5, .inl (G.2 0, 32, .inl zz1)), (w2, .inr (2, [.ref x6, .ref x7, .ref x8, .int (nI n2), .int (nI u2)])), (x6, .inl (G.2 0, 400, .inl f2)), (x7, .inl (G.2 0, 14, .inl g2)), (x8, .inl (G.2 0, 32, .inl zz2)), (w3, .inr (2, [.ref x9, .ref x10, .ref x11, .int (nI n3), .int (nI u3)])), (x9, .inl (G.2 0, 400, .inl f3)), (x10, .inl (G.2 0, 14, .inl g3)), (x11, .inl (G.2 0, 32, .inl zz3)), (s5, .inl (G.2 0, 6, .inl m5)), (k0, .inr (6, [.ref b1, .ref b2, .ref b3, .ref b4, .int o1, .int o2, .int o3])), (b1, .inl (G.2 0, 7, .inl e1)), (b2, .inl (G.2 0, 6, .inl e2)), (b3, .inl (G.2 0, 7, .inl e3)), (b4, .inl (G.2 0, 42, .inl e4)), (t0, .inr (8, [.ref t1, .ref t2, .ref t3, .int (nI tm)])), (t1, .inl (G.2 0, 20, .inl tp)), (t2, .inl (G.2 0, 20, .inl tw)), (t3, .inl (G.2 2, 20, .inl ts))]) := by
  refine zz_enteri (by decide +kernel) (Nat.le_of_ble_eq_true rfl) ?_
  intro p e s m args below meth c A Q ls S hnm hret hw hl
  have hl : lv_has ls 4 [(0, .ref ob0), (1, .int ar1), (2, .int ar2)] := hl
  have hx := S.1
  have hb := S.2.1
  refine lv_iload_n hx hb dX9_who_0 rfl (lv_at hl 1 rfl) ?_
  refine lv_if_lt (tgt := 22) hx hb dX9_who_1 (by decide) (fun c1_1 => ?_) (fun c1_1 => ?_)
  · skip
    refine lv_iconst (v := (-1)) hx hb dX9_who_22 (by decide) ?_
    exact hret _ _ _ _ _ _ ⟨(-1), fc, z0_, z1_, z2_, z3_, rfl, rfl⟩ hw rfl dX9_who_23
  · skip
    have hlo2 : ¬ ar1 < 0 := zz_lo0 c1_1
    refine lv_iload_n hx hb dX9_who_4 rfl (lv_at hl 1 rfl) ?_
    refine lv_aload_n hx hb dX9_who_5 rfl (lv_at hl 0 rfl) ?_
    refine zz_get (v := .ref t0) S hw fgX9_71 0 rfl rfl dX9_who_6 ?_
    refine zz_get (v := .int (nI tm)) S hw fgX9_278 30 rfl rfl dX9_who_9 ?_
    refine lv_icmp_gt (tgt := 22) hx hb dX9_who_12 (by decide) (fun c12_3 => ?_) (fun c12_3 => ?_)
    · skip
      refine lv_iconst (v := (-1)) hx hb dX9_who_22 (by decide) ?_
      exact hret _ _ _ _ _ _ ⟨(-1), fc, z0_, z1_, z2_, z3_, rfl, rfl⟩ hw rfl dX9_who_23
    · skip
      refine lv_iload_n hx hb dX9_who_15 rfl (lv_at hl 2 rfl) ?_
      refine zz_callS (As := [.int ar2]) (rest := []) (wr := [(ob0, .inr (9, [.ref ut, .int uf1, .ref h1, .int uf3, .ref sc, .ref dr0, .ref k0, .ref my0, .ref c0, .ref ga, .ref pa0, .ref t0, .ref sl0, .ref hd0])), (sc, .inr (5, [.ref s1, .ref s2, .ref s3, .ref s4, .ref s5, .ref s6, .ref s7, .ref s8, .ref s9, .int (nI pp), .int (nI pq), .int i3, .int i4])), (s3, .inl (G.2 0, 7, .inl m3)), (s4, .inl (G.2 0, 7, .inl m4)), (s6, .inl (G.2 0, 6, .inl m6)), (s7, .inl (G.2 0, 6, .inl m7)), (s9, .inl (G.2 0, 9, .inl fc)), (s8, .inl (G.2 4, 4, .inr (.inr (.inr (.inr (va_up (va_up (va_up (va_up (fun _ => none) 0 (some w0)) 1 (some w1)) 2 (some w2)) 3 (some w3))))))), (w0, .inr (2, [.ref x0, .ref x1, .ref x2, .int (nI n0), .int (nI u0)])), (x0, .inl (G.2 0, 400, .inl f0)), (x1, .inl (G.2 0, 14, .inl g0)), (x2, .inl (G.2 0, 32, .inl z0_)), (w1, .inr (2, [.ref x3, .ref x4, .ref x5, .int (nI n1), .int (nI u1)])), (x3, .inl (G.2 0, 400, .inl f1)), (x4, .inl (G.2 0, 14, .inl g1)), (x5, .inl (G.2 0, 32, .inl z1_)), (w2, .inr (2, [.ref x6, .ref x7, .ref x8, .int (nI n2), .int (nI u2)])), (x6, .inl (G.2 0, 400, .inl f2)), (x7, .inl (G.2 0, 14, .inl g2)), (x8, .inl (G.2 0, 32, .inl z2_)), (w3, .inr (2, [.ref x9, .ref x10, .ref x11, .int (nI n3), .int (nI u3)])), (x9, .inl (G.2 0, 400, .inl f3)), (x10, .inl (G.2 0, 14, .inl g3)), (x11, .inl (G.2 0, 32, .inl z3_)), (s5, .inl (G.2 0, 6, .inl m5)), (k0, .inr (6, [.ref b1, .ref b2, .ref b3, .ref b4, .int o1, .int o2, .int o3])), (b1, .inl (G.2 0, 7, .inl e1)), (b2, .inl (G.2 0, 6, .inl e2)), (b3, .inl (G.2 0, 7, .inl e3)), (b4, .inl (G.2 0, 42, .inl e4)), (t0, .inr (8, [.ref t1, .ref t2, .ref t3, .int (nI tm)])), (t1, .inl (G.2 0, 20, .inl tp)), (t2, .inl (G.2 0, 20, .inl tw)), (t3, .inl (G.2 2, 20, .inl ts))]) S hw hl.1 lX9_210 (c_g_isOneOfTwo l G ar2) ⟨Nat.le_of_ble_eq_true rfl, Nat.le_of_ble_eq_true rfl⟩ ⟨Nat.le_of_ble_eq_true rfl, Nat.le_of_ble_eq_true rfl⟩ [] [0, 1, 2, 3, 4, 5, 6, 7, 8, 9, 10, 11, 12, 13, 14, 15, 16, 17, 18, 19, 20, 21, 22, 23, 24, 25, 26, 27, 28, 29, 30, 31, 32, 33] (by decide +kernel) rfl rfl (by decide +kernel) (by decide +kernel) rfl rfl (Nat.le_of_ble_eq_true rfl) dX9_who_16 ?_
      clear hw
      intro rr u H locs hp hw
      refine hp.elim fun rv_4 zg0 => zg0.elim fun zee1 zg1 => zg1.elim fun zee2 zg2 => zg2.elim fun hq16_0 hq16_1 => ?_
      clear hp zg0 zg1 zg2
      subst zee1
      subst zee2
      replace hw : zz_w G A s [(ob0, .inr (9, [.ref ut, .int uf1, .ref h1, .int uf3, .ref sc, .ref dr0, .ref k0, .ref my0, .ref c0, .ref ga, .ref pa0, .ref t0, .ref sl0, .ref hd0])), (sc, .inr (5, [.ref s1, .ref s2, .ref s3, .ref s4, .ref s5, .ref s6, .ref s7, .ref s8, .ref s9, .int (nI pp), .int (nI pq), .int i3, .int i4])), (s3, .inl (G.2 0, 7, .inl m3)), (s4, .inl (G.2 0, 7, .inl m4)), (s6, .inl (G.2 0, 6, .inl m6)), (s7, .inl (G.2 0, 6, .inl m7)), (s9, .inl (G.2 0, 9, .inl fc)), (s8, .inl (G.2 4, 4, .inr (.inr (.inr (.inr (va_up (va_up (va_up (va_up (fun _ => none) 0 (some w0)) 1 (some w1)) 2 (some w2)) 3 (some w3))))))), (w0, .inr (2, [.ref x0, .ref x1, .ref x2, .int (nI n0), .int (nI u0)])), (x0, .inl (G.2 0, 400, .inl f0)), (x1, .inl (G.2 0, 14, .inl g0)), (x2, .inl (G.2 0, 32, .inl z0_)), (w1, .inr (2, [.ref x3, .ref x4, .ref x5, .int (nI n1), .int (nI u1)])), (x3, .inl (G.2 0, 400, .inl f1)), (x4, .inl (G.2 0, 14, .inl g1)), (x5, .inl (G.2 0, 32, .inl z1_)), (w2, .inr (2, [.ref x6, .ref x7, .ref x8, .int (nI n2), .int (nI u2)])), (x6, .inl (G.2 0, 400, .inl f2)), (x7, .inl (G.2 0, 14, .inl g2)), (x8, .inl (G.2 0, 32, .inl z2_)), (w3, .inr (2, [.ref x9, .ref x10, .ref x11, .int (nI n3), .int (nI u3)])), (x9, .inl (G.2 0, 400, .inl f3)), (x10, .inl (G.2 0, 14, .inl g3)), (x11, .inl (G.2 0, 32, .inl z3_)), (s5, .inl (G.2 0, 6, .inl m5)), (k0, .inr (6, [.ref b1, .ref b2, .ref b3, .ref b4, .int o1, .int o2, .int o3])), (b1, .inl (G.2 0, 7, .inl e1)), (b2, .inl (G.2 0, 6, .inl e2)), (b3, .inl (G.2 0, 7, .inl e3)), (b4, .inl (G.2 0, 42, .inl e4)), (t0, .inr (8, [.ref t1, .ref t2, .ref t3, .int (nI tm)])), (t1, .inl (G.2 0, 20, .inl tp)), (t2, .inl (G.2 0, 20, .inl tw)), (t3, .inl (G.2 2, 20, .inl ts))] H _ := hw
      refine W.eq (g2 := F0 m 19 ls [.int rv_4]) rfl ?_
      refine lv_if_ne (tgt := 24) hx hb dX9_who_19 (by decide) (fun c19_5 => ?_) (fun c19_5 => ?_)
      · skip
        refine lv_aload_n hx hb dX9_who_24 rfl (lv_at hl 0 rfl) ?_
        refine zz_get (v := .ref t0) S hw fgX9_71 0 rfl rfl dX9_who_25 ?_
        refine lv_iload_n hx hb dX9_who_28 rfl (lv_at hl 1 rfl) ?_
        refine lv_aload_n hx hb dX9_who_29 rfl (lv_at hl 0 rfl) ?_
        refine zz_get (v := .ref sc) S hw fgX9_30 0 rfl rfl dX9_who_30 ?_
        refine W.eq (g2 := F0 m 33 ls [.ref sc, .int ar1, .ref t0]) rfl ?_
        refine lv_aload_n hx hb dX9_who_33 rfl (lv_at hl 0 rfl) ?_
        refine zz_get (v := .ref k0) S hw fgX9_40 0 rfl rfl dX9_who_34 ?_
        refine zz_callV (qb := 30) (As := [.int ar1, .ref sc, .ref k0]) (rest := []) (wr := [(ob0, .inr (9, [.ref ut, .int uf1, .ref h1, .int uf3, .ref sc, .ref dr0, .ref k0, .ref my0, .ref c0, .ref ga, .ref pa0, .ref t0, .ref sl0, .ref hd0])), (s5, .inl (G.2 0, 6, .inl m5)), (b3, .inl (G.2 0, 7, .inl e3))]) S hw hl.1 lX9_281 (c_gwhoIsLeft l G t0 t1 t2 t3 tp tw ts tm sc s1 s2 s3 s4 s5 s6 s7 s8 s9 w0 w1 w2 w3 x0 x1 x2 x3 x4 x5 x6 x7 x8 x9 x10 x11 pp pq i3 i4 m3 m4 m6 m7 fc f0 g0 n0 u0 z0_ f1 g1 n1 u1 z1_ f2 g2 n2 u2 z2_ f3 g3 n3 u3 z3_ k0 b1 b2 b3 b4 e1 e2 e4 o1 o2 o3 ar1 (by first | assumption | omega | exact Or.inr ⟨_, by omega, rfl⟩ | (unfold zz_sok; decide) | decide | exact (fun j hj => (hv7 j hj).1)) (by first | assumption | omega | exact Or.inr ⟨_, by omega, rfl⟩ | (unfold zz_sok; decide) | decide | exact (fun j hj => (hv7 j hj).1)) (by first | assumption | omega | exact Or.inr ⟨_, by omega, rfl⟩ | (unfold zz_sok; decide) | decide | exact (fun j hj => (hv7 j hj).1)) (by first | assumption | omega | exact Or.inr ⟨_, by omega, rfl⟩ | (unfold zz_sok; decide) | decide | exact (fun j hj => (hv7 j hj).1)) (by first | assumption | omega | exact Or.inr ⟨_, by omega, rfl⟩ | (unfold zz_sok; decide) | decide | exact (fun j hj => (hv7 j hj).1)) (by first | assumption | omega | exact Or.inr ⟨_, by omega, rfl⟩ | (unfold zz_sok; decide) | decide | exact (fun j hj => (hv7 j hj).1)) (by first | assumption | omega | exact Or.inr ⟨_, by omega, rfl⟩ | (unfold zz_sok; decide) | decide | exact (fun j hj => (hv7 j hj).1)) (by first | assumption | omega | exact Or.inr ⟨_, by omega, rfl⟩ | (unfold zz_sok; decide) | decide | exact (fun j hj => (hv7 j hj).1))) ⟨Nat.le_of_ble_eq_true rfl, Nat.le_of_ble_eq_true rfl⟩ ⟨Nat.le_of_ble_eq_true rfl, Nat.le_of_ble_eq_true rfl⟩ [30, 31, 32, 33, 1, 2, 3, 4, 5, 6, 7, 8, 9, 10, 11, 12, 13, 14, 15, 16, 17, 18, 19, 20, 21, 22, 23, 25, 26, 27, 29] [0, 24, 28] (by decide +kernel) rfl rfl (by decide +kernel) (by decide +kernel) rfl rfl rfl rfl (Nat.le_of_ble_eq_true rfl) dX9_who_37 ?_
        clear hw
        intro rr u H locs hp hw
        refine hp.elim fun rv_6 zg0 => zg0.elim fun fcc_7 zg1 => zg1.elim fun zz0_8 zg2 => zg2.elim fun zz1_9 zg3 => zg3.elim fun zz2_10 zg4 => zg4.elim fun zz3_11 zg5 => zg5.elim fun zee1 zee2 => ?_
        clear hp zg0 zg1 zg2 zg3 zg4 zg5
        subst zee1
        subst zee2
        replace hw : zz_w G A s [(ob0, .inr (9, [.ref ut, .int uf1, .ref h1, .int uf3, .ref sc, .ref dr0, .ref k0, .ref my0, .ref c0, .ref ga, .ref pa0, .ref t0, .ref sl0, .ref hd0])), (s5, .inl (G.2 0, 6, .inl m5)), (b3, .inl (G.2 0, 7, .inl e3)), (t0, .inr (8, [.ref t1, .ref t2, .ref t3, .int (nI tm)])), (t1, .inl (G.2 0, 20, .inl tp)), (t2, .inl (G.2 0, 20, .inl tw)), (t3, .inl (G.2 2, 20, .inl ts)), (sc, .inr (5, [.ref s1, .ref s2, .ref s3, .ref s4, .ref s5, .ref s6, .ref s7, .ref s8, .ref s9, .int (nI pp), .int (nI pq), .int i3, .int i4])), (s3, .inl (G.2 0, 7, .inl m3)), (s4, .inl (G.2 0, 7, .inl m4)), (s6, .inl (G.2 0, 6, .inl m6)), (s7, .inl (G.2 0, 6, .inl m7)), (s9, .inl (G.2 0, 9, .inl fcc_7)), (s8, .inl (G.2 4, 4, .inr (.inr (.inr (.inr (va_up (va_up (va_up (va_up (fun _ => none) 0 (some w0)) 1 (some w1)) 2 (some w2)) 3 (some w3))))))), (w0, .inr (2, [.ref x0, .ref x1, .ref x2, .int (nI n0), .int (nI u0)])), (x0, .inl (G.2 0, 400, .inl f0)), (x1, .inl (G.2 0, 14, .inl g0)), (x2, .inl (G.2 0, 32, .inl zz0_8)), (w1, .inr (2, [.ref x3, .ref x4, .ref x5, .int (nI n1), .int (nI u1)])), (x3, .inl (G.2 0, 400, .inl f1)), (x4, .inl (G.2 0, 14, .inl g1)), (x5, .inl (G.2 0, 32, .inl zz1_9)), (w2, .inr (2, [.ref x6, .ref x7, .ref x8, .int (nI n2), .int (nI u2)])), (x6, .inl (G.2 0, 400, .inl f2)), (x7, .inl (G.2 0, 14, .inl g2)), (x8, .inl (G.2 0, 32, .inl zz2_10)), (w3, .inr (2, [.ref x9, .ref x10, .ref x11, .int (nI n3), .int (nI u3)])), (x9, .inl (G.2 0, 400, .inl f3)), (x10, .inl (G.2 0, 14, .inl g3)), (x11, .inl (G.2 0, 32, .inl zz3_11)), (k0, .inr (6, [.ref b1, .ref b2, .ref b3, .ref b4, .int o1, .int o2, .int o3])), (b1, .inl (G.2 0, 7, .inl e1)), (b2, .inl (G.2 0, 6, .inl e2)), (b4, .inl (G.2 0, 42, .inl e4))] H _ := hw
        refine W.eq (g2 := F0 m 40 ls [.int rv_6]) rfl ?_
        refine lv_istore_n (lv' := [(3, .int rv_6), (0, .ref ob0), (1, .int ar1), (2, .int ar2)]) hx hb dX9_who_40 rfl hl (by decide) rfl (fun ls hl => ?_)
        refine lv_iload_n hx hb dX9_who_41 rfl (lv_at hl 3 rfl) ?_
        refine lv_if_ne (tgt := 52) hx hb dX9_who_42 (by decide) (fun c42_12 => ?_) (fun c42_12 => ?_)
        · skip
          refine lv_iload_n hx hb dX9_who_52 rfl (lv_at hl 0 rfl) ?_
          exact hret _ _ _ _ _ _ ⟨rv_6, fcc_7, zz0_8, zz1_9, zz2_10, zz3_11, rfl, rfl⟩ (hw.sub [0, 7, 8, 9, 10, 11, 12, 13, 14, 15, 16, 17, 18, 19, 20, 21, 22, 23, 24, 25, 26, 27, 28, 29, 1, 30, 31, 32, 2, 33, 3, 4, 5, 6] (by decide +kernel) rfl) rfl dX9_who_53
        · skip
          refine lv_iload_n hx hb dX9_who_45 rfl (lv_at hl 0 rfl) ?_
          refine zz_callS (As := [.int rv_6]) (rest := []) (wr := [(ob0, .inr (9, [.ref ut, .int uf1, .ref h1, .int uf3, .ref sc, .ref dr0, .ref k0, .ref my0, .ref c0, .ref ga, .ref pa0, .ref t0, .ref sl0, .ref hd0])), (s5, .inl (G.2 0, 6, .inl m5)), (b3, .inl (G.2 0, 7, .inl e3)), (t0, .inr (8, [.ref t1, .ref t2, .ref t3, .int (nI tm)])), (t1, .inl (G.2 0, 20, .inl tp)), (t2, .inl (G.2 0, 20, .inl tw)), (t3, .inl (G.2 2, 20, .inl ts)), (sc, .inr (5, [.ref s1, .ref s2, .ref s3, .ref s4, .ref s5, .ref s6, .ref s7, .ref s8, .ref s9, .int (nI pp), .int (nI pq), .int i3, .int i4])), (s3, .inl (G.2 0, 7, .inl m3)), (s4, .inl (G.2 0, 7, .inl m4)), (s6, .inl (G.2 0, 6, .inl m6)), (s7, .inl (G.2 0, 6, .inl m7)), (s9, .inl (G.2 0, 9, .inl fcc_7)), (s8, .inl (G.2 4, 4, .inr (.inr (.inr (.inr (va_up (va_up (va_up (va_up (fun _ => none) 0 (some w0)) 1 (some w1)) 2 (some w2)) 3 (some w3))))))), (w0, .inr (2, [.ref x0, .ref x1, .ref x2, .int (nI n0), .int (nI u0)])), (x0, .inl (G.2 0, 400, .inl f0)), (x1, .inl (G.2 0, 14, .inl g0)), (x2, .inl (G.2 0, 32, .inl zz0_8)), (w1, .inr (2, [.ref x3, .ref x4, .ref x5, .int (nI n1), .int (nI u1)])), (x3, .inl (G.2 0, 400, .inl f1)), (x4, .inl (G.2 0, 14, .inl g1)), (x5, .inl (G.2 0, 32, .inl zz1_9)), (w2, .inr (2, [.ref x6, .ref x7, .ref x8, .int (nI n2), .int (nI u2)])), (x6, .inl (G.2 0, 400, .inl f2)), (x7, .inl (G.2 0, 14, .inl g2)), (x8, .inl (G.2 0, 32, .inl zz2_10)), (w3, .inr (2, [.ref x9, .ref x10, .ref x11, .int (nI n3), .int (nI u3)])), (x9, .inl (G.2 0, 400, .inl f3)), (x10, .inl (G.2 0, 14, .inl g3)), (x11, .inl (G.2 0, 32, .inl zz3_11)), (k0, .inr (6, [.ref b1, .ref b2, .ref b3, .ref b4, .int o1, .int o2, .int o3])), (b1, .inl (G.2 0, 7, .inl e1)), (b2, .inl (G.2 0, 6, .inl e2)), (b4, .inl (G.2 0, 42, .inl e4))]) S hw hl.1 lX9_285 (c_gbitCount l G rv_6) ⟨Nat.le_of_ble_eq_true rfl, Nat.le_of_ble_eq_true rfl⟩ ⟨Nat.le_of_ble_eq_true rfl, Nat.le_of_ble_eq_true rfl⟩ [] [0, 1, 2, 3, 4, 5, 6, 7, 8, 9, 10, 11, 12, 13, 14, 15, 16, 17, 18, 19, 20, 21, 22, 23, 24, 25, 26, 27, 28, 29, 30, 31, 32, 33] (by decide +kernel) rfl rfl (by decide +kernel) (by decide +kernel) rfl rfl (Nat.le_of_ble_eq_true rfl) dX9_who_46 ?_
          clear hw
          intro rr u H locs hp hw
          refine hp.elim fun jj_13 zg0 => zg0.elim fun zee1 zg1 => zg1.elim fun zee2 hq46_0 => ?_
          clear hp zg0 zg1
          subst zee1
          subst zee2
          replace hw : zz_w G A s [(ob0, .inr (9, [.ref ut, .int uf1, .ref h1, .int uf3, .ref sc, .ref dr0, .ref k0, .ref my0, .ref c0, .ref ga, .ref pa0, .ref t0, .ref sl0, .ref hd0])), (s5, .inl (G.2 0, 6, .inl m5)), (b3, .inl (G.2 0, 7, .inl e3)), (t0, .inr (8, [.ref t1, .ref t2, .ref t3, .int (nI tm)])), (t1, .inl (G.2 0, 20, .inl tp)), (t2, .inl (G.2 0, 20, .inl tw)), (t3, .inl (G.2 2, 20, .inl ts)), (sc, .inr (5, [.ref s1, .ref s2, .ref s3, .ref s4, .ref s5, .ref s6, .ref s7, .ref s8, .ref s9, .int (nI pp), .int (nI pq), .int i3, .int i4])), (s3, .inl (G.2 0, 7, .inl m3)), (s4, .inl (G.2 0, 7, .inl m4)), (s6, .inl (G.2 0, 6, .inl m6)), (s7, .inl (G.2 0, 6, .inl m7)), (s9, .inl (G.2 0, 9, .inl fcc_7)), (s8, .inl (G.2 4, 4, .inr (.inr (.inr (.inr (va_up (va_up (va_up (va_up (fun _ => none) 0 (some w0)) 1 (some w1)) 2 (some w2)) 3 (some w3))))))), (w0, .inr (2, [.ref x0, .ref x1, .ref x2, .int (nI n0), .int (nI u0)])), (x0, .inl (G.2 0, 400, .inl f0)), (x1, .inl (G.2 0, 14, .inl g0)), (x2, .inl (G.2 0, 32, .inl zz0_8)), (w1, .inr (2, [.ref x3, .ref x4, .ref x5, .int (nI n1), .int (nI u1)])), (x3, .inl (G.2 0, 400, .inl f1)), (x4, .inl (G.2 0, 14, .inl g1)), (x5, .inl (G.2 0, 32, .inl zz1_9)), (w2, .inr (2, [.ref x6, .ref x7, .ref x8, .int (nI n2), .int (nI u2)])), (x6, .inl (G.2 0, 400, .inl f2)), (x7, .inl (G.2 0, 14, .inl g2)), (x8, .inl (G.2 0, 32, .inl zz2_10)), (w3, .inr (2, [.ref x9, .ref x10, .ref x11, .int (nI n3), .int (nI u3)])), (x9, .inl (G.2 0, 400, .inl f3)), (x10, .inl (G.2 0, 14, .inl g3)), (x11, .inl (G.2 0, 32, .inl zz3_11)), (k0, .inr (6, [.ref b1, .ref b2, .ref b3, .ref b4, .int o1, .int o2, .int o3])), (b1, .inl (G.2 0, 7, .inl e1)), (b2, .inl (G.2 0, 6, .inl e2)), (b4, .inl (G.2 0, 42, .inl e4))] H _ := hw
          refine W.eq (g2 := F0 m 49 ls [.int (nI jj_13)]) rfl ?_
          refine lv_goto (tgt := 53) hx hb dX9_who_49 (by decide) ?_
          exact hret _ _ _ _ _ _ ⟨(nI jj_13), fcc_7, zz0_8, zz1_9, zz2_10, zz3_11, rfl, rfl⟩ (hw.sub [0, 7, 8, 9, 10, 11, 12, 13, 14, 15, 16, 17, 18, 19, 20, 21, 22, 23, 24, 25, 26, 27, 28, 29, 1, 30, 31, 32, 2, 33, 3, 4, 5, 6] (by decide +kernel) rfl) rfl dX9_who_53
      · skip
        refine lv_iconst (v := (-1)) hx hb dX9_who_22 (by decide) ?_
        exact hret _ _ _ _ _ _ ⟨(-1), fc, z0_, z1_, z2_, z3_, rfl, rfl⟩ hw rfl dX9_who_23
theorem kd_ncX9_leftAtWorst : kd_ck 3068035715903154034462986769456544532013718675390985600642835381307274645693355194305800158369749542998553024036410240533721802728486291982664802196127094383103498011028233114344746217720002051 80 cX9_leftAtWorst.data.toList 0 = true := by decide +kernel
theorem dX9_leftAtWorst_0 : decode cX9_leftAtWorst 0 = .ok (.iconst 0, 1) := kd_dk0 kd_o3 kd_ncX9_leftAtWorst rfl
theorem dX9_leftAtWorst_1 : decode cX9_leftAtWorst 1 = .ok (.istore 4, 2) := kd_dk1 kd_o54 kd_ncX9_leftAtWorst rfl
theorem dX9_leftAtWorst_3 : decode cX9_leftAtWorst 3 = .ok (.iconst 0, 1) := kd_dk0 kd_o3 kd_ncX9_leftAtWorst rfl
theorem dX9_leftAtWorst_4 : decode cX9_leftAtWorst 4 = .ok (.istore 5, 2) := kd_dk1 kd_o54 kd_ncX9_leftAtWorst rfl
theorem dX9_leftAtWorst_6 : decode cX9_leftAtWorst 6 = .ok (.iload 5, 2) := kd_dk1 kd_o21 kd_ncX9_leftAtWorst rfl
theorem dX9_leftAtWorst_8 : decode cX9_leftAtWorst 8 = .ok (.aload_n 0, 1) := kd_dk0 kd_o42 kd_ncX9_leftAtWorst rfl
theorem dX9_leftAtWorst_9 : decode cX9_leftAtWorst 9 = .ok (.getfield 30, 3) := kd_dk2 kd_o180 kd_ncX9_leftAtWorst rfl
theorem dX9_leftAtWorst_12 : decode cX9_leftAtWorst 12 = .ok (.getfield 105, 3) := kd_dk2 kd_o180 kd_ncX9_leftAtWorst rfl
theorem dX9_leftAtWorst_15 : decode cX9_leftAtWorst 15 = .ok (.if_icmp .ge 52, 3) := kd_dj2 kd_o162 (w := 52) kd_ncX9_leftAtWorst rfl rfl
theorem dX9_leftAtWorst_18 : decode cX9_leftAtWorst 18 = .ok (.iload_n 1, 1) := kd_dk0 kd_o27 kd_ncX9_leftAtWorst rfl
theorem dX9_leftAtWorst_19 : decode cX9_leftAtWorst 19 = .ok (.iload 5, 2) := kd_dk1 kd_o21 kd_ncX9_leftAtWorst rfl
theorem dX9_leftAtWorst_21 : decode cX9_leftAtWorst 21 = .ok (.ishr, 1) := kd_dk0 kd_o122 kd_ncX9_leftAtWorst rfl
theorem dX9_leftAtWorst_22 : decode cX9_leftAtWorst 22 = .ok (.iconst 1, 1) := kd_dk0 kd_o4 kd_ncX9_leftAtWorst rfl
theorem dX9_leftAtWorst_23 : decode cX9_leftAtWorst 23 = .ok (.iand, 1) := kd_dk0 kd_o126 kd_ncX9_leftAtWorst rfl
theorem dX9_leftAtWorst_24 : decode cX9_leftAtWorst 24 = .ok (.ifCond .eq 7, 3) := kd_dj2 kd_o153 (w := 7) kd_ncX9_leftAtWorst rfl rfl
theorem dX9_leftAtWorst_27 : decode cX9_leftAtWorst 27 = .ok (.iconst 1, 1) := kd_dk0 kd_o4 kd_ncX9_leftAtWorst rfl
theorem dX9_leftAtWorst_28 : decode cX9_leftAtWorst 28 = .ok (.goto 4, 3) := kd_dj2 kd_o167 (w := 4) kd_ncX9_leftAtWorst rfl rfl
theorem dX9_leftAtWorst_31 : decode cX9_leftAtWorst 31 = .ok (.iconst 0, 1) := kd_dk0 kd_o3 kd_ncX9_leftAtWorst rfl
theorem dX9_leftAtWorst_32 : decode cX9_leftAtWorst 32 = .ok (.istore 6, 2) := kd_dk1 kd_o54 kd_ncX9_leftAtWorst rfl
theorem dX9_leftAtWorst_34 : decode cX9_leftAtWorst 34 = .ok (.iload 6, 2) := kd_dk1 kd_o21 kd_ncX9_leftAtWorst rfl
theorem dX9_leftAtWorst_36 : decode cX9_leftAtWorst 36 = .ok (.ifCond .eq 25, 3) := kd_dj2 kd_o153 (w := 25) kd_ncX9_leftAtWorst rfl rfl
theorem dX9_leftAtWorst_39 : decode cX9_leftAtWorst 39 = .ok (.aload_n 0, 1) := kd_dk0 kd_o42 kd_ncX9_leftAtWorst rfl
theorem dX9_leftAtWorst_40 : decode cX9_leftAtWorst 40 = .ok (.getfield 30, 3) := kd_dk2 kd_o180 kd_ncX9_leftAtWorst rfl
theorem dX9_leftAtWorst_43 : decode cX9_leftAtWorst 43 = .ok (.iconst 0, 1) := kd_dk0 kd_o3 kd_ncX9_leftAtWorst rfl
theorem dX9_leftAtWorst_44 : decode cX9_leftAtWorst 44 = .ok (.aload_n 0, 1) := kd_dk0 kd_o42 kd_ncX9_leftAtWorst rfl
theorem dX9_leftAtWorst_45 : decode cX9_leftAtWorst 45 = .ok (.getfield 40, 3) := kd_dk2 kd_o180 kd_ncX9_leftAtWorst rfl
theorem dX9_leftAtWorst_48 : decode cX9_leftAtWorst 48 = .ok (.iload 5, 2) := kd_dk1 kd_o21 kd_ncX9_leftAtWorst rfl
theorem dX9_leftAtWorst_50 : decode cX9_leftAtWorst 50 = .ok (.iload_n 2, 1) := kd_dk0 kd_o28 kd_ncX9_leftAtWorst rfl
theorem dX9_leftAtWorst_51 : decode cX9_leftAtWorst 51 = .ok (.invokevirtual 173, 3) := kd_dk2 kd_o182 kd_ncX9_leftAtWorst rfl
theorem dX9_leftAtWorst_54 : decode cX9_leftAtWorst 54 = .ok (.iload_n 3, 1) := kd_dk0 kd_o29 kd_ncX9_leftAtWorst rfl
theorem dX9_leftAtWorst_55 : decode cX9_leftAtWorst 55 = .ok (.if_icmp .lt 6, 3) := kd_dj2 kd_o161 (w := 6) kd_ncX9_leftAtWorst rfl rfl
theorem dX9_leftAtWorst_58 : decode cX9_leftAtWorst 58 = .ok (.iinc 4 1, 3) := kd_dji kd_o132 (w := 1) kd_ncX9_leftAtWorst rfl rfl
theorem dX9_leftAtWorst_61 : decode cX9_leftAtWorst 61 = .ok (.iinc 5 1, 3) := kd_dji kd_o132 (w := 1) kd_ncX9_leftAtWorst rfl rfl
theorem dX9_leftAtWorst_64 : decode cX9_leftAtWorst 64 = .ok (.goto (-58), 3) := kd_dj2 kd_o167 (w := 65478) kd_ncX9_leftAtWorst rfl rfl
theorem dX9_leftAtWorst_67 : decode cX9_leftAtWorst 67 = .ok (.iload 4, 2) := kd_dk1 kd_o21 kd_ncX9_leftAtWorst rfl
theorem dX9_leftAtWorst_69 : decode cX9_leftAtWorst 69 = .ok (.iload_n 1, 1) := kd_dk0 kd_o27 kd_ncX9_leftAtWorst rfl
theorem dX9_leftAtWorst_70 : decode cX9_leftAtWorst 70 = .ok (.invokestatic 285, 3) := kd_dk2 kd_o184 kd_ncX9_leftAtWorst rfl
theorem dX9_leftAtWorst_73 : decode cX9_leftAtWorst 73 = .ok (.iload 4, 2) := kd_dk1 kd_o21 kd_ncX9_leftAtWorst rfl
theorem dX9_leftAtWorst_75 : decode cX9_leftAtWorst 75 = .ok (.isub, 1) := kd_dk0 kd_o100 kd_ncX9_leftAtWorst rfl
theorem dX9_leftAtWorst_76 : decode cX9_leftAtWorst 76 = .ok (.invokestatic 294, 3) := kd_dk2 kd_o184 kd_ncX9_leftAtWorst rfl
theorem dX9_leftAtWorst_79 : decode cX9_leftAtWorst 79 = .ok (.ireturn, 1) := kd_dk0 kd_o172 kd_ncX9_leftAtWorst rfl
set_option maxHeartbeats 8000000 in
set_option maxRecDepth 100000 in
theorem c_g_leftAtWorst (l : Launch) (G : zz_G) (ob0 : Nat) (ut : Nat) (uf1 : Int32) (h1 : Nat) (uf3 : Int32) (sc : Nat) (dr0 : Nat) (k0 : Nat) (my0 : Nat) (c0 : Nat) (ga : Nat) (pa0 : Nat) (t0 : Nat) (sl0 : Nat) (hd0 : Nat) (s1 : Nat) (s2 : Nat) (s3 : Nat) (s4 : Nat) (s5 : Nat) (s6 : Nat) (s7 : Nat) (s8 : Nat) (s9 : Nat) (w0 : Nat) (w1 : Nat) (w2 : Nat) (w3 : Nat) (x0 : Nat) (x1 : Nat) (x2 : Nat) (x3 : Nat) (x4 : Nat) (x5 : Nat) (x6 : Nat) (x7 : Nat) (x8 : Nat) (x9 : Nat) (x10 : Nat) (x11 : Nat) (pp : Nat) (pq : Nat) (i3 : Int32) (i4 : Int32) (m3 : Nat → Int32) (m4 : Nat → Int32) (m6 : Nat → Int32) (m7 : Nat → Int32) (fc : Nat → Int32) (f0 : Nat → Int32) (g0 : Nat → Int32) (n0 : Nat) (u0 : Nat) (z0_ : Nat → Int32) (f1 : Nat → Int32) (g1 : Nat → Int32) (n1 : Nat) (u1 : Nat) (z1_ : Nat → Int32) (f2 : Nat → Int32) (g2 : Nat → Int32) (n2 : Nat) (u2 : Nat) (z2_ : Nat → Int32) (f3 : Nat → Int32) (g3 : Nat → Int32) (n3 : Nat) (u3 : Nat) (z3_ : Nat → Int32) (m5 : Nat → Int32) (b1 : Nat) (b2 : Nat) (b3 : Nat) (b4 : Nat) (e1 : Nat → Int32) (e2 : Nat → Int32) (e3 : Nat → Int32) (e4 : Nat → Int32) (o1 : Int32) (o2 : Int32) (o3 : Int32) (ar1 : Int32) (ar3 : Int32) (pa : Nat) (hv0 : zz_lwv f0 g0 n0 u0) (hv1 : zz_lwv f1 g1 n1 u1) (hv2 : zz_lwv f2 g2 n2 u2) (hv3 : zz_lwv f3 g3 n3 u3) (hpp : pp ≤ 7) (hpq : pq ≤ 6) (hpa : pa < pq) : zz_M l G mX9_leftAtWorst 4 0 0 [.ref ob0, .int ar1, .int (nI pa), .int ar3] [(ob0, .inr (9, [.ref ut, .int uf1, .ref h1, .int uf3, .ref sc, .ref dr0, .ref k0, .ref my0, .ref c0, .ref ga, .ref pa0, .ref t0, .ref sl0, .ref hd0])), (sc, .inr (5, [.ref s1, .ref s2, .ref s3, .ref s4, .ref s5, .ref s6, .ref s7, .ref s8, .ref s9, .int (nI pp), .int (nI pq), .int i3, .int i4])), (s3, .inl (G.2 0, 7, .inl m3)), (s4, .inl (G.2 0, 7, .inl m4)), (s6, .inl (G.2 0, 6, .inl m6)), (s7, .inl (G.2 0, 6, .inl m7)), (s9, .inl (G.2 0, 9, .inl fc)), (s8, .inl (G.2 4, 4, .inr (.inr (.inr (.inr (va_up (va_up (va_up (va_up (fun _ => none) 0 (some w0)) 1 (some w1)) 2 (some w2)) 3 (some w3))))))), (w0, .inr (2, [.ref x0, .ref x1, .ref x2, .int (nI n0), .int (nI u0)])), (x0, .inl (G.2 0, 400, .inl f0)), (x1, .inl (G.2 0, 14, .inl g0)), (x2, .inl (G.2 0, 32, .inl z0_)), (w1, .inr (2, [.ref x3, .ref x4, .ref x5, .int (nI n1), .int (nI u1)])), (x3, .inl (G.2 0, 400, .inl f1)), (x4, .inl (G.2 0, 14, .inl g1)), (x5, .inl (G.2 0, 32, .inl z1_)), (w2, .inr (2, [.ref x6, .ref x7, .ref x8, .int (nI n2), .int (nI u2)])), (x6, .inl (G.2 0, 400, .inl f2)), (x7, .inl (G.2 0, 14, .inl g2)), (x8, .inl (G.2 0, 32, .inl z2_)), (w3, .inr (2, [.ref x9, .ref x10, .ref x11, .int (nI n3), .int (nI u3)])), (x9, .inl (G.2 0, 400, .inl f3)), (x10, .inl (G.2 0, 14, .inl g3)), (x11, .inl (G.2 0, 32, .inl z3_)), (s5, .inl (G.2 0, 6, .inl m5)), (k0, .inr (6, [.ref b1, .ref b2, .ref b3, .ref b4, .int o1, .int o2, .int o3])), (b1, .inl (G.2 0, 7, .inl e1)), (b2, .inl (G.2 0, 6, .inl e2)), (b3, .inl (G.2 0, 7, .inl e3)), (b4, .inl (G.2 0, 42, .inl e4))] (fun rr u => ∃ (rv : Int32), ∃ (fcc : Nat → Int32), ∃ (zz0 : Nat → Int32), ∃ (zz1 : Nat → Int32), ∃ (zz2 : Nat → Int32), ∃ (zz3 : Nat → Int32), rr = some (.int rv) ∧ u = [(ob0, .inr (9, [.ref ut, .int uf1, .ref h1, .int uf3, .ref sc, .ref dr0, .ref k0, .ref my0, .ref c0, .ref ga, .ref pa0, .ref t0, .ref sl0, .ref hd0])), (sc, .inr (5, [.ref s1, .ref s2, .ref s3, .ref s4, .ref s5, .ref s6, .ref s7, .ref s8, .ref s9, .int (nI pp), .int (nI pq), .int i3, .int i4])), (s3, .inl (G.2 0, 7, .inl m3)), (s4, .inl (G.2 0, 7, .inl m4)), (s6, .inl (G.2 0, 6, .inl m6)), (s7, .inl (G.2 0, 6, .inl m7)), (s9, .inl (G.2 0, 9, .inl fcc)), (s8, .inl (G.2 4, 4, .inr (.inr (.inr (.inr (va_up (va_up (va_up (va_up (fun _ => none) 0 (some w0)) 1 (some w1)) 2 (some w2)) 3 (some w3))))))), (w0, .inr (2, [.ref x0, .ref x1, .ref x2, .int (nI n0), .int (nI u0)])), (x0, .inl (G.2 0, 400, .inl f0)), (x1, .inl (G.2 0, 14, .inl g0)), (x2, .inl (G.2 0, 32, .inl zz0)), (w1, .inr (2, [.ref x3, .ref x4, .ref x5, .int (nI n1), .int (nI u1)])), (x3, .inl (G.2 0, 400, .inl f1)), (x4, .inl (G.2 0, 14, .inl g1)), (x5, .inl (G.2 0, 32, .inl zz1)), (w2, .inr (2, [.ref x6, .ref x7, .ref x8, .int (nI n2), .int (nI u2)])), (x6, .inl (G.2 0, 400, .inl f2)), (x7, .inl (G.2 0, 14, .inl g2)), (x8, .inl (G.2 0, 32, .inl zz2)), (w3, .inr (2, [.ref x9, .ref x10, .ref x11, .int (nI n3), .int (nI u3)])), (x9, .inl (G.2 0, 400, .inl f3)), (x10, .inl (G.2 0, 14, .inl g3)), (x11, .inl (G.2 0, 32, .inl zz3)), (s5, .inl (G.2 0, 6, .inl m5)), (k0, .inr (6, [.ref b1, .ref b2, .ref b3, .ref b4, .int o1, .int o2, .int o3])), (b1, .inl (G.2 0, 7, .inl e1)), (b2, .inl (G.2 0, 6, .inl e2)), (b3, .inl (G.2 0, 7, .inl e3)), (b4, .inl (G.2 0, 42, .inl e4))]) := by
  refine zz_enteri (by decide +kernel) (Nat.le_of_ble_eq_true rfl) ?_
  intro p e s m args below meth c A Q ls S hnm hret hw hl
  have hl : lv_has ls 7 [(0, .ref ob0), (1, .int ar1), (2, .int (nI pa)), (3, .int ar3)] := hl
  have hx := S.1
  have hb := S.2.1
  refine lv_iconst (v := 0) hx hb dX9_leftAtWorst_0 (by decide) ?_
  refine lv_istore (lv' := [(4, .int 0), (0, .ref ob0), (1, .int ar1), (2, .int (nI pa)), (3, .int ar3)]) hx hb dX9_leftAtWorst_1 hl (by decide) rfl (fun ls hl => ?_)
  refine lv_iconst (v := 0) hx hb dX9_leftAtWorst_3 (by decide) ?_
  refine lv_istore (lv' := [(5, .int 0), (4, .int 0), (0, .ref ob0), (1, .int ar1), (2, .int (nI pa)), (3, .int ar3)]) hx hb dX9_leftAtWorst_4 hl (by decide) rfl (fun ls hl => ?_)
  have lp6_72 : ∀ (vn2 vi1 : Nat) (vy46 : Int32) (vF47 : Nat → Int32) (vF48 : Nat → Int32) (H : Heap) (locs : List Loc) (ls : Array Slot), vi1 ≤ pp → pp < vi1 + vn2 → zz_w G A s [(ob0, .inr (9, [.ref ut, .int uf1, .ref h1, .int uf3, .ref sc, .ref dr0, .ref k0, .ref my0, .ref c0, .ref ga, .ref pa0, .ref t0, .ref sl0, .ref hd0])), (sc, .inr (5, [.ref s1, .ref s2, .ref s3, .ref s4, .ref s5, .ref s6, .ref s7, .ref s8, .ref s9, .int (nI pp), .int (nI pq), .int i3, .int i4])), (s3, .inl (G.2 0, 7, .inl m3)), (s4, .inl (G.2 0, 7, .inl m4)), (s6, .inl (G.2 0, 6, .inl m6)), (s7, .inl (G.2 0, 6, .inl m7)), (s9, .inl (G.2 0, 9, .inl vF47)), (s8, .inl (G.2 4, 4, .inr (.inr (.inr (.inr (va_up (va_up (va_up (va_up (fun _ => none) 0 (some w0)) 1 (some w1)) 2 (some w2)) 3 (some w3))))))), (w0, .inr (2, [.ref x0, .ref x1, .ref x2, .int (nI n0), .int (nI u0)])), (x0, .inl (G.2 0, 400, .inl f0)), (x1, .inl (G.2 0, 14, .inl g0)), (x2, .inl (G.2 0, 32, .inl vF48)), (w1, .inr (2, [.ref x3, .ref x4, .ref x5, .int (nI n1), .int (nI u1)])), (x3, .inl (G.2 0, 400, .inl f1)), (x4, .inl (G.2 0, 14, .inl g1)), (x5, .inl (G.2 0, 32, .inl z1_)), (w2, .inr (2, [.ref x6, .ref x7, .ref x8, .int (nI n2), .int (nI u2)])), (x6, .inl (G.2 0, 400, .inl f2)), (x7, .inl (G.2 0, 14, .inl g2)), (x8, .inl (G.2 0, 32, .inl z2_)), (w3, .inr (2, [.ref x9, .ref x10, .ref x11, .int (nI n3), .int (nI u3)])), (x9, .inl (G.2 0, 400, .inl f3)), (x10, .inl (G.2 0, 14, .inl g3)), (x11, .inl (G.2 0, 32, .inl z3_)), (s5, .inl (G.2 0, 6, .inl m5)), (k0, .inr (6, [.ref b1, .ref b2, .ref b3, .ref b4, .int o1, .int o2, .int o3])), (b1, .inl (G.2 0, 7, .inl e1)), (b2, .inl (G.2 0, 6, .inl e2)), (b3, .inl (G.2 0, 7, .inl e3)), (b4, .inl (G.2 0, 42, .inl e4))] H locs → lv_has ls 7 [(5, .int (nI vi1)), (4, .int vy46), (0, .ref ob0), (1, .int ar1), (2, .int (nI pa)), (3, .int ar3)] → W p l e (zz_rm 4 0 0) s m args below meth c H locs (0) (0) Q (F0 m 6 ls []) := by
    intro vn2
    induction vn2 with
    | zero => intro vi1 vy46 vF47 vF48 H locs ls hi1 hi2; exact absurd hi2 (by omega)
    | succ vn2 ih6 =>
      intro vi1 vy46 vF47 vF48 H locs ls hi6a hi6b  hw hl
      refine lv_iload hx hb dX9_leftAtWorst_6 (lv_at hl 0 rfl) ?_
      refine lv_aload_n hx hb dX9_leftAtWorst_8 rfl (lv_at hl 2 rfl) ?_
      refine zz_get (v := .ref sc) S hw fgX9_30 0 rfl rfl dX9_leftAtWorst_9 ?_
      refine zz_get (v := .int (nI pp)) S hw fgX9_105 1 rfl rfl dX9_leftAtWorst_12 ?_
      refine lv_icmp_ge (tgt := 67) hx hb dX9_leftAtWorst_15 (by decide) (fun c15_73 => ?_) (fun c15_73 => ?_)
      · skip
        have c15_73n : pp ≤ vi1 := (zz_le (a := pp) (b := vi1) rfl rfl (by omega) (by omega)).mp c15_73
        refine lv_iload hx hb dX9_leftAtWorst_67 (lv_at hl 1 rfl) ?_
        refine lv_iload_n hx hb dX9_leftAtWorst_69 rfl (lv_at hl 3 rfl) ?_
        refine zz_callS (As := [.int ar1]) (rest := [.int vy46]) (wr := [(ob0, .inr (9, [.ref ut, .int uf1, .ref h1, .int uf3, .ref sc, .ref dr0, .ref k0, .ref my0, .ref c0, .ref ga, .ref pa0, .ref t0, .ref sl0, .ref hd0])), (sc, .inr (5, [.ref s1, .ref s2, .ref s3, .ref s4, .ref s5, .ref s6, .ref s7, .ref s8, .ref s9, .int (nI pp), .int (nI pq), .int i3, .int i4])), (s3, .inl (G.2 0, 7, .inl m3)), (s4, .inl (G.2 0, 7, .inl m4)), (s6, .inl (G.2 0, 6, .inl m6)), (s7, .inl (G.2 0, 6, .inl m7)), (s9, .inl (G.2 0, 9, .inl vF47)), (s8, .inl (G.2 4, 4, .inr (.inr (.inr (.inr (va_up (va_up (va_up (va_up (fun _ => none) 0 (some w0)) 1 (some w1)) 2 (some w2)) 3 (some w3))))))), (w0, .inr (2, [.ref x0, .ref x1, .ref x2, .int (nI n0), .int (nI u0)])), (x0, .inl (G.2 0, 400, .inl f0)), (x1, .inl (G.2 0, 14, .inl g0)), (x2, .inl (G.2 0, 32, .inl vF48)), (w1, .inr (2, [.ref x3, .ref x4, .ref x5, .int (nI n1), .int (nI u1)])), (x3, .inl (G.2 0, 400, .inl f1)), (x4, .inl (G.2 0, 14, .inl g1)), (x5, .inl (G.2 0, 32, .inl z1_)), (w2, .inr (2, [.ref x6, .ref x7, .ref x8, .int (nI n2), .int (nI u2)])), (x6, .inl (G.2 0, 400, .inl f2)), (x7, .inl (G.2 0, 14, .inl g2)), (x8, .inl (G.2 0, 32, .inl z2_)), (w3, .inr (2, [.ref x9, .ref x10, .ref x11, .int (nI n3), .int (nI u3)])), (x9, .inl (G.2 0, 400, .inl f3)), (x10, .inl (G.2 0, 14, .inl g3)), (x11, .inl (G.2 0, 32, .inl z3_)), (s5, .inl (G.2 0, 6, .inl m5)), (k0, .inr (6, [.ref b1, .ref b2, .ref b3, .ref b4, .int o1, .int o2, .int o3])), (b1, .inl (G.2 0, 7, .inl e1)), (b2, .inl (G.2 0, 6, .inl e2)), (b3, .inl (G.2 0, 7, .inl e3)), (b4, .inl (G.2 0, 42, .inl e4))]) S hw hl.1 lX9_285 (c_gbitCount l G ar1) ⟨Nat.le_of_ble_eq_true rfl, Nat.le_of_ble_eq_true rfl⟩ ⟨Nat.le_of_ble_eq_true rfl, Nat.le_of_ble_eq_true rfl⟩ [] [0, 1, 2, 3, 4, 5, 6, 7, 8, 9, 10, 11, 12, 13, 14, 15, 16, 17, 18, 19, 20, 21, 22, 23, 24, 25, 26, 27, 28, 29] (by decide +kernel) rfl rfl (by decide +kernel) (by decide +kernel) rfl rfl (Nat.le_of_ble_eq_true rfl) dX9_leftAtWorst_70 ?_
        clear hw
        intro rr u H locs hp hw
        refine hp.elim fun jj_74 zg0 => zg0.elim fun zee1 zg1 => zg1.elim fun zee2 hq70_0 => ?_
        clear hp zg0 zg1
        subst zee1
        subst zee2
        replace hw : zz_w G A s [(ob0, .inr (9, [.ref ut, .int uf1, .ref h1, .int uf3, .ref sc, .ref dr0, .ref k0, .ref my0, .ref c0, .ref ga, .ref pa0, .ref t0, .ref sl0, .ref hd0])), (sc, .inr (5, [.ref s1, .ref s2, .ref s3, .ref s4, .ref s5, .ref s6, .ref s7, .ref s8, .ref s9, .int (nI pp), .int (nI pq), .int i3, .int i4])), (s3, .inl (G.2 0, 7, .inl m3)), (s4, .inl (G.2 0, 7, .inl m4)), (s6, .inl (G.2 0, 6, .inl m6)), (s7, .inl (G.2 0, 6, .inl m7)), (s9, .inl (G.2 0, 9, .inl vF47)), (s8, .inl (G.2 4, 4, .inr (.inr (.inr (.inr (va_up (va_up (va_up (va_up (fun _ => none) 0 (some w0)) 1 (some w1)) 2 (some w2)) 3 (some w3))))))), (w0, .inr (2, [.ref x0, .ref x1, .ref x2, .int (nI n0), .int (nI u0)])), (x0, .inl (G.2 0, 400, .inl f0)), (x1, .inl (G.2 0, 14, .inl g0)), (x2, .inl (G.2 0, 32, .inl vF48)), (w1, .inr (2, [.ref x3, .ref x4, .ref x5, .int (nI n1), .int (nI u1)])), (x3, .inl (G.2 0, 400, .inl f1)), (x4, .inl (G.2 0, 14, .inl g1)), (x5, .inl (G.2 0, 32, .inl z1_)), (w2, .inr (2, [.ref x6, .ref x7, .ref x8, .int (nI n2), .int (nI u2)])), (x6, .inl (G.2 0, 400, .inl f2)), (x7, .inl (G.2 0, 14, .inl g2)), (x8, .inl (G.2 0, 32, .inl z2_)), (w3, .inr (2, [.ref x9, .ref x10, .ref x11, .int (nI n3), .int (nI u3)])), (x9, .inl (G.2 0, 400, .inl f3)), (x10, .inl (G.2 0, 14, .inl g3)), (x11, .inl (G.2 0, 32, .inl z3_)), (s5, .inl (G.2 0, 6, .inl m5)), (k0, .inr (6, [.ref b1, .ref b2, .ref b3, .ref b4, .int o1, .int o2, .int o3])), (b1, .inl (G.2 0, 7, .inl e1)), (b2, .inl (G.2 0, 6, .inl e2)), (b3, .inl (G.2 0, 7, .inl e3)), (b4, .inl (G.2 0, 42, .inl e4))] H _ := hw
        refine W.eq (g2 := F0 m 73 ls [.int (nI jj_74), .int vy46]) rfl ?_
        refine lv_iload hx hb dX9_leftAtWorst_73 (lv_at hl 1 rfl) ?_
        refine lv_isub hx hb dX9_leftAtWorst_75 ?_
        refine lv_topi (fun z75 ez75 => ?_)
        refine zz_max S hl.1 (zz_c5 77 rfl rfl) (Nat.le_of_ble_eq_true rfl) (Nat.le_of_ble_eq_true rfl) (Nat.le_of_ble_eq_true rfl) (Nat.le_of_ble_eq_true rfl) dX9_leftAtWorst_76 ?_
        refine lv_topi (fun z76 ez76 => ?_)
        refine W.eq (g2 := F0 m 79 ls [.int z76]) rfl ?_
        exact hret _ _ _ _ _ _ ⟨z76, vF47, vF48, z1_, z2_, z3_, rfl, rfl⟩ hw rfl dX9_leftAtWorst_79
      · skip
        have c15_73n : ¬ (pp ≤ vi1) := fun z => c15_73 ((zz_le (a := pp) (b := vi1) rfl rfl (by omega) (by omega)).mpr z)
        refine lv_iload_n hx hb dX9_leftAtWorst_18 rfl (lv_at hl 3 rfl) ?_
        refine lv_iload hx hb dX9_leftAtWorst_19 (lv_at hl 0 rfl) ?_
        refine lv_ishr hx hb dX9_leftAtWorst_21 ?_
        refine lv_topi (fun z77 ez77 => ?_)
        refine lv_iconst (v := 1) hx hb dX9_leftAtWorst_22 (by decide) ?_
        refine lv_iand hx hb dX9_leftAtWorst_23 ?_
        refine lv_topi (fun z78 ez78 => ?_)
        have jn32_81 : ∀ (vy80 : Int32) (H : Heap) (locs : List Loc) (ls : Array Slot), (vy80 = 0 ∨ vy80 = 1) → zz_w G A s [(ob0, .inr (9, [.ref ut, .int uf1, .ref h1, .int uf3, .ref sc, .ref dr0, .ref k0, .ref my0, .ref c0, .ref ga, .ref pa0, .ref t0, .ref sl0, .ref hd0])), (sc, .inr (5, [.ref s1, .ref s2, .ref s3, .ref s4, .ref s5, .ref s6, .ref s7, .ref s8, .ref s9, .int (nI pp), .int (nI pq), .int i3, .int i4])), (s3, .inl (G.2 0, 7, .inl m3)), (s4, .inl (G.2 0, 7, .inl m4)), (s6, .inl (G.2 0, 6, .inl m6)), (s7, .inl (G.2 0, 6, .inl m7)), (s9, .inl (G.2 0, 9, .inl vF47)), (s8, .inl (G.2 4, 4, .inr (.inr (.inr (.inr (va_up (va_up (va_up (va_up (fun _ => none) 0 (some w0)) 1 (some w1)) 2 (some w2)) 3 (some w3))))))), (w0, .inr (2, [.ref x0, .ref x1, .ref x2, .int (nI n0), .int (nI u0)])), (x0, .inl (G.2 0, 400, .inl f0)), (x1, .inl (G.2 0, 14, .inl g0)), (x2, .inl (G.2 0, 32, .inl vF48)), (w1, .inr (2, [.ref x3, .ref x4, .ref x5, .int (nI n1), .int (nI u1)])), (x3, .inl (G.2 0, 400, .inl f1)), (x4, .inl (G.2 0, 14, .inl g1)), (x5, .inl (G.2 0, 32, .inl z1_)), (w2, .inr (2, [.ref x6, .ref x7, .ref x8, .int (nI n2), .int (nI u2)])), (x6, .inl (G.2 0, 400, .inl f2)), (x7, .inl (G.2 0, 14, .inl g2)), (x8, .inl (G.2 0, 32, .inl z2_)), (w3, .inr (2, [.ref x9, .ref x10, .ref x11, .int (nI n3), .int (nI u3)])), (x9, .inl (G.2 0, 400, .inl f3)), (x10, .inl (G.2 0, 14, .inl g3)), (x11, .inl (G.2 0, 32, .inl z3_)), (s5, .inl (G.2 0, 6, .inl m5)), (k0, .inr (6, [.ref b1, .ref b2, .ref b3, .ref b4, .int o1, .int o2, .int o3])), (b1, .inl (G.2 0, 7, .inl e1)), (b2, .inl (G.2 0, 6, .inl e2)), (b3, .inl (G.2 0, 7, .inl e3)), (b4, .inl (G.2 0, 42, .inl e4))] H locs → lv_has ls 7 [(5, .int (nI vi1)), (4, .int vy46), (0, .ref ob0), (1, .int ar1), (2, .int (nI pa)), (3, .int ar3)] → W p l e (zz_rm 4 0 0) s m args below meth c H locs (0) (0) Q (F0 m 32 ls [.int vy80]) := by
          intro vy80 H locs ls hj32_82 hw hl
          refine lv_istore (lv' := [(6, .int vy80), (5, .int (nI vi1)), (4, .int vy46), (0, .ref ob0), (1, .int ar1), (2, .int (nI pa)), (3, .int ar3)]) hx hb dX9_leftAtWorst_32 hl (by decide) rfl (fun ls hl => ?_)
          refine lv_iload hx hb dX9_leftAtWorst_34 (lv_at hl 0 rfl) ?_
          have jn61_91 : ∀ (vy88 : Int32) (vF89 : Nat → Int32) (vF90 : Nat → Int32) (H : Heap) (locs : List Loc) (ls : Array Slot), zz_w G A s [(ob0, .inr (9, [.ref ut, .int uf1, .ref h1, .int uf3, .ref sc, .ref dr0, .ref k0, .ref my0, .ref c0, .ref ga, .ref pa0, .ref t0, .ref sl0, .ref hd0])), (sc, .inr (5, [.ref s1, .ref s2, .ref s3, .ref s4, .ref s5, .ref s6, .ref s7, .ref s8, .ref s9, .int (nI pp), .int (nI pq), .int i3, .int i4])), (s3, .inl (G.2 0, 7, .inl m3)), (s4, .inl (G.2 0, 7, .inl m4)), (s6, .inl (G.2 0, 6, .inl m6)), (s7, .inl (G.2 0, 6, .inl m7)), (s9, .inl (G.2 0, 9, .inl vF89)), (s8, .inl (G.2 4, 4, .inr (.inr (.inr (.inr (va_up (va_up (va_up (va_up (fun _ => none) 0 (some w0)) 1 (some w1)) 2 (some w2)) 3 (some w3))))))), (w0, .inr (2, [.ref x0, .ref x1, .ref x2, .int (nI n0), .int (nI u0)])), (x0, .inl (G.2 0, 400, .inl f0)), (x1, .inl (G.2 0, 14, .inl g0)), (x2, .inl (G.2 0, 32, .inl vF90)), (w1, .inr (2, [.ref x3, .ref x4, .ref x5, .int (nI n1), .int (nI u1)])), (x3, .inl (G.2 0, 400, .inl f1)), (x4, .inl (G.2 0, 14, .inl g1)), (x5, .inl (G.2 0, 32, .inl z1_)), (w2, .inr (2, [.ref x6, .ref x7, .ref x8, .int (nI n2), .int (nI u2)])), (x6, .inl (G.2 0, 400, .inl f2)), (x7, .inl (G.2 0, 14, .inl g2)), (x8, .inl (G.2 0, 32, .inl z2_)), (w3, .inr (2, [.ref x9, .ref x10, .ref x11, .int (nI n3), .int (nI u3)])), (x9, .inl (G.2 0, 400, .inl f3)), (x10, .inl (G.2 0, 14, .inl g3)), (x11, .inl (G.2 0, 32, .inl z3_)), (s5, .inl (G.2 0, 6, .inl m5)), (k0, .inr (6, [.ref b1, .ref b2, .ref b3, .ref b4, .int o1, .int o2, .int o3])), (b1, .inl (G.2 0, 7, .inl e1)), (b2, .inl (G.2 0, 6, .inl e2)), (b3, .inl (G.2 0, 7, .inl e3)), (b4, .inl (G.2 0, 42, .inl e4))] H locs → lv_has ls 7 [(6, .int vy80), (5, .int (nI vi1)), (4, .int vy88), (0, .ref ob0), (1, .int ar1), (2, .int (nI pa)), (3, .int ar3)] → W p l e (zz_rm 4 0 0) s m args below meth c H locs (0) (0) Q (F0 m 61 ls []) := by
            intro vy88 vF89 vF90 H locs ls  hw hl
            refine lv_iinc (v := (nI (vi1 + 1))) (lv' := [(5, .int (nI (vi1 + 1))), (6, .int vy80), (4, .int vy88), (0, .ref ob0), (1, .int ar1), (2, .int (nI pa)), (3, .int ar3)]) hx hb dX9_leftAtWorst_61 hl (k := 1) rfl (nI_add _ 1) (by decide) rfl (fun ls hl => ?_)
            refine lv_goto (tgt := 6) hx hb dX9_leftAtWorst_64 (by decide) ?_
            exact ih6 (vi1 + 1) vy88 vF89 vF90 _ _ _ (by omega) (by omega) hw (lv_sub hl [0, 2, 3, 4, 5, 6] rfl)
          refine lv_if_eq (tgt := 61) hx hb dX9_leftAtWorst_36 (by decide) (fun c36_83 => ?_) (fun c36_83 => ?_)
          · skip
            exact jn61_91 vy46 vF47 vF48 _ _ _ hw (lv_sub hl [0, 1, 2, 3, 4, 5, 6] rfl)
          · skip
            refine lv_aload_n hx hb dX9_leftAtWorst_39 rfl (lv_at hl 3 rfl) ?_
            refine zz_get (v := .ref sc) S hw fgX9_30 0 rfl rfl dX9_leftAtWorst_40 ?_
            refine lv_iconst (v := 0) hx hb dX9_leftAtWorst_43 (by decide) ?_
            refine lv_aload_n hx hb dX9_leftAtWorst_44 rfl (lv_at hl 3 rfl) ?_
            refine zz_get (v := .ref k0) S hw fgX9_40 0 rfl rfl dX9_leftAtWorst_45 ?_
            refine W.eq (g2 := F0 m 48 ls [.ref k0, .int 0, .ref sc]) rfl ?_
            refine lv_iload hx hb dX9_leftAtWorst_48 (lv_at hl 1 rfl) ?_
            refine lv_iload_n hx hb dX9_leftAtWorst_50 rfl (lv_at hl 5 rfl) ?_
            refine zz_callV (qb := 1) (As := [.int 0, .ref k0, .int (nI vi1), .int (nI pa)]) (rest := []) (wr := [(ob0, .inr (9, [.ref ut, .int uf1, .ref h1, .int uf3, .ref sc, .ref dr0, .ref k0, .ref my0, .ref c0, .ref ga, .ref pa0, .ref t0, .ref sl0, .ref hd0])), (w1, .inr (2, [.ref x3, .ref x4, .ref x5, .int (nI n1), .int (nI u1)])), (x3, .inl (G.2 0, 400, .inl f1)), (x4, .inl (G.2 0, 14, .inl g1)), (x5, .inl (G.2 0, 32, .inl z1_)), (w2, .inr (2, [.ref x6, .ref x7, .ref x8, .int (nI n2), .int (nI u2)])), (x6, .inl (G.2 0, 400, .inl f2)), (x7, .inl (G.2 0, 14, .inl g2)), (x8, .inl (G.2 0, 32, .inl z2_)), (w3, .inr (2, [.ref x9, .ref x10, .ref x11, .int (nI n3), .int (nI u3)])), (x9, .inl (G.2 0, 400, .inl f3)), (x10, .inl (G.2 0, 14, .inl g3)), (x11, .inl (G.2 0, 32, .inl z3_)), (s5, .inl (G.2 0, 6, .inl m5)), (b3, .inl (G.2 0, 7, .inl e3))]) S hw hl.1 lX9_173 (c_gmeas0 l G sc s1 s2 s3 s4 s5 s6 s7 s8 s9 w0 w1 w2 w3 x0 x1 x2 (nI pp) (nI pq) i3 i4 m3 m4 m6 m7 vF47 f0 g0 n0 u0 vF48 k0 b1 b2 b3 b4 e1 e2 e4 o1 o2 o3 vi1 pa (by first | assumption | omega | exact Or.inr ⟨_, by omega, rfl⟩ | (unfold zz_sok; decide) | decide | exact (fun j hj => (hv7 j hj).1)) (by first | assumption | omega | exact Or.inr ⟨_, by omega, rfl⟩ | (unfold zz_sok; decide) | decide | exact (fun j hj => (hv7 j hj).1)) (by first | assumption | omega | exact Or.inr ⟨_, by omega, rfl⟩ | (unfold zz_sok; decide) | decide | exact (fun j hj => (hv7 j hj).1))) ⟨Nat.le_of_ble_eq_true rfl, Nat.le_of_ble_eq_true rfl⟩ ⟨Nat.le_of_ble_eq_true rfl, Nat.le_of_ble_eq_true rfl⟩ [1, 2, 3, 4, 5, 6, 7, 8, 9, 10, 11, 25, 26, 27, 29] [0, 12, 13, 14, 15, 16, 17, 18, 19, 20, 21, 22, 23, 24, 28] (by decide +kernel) rfl rfl (by decide +kernel) (by decide +kernel) rfl rfl rfl rfl (Nat.le_of_ble_eq_true rfl) dX9_leftAtWorst_51 ?_
            clear hw
            intro rr u H locs hp hw
            refine hp.elim fun rv_92 zg0 => zg0.elim fun fcc_93 zg1 => zg1.elim fun zz0_94 zg2 => zg2.elim fun zee1 zg3 => zg3.elim fun zee2 hq51_0 => ?_
            clear hp zg0 zg1 zg2 zg3
            subst zee1
            subst zee2
            replace hw : zz_w G A s [(ob0, .inr (9, [.ref ut, .int uf1, .ref h1, .int uf3, .ref sc, .ref dr0, .ref k0, .ref my0, .ref c0, .ref ga, .ref pa0, .ref t0, .ref sl0, .ref hd0])), (w1, .inr (2, [.ref x3, .ref x4, .ref x5, .int (nI n1), .int (nI u1)])), (x3, .inl (G.2 0, 400, .inl f1)), (x4, .inl (G.2 0, 14, .inl g1)), (x5, .inl (G.2 0, 32, .inl z1_)), (w2, .inr (2, [.ref x6, .ref x7, .ref x8, .int (nI n2), .int (nI u2)])), (x6, .inl (G.2 0, 400, .inl f2)), (x7, .inl (G.2 0, 14, .inl g2)), (x8, .inl (G.2 0, 32, .inl z2_)), (w3, .inr (2, [.ref x9, .ref x10, .ref x11, .int (nI n3), .int (nI u3)])), (x9, .inl (G.2 0, 400, .inl f3)), (x10, .inl (G.2 0, 14, .inl g3)), (x11, .inl (G.2 0, 32, .inl z3_)), (s5, .inl (G.2 0, 6, .inl m5)), (b3, .inl (G.2 0, 7, .inl e3)), (sc, .inr (5, [.ref s1, .ref s2, .ref s3, .ref s4, .ref s5, .ref s6, .ref s7, .ref s8, .ref s9, .int (nI pp), .int (nI pq), .int i3, .int i4])), (s3, .inl (G.2 0, 7, .inl m3)), (s4, .inl (G.2 0, 7, .inl m4)), (s6, .inl (G.2 0, 6, .inl m6)), (s7, .inl (G.2 0, 6, .inl m7)), (s9, .inl (G.2 0, 9, .inl fcc_93)), (s8, .inl (G.2 4, 4, .inr (.inr (.inr (.inr (va_up (va_up (va_up (va_up (fun _ => none) 0 (some w0)) 1 (some w1)) 2 (some w2)) 3 (some w3))))))), (w0, .inr (2, [.ref x0, .ref x1, .ref x2, .int (nI n0), .int (nI u0)])), (x0, .inl (G.2 0, 400, .inl f0)), (x1, .inl (G.2 0, 14, .inl g0)), (x2, .inl (G.2 0, 32, .inl zz0_94)), (k0, .inr (6, [.ref b1, .ref b2, .ref b3, .ref b4, .int o1, .int o2, .int o3])), (b1, .inl (G.2 0, 7, .inl e1)), (b2, .inl (G.2 0, 6, .inl e2)), (b4, .inl (G.2 0, 42, .inl e4))] H _ := hw
            refine W.eq (g2 := F0 m 54 ls [.int rv_92]) rfl ?_
            refine lv_iload_n hx hb dX9_leftAtWorst_54 rfl (lv_at hl 6 rfl) ?_
            refine lv_icmp_lt (tgt := 61) hx hb dX9_leftAtWorst_55 (by decide) (fun c55_95 => ?_) (fun c55_95 => ?_)
            · skip
              exact jn61_91 vy46 fcc_93 zz0_94 _ _ _ (hw.sub [0, 15, 16, 17, 18, 19, 20, 21, 22, 23, 24, 25, 1, 2, 3, 4, 5, 6, 7, 8, 9, 10, 11, 12, 13, 26, 27, 28, 14, 29] (by decide +kernel) rfl) (lv_sub hl [0, 1, 2, 3, 4, 5, 6] rfl)
            · skip
              refine lv_iinc (v := (vy46 + 1)) (lv' := [(4, .int (vy46 + 1)), (6, .int vy80), (5, .int (nI vi1)), (0, .ref ob0), (1, .int ar1), (2, .int (nI pa)), (3, .int ar3)]) hx hb dX9_leftAtWorst_58 hl (k := 2) rfl (rfl) (by decide) rfl (fun ls hl => ?_)
              exact jn61_91 (vy46 + 1) fcc_93 zz0_94 _ _ _ (hw.sub [0, 15, 16, 17, 18, 19, 20, 21, 22, 23, 24, 25, 1, 2, 3, 4, 5, 6, 7, 8, 9, 10, 11, 12, 13, 26, 27, 28, 14, 29] (by decide +kernel) rfl) (lv_sub hl [1, 2, 0, 3, 4, 5, 6] rfl)
        refine lv_if_eq (tgt := 31) hx hb dX9_leftAtWorst_24 (by decide) (fun c24_79 => ?_) (fun c24_79 => ?_)
        · skip
          refine lv_iconst (v := 0) hx hb dX9_leftAtWorst_31 (by decide) ?_
          exact jn32_81 0 _ _ _ (by first | assumption | omega | (first | exact Or.inl rfl | exact Or.inr rfl) | decide) hw (lv_sub hl [0, 1, 2, 3, 4, 5] rfl)
        · skip
          refine lv_iconst (v := 1) hx hb dX9_leftAtWorst_27 (by decide) ?_
          refine lv_goto (tgt := 32) hx hb dX9_leftAtWorst_28 (by decide) ?_
          exact jn32_81 1 _ _ _ (by first | assumption | omega | (first | exact Or.inl rfl | exact Or.inr rfl) | decide) hw (lv_sub hl [0, 1, 2, 3, 4, 5] rfl)
  exact lp6_72 (pp + 1 - 0) 0 0 fc z0_ _ _ _ (by omega) (by omega) hw (lv_sub hl [0, 1, 2, 3, 4, 5] rfl)
theorem kd_ncX9_ask : kd_ck 1386643825193270254008884619572945563122150193764598095351472973863006997285919440933444135221455597143828064687871002564694374680215763907389771744087146512066370834533265342891735280690605954301079015084159260849879326662507663290092217673977593003226133111253277467 111 cX9_ask.data.toList 0 = true := by decide +kernel
theorem dX9_ask_0 : decode cX9_ask 0 = .ok (.iload_n 1, 1) := kd_dk0 kd_o27 kd_ncX9_ask rfl
theorem dX9_ask_1 : decode cX9_ask 1 = .ok (.ifCond .lt 24, 3) := kd_dj2 kd_o155 (w := 24) kd_ncX9_ask rfl rfl
theorem dX9_ask_4 : decode cX9_ask 4 = .ok (.iload_n 1, 1) := kd_dk0 kd_o27 kd_ncX9_ask rfl
theorem dX9_ask_5 : decode cX9_ask 5 = .ok (.aload_n 0, 1) := kd_dk0 kd_o42 kd_ncX9_ask rfl
theorem dX9_ask_6 : decode cX9_ask 6 = .ok (.getfield 71, 3) := kd_dk2 kd_o180 kd_ncX9_ask rfl
theorem dX9_ask_9 : decode cX9_ask 9 = .ok (.getfield 278, 3) := kd_dk2 kd_o180 kd_ncX9_ask rfl
theorem dX9_ask_12 : decode cX9_ask 12 = .ok (.if_icmp .gt 13, 3) := kd_dj2 kd_o163 (w := 13) kd_ncX9_ask rfl rfl
theorem dX9_ask_15 : decode cX9_ask 15 = .ok (.iload_n 2, 1) := kd_dk0 kd_o28 kd_ncX9_ask rfl
theorem dX9_ask_16 : decode cX9_ask 16 = .ok (.ifCond .lt 9, 3) := kd_dj2 kd_o155 (w := 9) kd_ncX9_ask rfl rfl
theorem dX9_ask_19 : decode cX9_ask 19 = .ok (.iload_n 2, 1) := kd_dk0 kd_o28 kd_ncX9_ask rfl
theorem dX9_ask_20 : decode cX9_ask 20 = .ok (.bipush 99, 2) := kd_dj1 kd_o16 (w := 99) kd_ncX9_ask rfl rfl
theorem dX9_ask_22 : decode cX9_ask 22 = .ok (.if_icmp .le 5, 3) := kd_dj2 kd_o164 (w := 5) kd_ncX9_ask rfl rfl
theorem dX9_ask_25 : decode cX9_ask 25 = .ok (.iconst (-1), 1) := kd_dk0 kd_o2 kd_ncX9_ask rfl
theorem dX9_ask_26 : decode cX9_ask 26 = .ok (.ireturn, 1) := kd_dk0 kd_o172 kd_ncX9_ask rfl
theorem dX9_ask_27 : decode cX9_ask 27 = .ok (.aload_n 0, 1) := kd_dk0 kd_o42 kd_ncX9_ask rfl
theorem dX9_ask_28 : decode cX9_ask 28 = .ok (.getfield 71, 3) := kd_dk2 kd_o180 kd_ncX9_ask rfl
theorem dX9_ask_31 : decode cX9_ask 31 = .ok (.iload_n 1, 1) := kd_dk0 kd_o27 kd_ncX9_ask rfl
theorem dX9_ask_32 : decode cX9_ask 32 = .ok (.aload_n 0, 1) := kd_dk0 kd_o42 kd_ncX9_ask rfl
theorem dX9_ask_33 : decode cX9_ask 33 = .ok (.getfield 30, 3) := kd_dk2 kd_o180 kd_ncX9_ask rfl
theorem dX9_ask_36 : decode cX9_ask 36 = .ok (.aload_n 0, 1) := kd_dk0 kd_o42 kd_ncX9_ask rfl
theorem dX9_ask_37 : decode cX9_ask 37 = .ok (.getfield 40, 3) := kd_dk2 kd_o180 kd_ncX9_ask rfl
theorem dX9_ask_40 : decode cX9_ask 40 = .ok (.invokevirtual 281, 3) := kd_dk2 kd_o182 kd_ncX9_ask rfl
theorem dX9_ask_43 : decode cX9_ask 43 = .ok (.istore_n 3, 1) := kd_dk0 kd_o62 kd_ncX9_ask rfl
theorem dX9_ask_44 : decode cX9_ask 44 = .ok (.bipush (-2), 2) := kd_dj1 kd_o16 (w := 254) kd_ncX9_ask rfl rfl
theorem dX9_ask_46 : decode cX9_ask 46 = .ok (.istore 4, 2) := kd_dk1 kd_o54 kd_ncX9_ask rfl
theorem dX9_ask_48 : decode cX9_ask 48 = .ok (.iconst 0, 1) := kd_dk0 kd_o3 kd_ncX9_ask rfl
theorem dX9_ask_49 : decode cX9_ask 49 = .ok (.istore 5, 2) := kd_dk1 kd_o54 kd_ncX9_ask rfl
theorem dX9_ask_51 : decode cX9_ask 51 = .ok (.iconst 0, 1) := kd_dk0 kd_o3 kd_ncX9_ask rfl
theorem dX9_ask_52 : decode cX9_ask 52 = .ok (.istore 6, 2) := kd_dk1 kd_o54 kd_ncX9_ask rfl
theorem dX9_ask_54 : decode cX9_ask 54 = .ok (.iload 6, 2) := kd_dk1 kd_o21 kd_ncX9_ask rfl
theorem dX9_ask_56 : decode cX9_ask 56 = .ok (.aload_n 0, 1) := kd_dk0 kd_o42 kd_ncX9_ask rfl
theorem dX9_ask_57 : decode cX9_ask 57 = .ok (.getfield 30, 3) := kd_dk2 kd_o180 kd_ncX9_ask rfl
theorem dX9_ask_60 : decode cX9_ask 60 = .ok (.getfield 108, 3) := kd_dk2 kd_o180 kd_ncX9_ask rfl
theorem dX9_ask_63 : decode cX9_ask 63 = .ok (.if_icmp .ge 45, 3) := kd_dj2 kd_o162 (w := 45) kd_ncX9_ask rfl rfl
theorem dX9_ask_66 : decode cX9_ask 66 = .ok (.iload_n 3, 1) := kd_dk0 kd_o29 kd_ncX9_ask rfl
theorem dX9_ask_67 : decode cX9_ask 67 = .ok (.ifCond .eq 41, 3) := kd_dj2 kd_o153 (w := 41) kd_ncX9_ask rfl rfl
theorem dX9_ask_70 : decode cX9_ask 70 = .ok (.aload_n 0, 1) := kd_dk0 kd_o42 kd_ncX9_ask rfl
theorem dX9_ask_71 : decode cX9_ask 71 = .ok (.iload_n 3, 1) := kd_dk0 kd_o29 kd_ncX9_ask rfl
theorem dX9_ask_72 : decode cX9_ask 72 = .ok (.iload 6, 2) := kd_dk1 kd_o21 kd_ncX9_ask rfl
theorem dX9_ask_74 : decode cX9_ask 74 = .ok (.iload_n 2, 1) := kd_dk0 kd_o28 kd_ncX9_ask rfl
theorem dX9_ask_75 : decode cX9_ask 75 = .ok (.invokevirtual 290, 3) := kd_dk2 kd_o182 kd_ncX9_ask rfl
theorem dX9_ask_78 : decode cX9_ask 78 = .ok (.istore 7, 2) := kd_dk1 kd_o54 kd_ncX9_ask rfl
theorem dX9_ask_80 : decode cX9_ask 80 = .ok (.iload 4, 2) := kd_dk1 kd_o21 kd_ncX9_ask rfl
theorem dX9_ask_82 : decode cX9_ask 82 = .ok (.bipush (-2), 2) := kd_dj1 kd_o16 (w := 254) kd_ncX9_ask rfl rfl
theorem dX9_ask_84 : decode cX9_ask 84 = .ok (.if_icmp .eq 10, 3) := kd_dj2 kd_o159 (w := 10) kd_ncX9_ask rfl rfl
theorem dX9_ask_87 : decode cX9_ask 87 = .ok (.iload 7, 2) := kd_dk1 kd_o21 kd_ncX9_ask rfl
theorem dX9_ask_89 : decode cX9_ask 89 = .ok (.iload 5, 2) := kd_dk1 kd_o21 kd_ncX9_ask rfl
theorem dX9_ask_91 : decode cX9_ask 91 = .ok (.if_icmp .ge 11, 3) := kd_dj2 kd_o162 (w := 11) kd_ncX9_ask rfl rfl
theorem dX9_ask_94 : decode cX9_ask 94 = .ok (.iload 6, 2) := kd_dk1 kd_o21 kd_ncX9_ask rfl
theorem dX9_ask_96 : decode cX9_ask 96 = .ok (.istore 4, 2) := kd_dk1 kd_o54 kd_ncX9_ask rfl
theorem dX9_ask_98 : decode cX9_ask 98 = .ok (.iload 7, 2) := kd_dk1 kd_o21 kd_ncX9_ask rfl
theorem dX9_ask_100 : decode cX9_ask 100 = .ok (.istore 5, 2) := kd_dk1 kd_o54 kd_ncX9_ask rfl
theorem dX9_ask_102 : decode cX9_ask 102 = .ok (.iinc 6 1, 3) := kd_dji kd_o132 (w := 1) kd_ncX9_ask rfl rfl
theorem dX9_ask_105 : decode cX9_ask 105 = .ok (.goto (-51), 3) := kd_dj2 kd_o167 (w := 65485) kd_ncX9_ask rfl rfl
theorem dX9_ask_108 : decode cX9_ask 108 = .ok (.iload 4, 2) := kd_dk1 kd_o21 kd_ncX9_ask rfl
theorem dX9_ask_110 : decode cX9_ask 110 = .ok (.ireturn, 1) := kd_dk0 kd_o172 kd_ncX9_ask rfl
set_option maxHeartbeats 8000000 in
set_option maxRecDepth 100000 in
theorem c_g_ask (l : Launch) (G : zz_G) (ob0 : Nat) (ut : Nat) (uf1 : Int32) (h1 : Nat) (uf3 : Int32) (sc : Nat) (dr0 : Nat) (k0 : Nat) (my0 : Nat) (c0 : Nat) (ga : Nat) (pa0 : Nat) (t0 : Nat) (sl0 : Nat) (hd0 : Nat) (s1 : Nat) (s2 : Nat) (s3 : Nat) (s4 : Nat) (s5 : Nat) (s6 : Nat) (s7 : Nat) (s8 : Nat) (s9 : Nat) (w0 : Nat) (w1 : Nat) (w2 : Nat) (w3 : Nat) (x0 : Nat) (x1 : Nat) (x2 : Nat) (x3 : Nat) (x4 : Nat) (x5 : Nat) (x6 : Nat) (x7 : Nat) (x8 : Nat) (x9 : Nat) (x10 : Nat) (x11 : Nat) (pp : Nat) (pq : Nat) (i3 : Int32) (i4 : Int32) (m3 : Nat → Int32) (m4 : Nat → Int32) (m6 : Nat → Int32) (m7 : Nat → Int32) (fc : Nat → Int32) (f0 : Nat → Int32) (g0 : Nat → Int32) (n0 : Nat) (u0 : Nat) (z0_ : Nat → Int32) (f1 : Nat → Int32) (g1 : Nat → Int32) (n1 : Nat) (u1 : Nat) (z1_ : Nat → Int32) (f2 : Nat → Int32) (g2 : Nat → Int32) (n2 : Nat) (u2 : Nat) (z2_ : Nat → Int32) (f3 : Nat → Int32) (g3 : Nat → Int32) (n3 : Nat) (u3 : Nat) (z3_ : Nat → Int32) (m5 : Nat → Int32) (b1 : Nat) (b2 : Nat) (b3 : Nat) (b4 : Nat) (e1 : Nat → Int32) (e2 : Nat → Int32) (e3 : Nat → Int32) (e4 : Nat → Int32) (o1 : Int32) (o2 : Int32) (o3 : Int32) (t1 : Nat) (t2 : Nat) (t3 : Nat) (tp : Nat → Int32) (tw : Nat → Int32) (ts : Nat → Int32) (tm : Nat) (ar1 : Int32) (ar2 : Int32) (hv0 : zz_lwv f0 g0 n0 u0) (hv1 : zz_lwv f1 g1 n1 u1) (hv2 : zz_lwv f2 g2 n2 u2) (hv3 : zz_lwv f3 g3 n3 u3) (hpp : pp ≤ 7) (hpq : pq ≤ 6) (htm : tm ≤ 20) (htp : ∀ j, j < 20 → ∃ q : Nat, q < 6 ∧ tp j = nI q) : zz_M l G mX9_ask 6 0 0 [.ref ob0, .int ar1, .int ar2] [(ob0, .inr (9, [.ref ut, .int uf1, .ref h1, .int uf3, .ref sc, .ref dr0, .ref k0, .ref my0, .ref c0, .ref ga, .ref pa0, .ref t0, .ref sl0, .ref hd0])), (sc, .inr (5, [.ref s1, .ref s2, .ref s3, .ref s4, .ref s5, .ref s6, .ref s7, .ref s8, .ref s9, .int (nI pp), .int (nI pq), .int i3, .int i4])), (s3, .inl (G.2 0, 7, .inl m3)), (s4, .inl (G.2 0, 7, .inl m4)), (s6, .inl (G.2 0, 6, .inl m6)), (s7, .inl (G.2 0, 6, .inl m7)), (s9, .inl (G.2 0, 9, .inl fc)), (s8, .inl (G.2 4, 4, .inr (.inr (.inr (.inr (va_up (va_up (va_up (va_up (fun _ => none) 0 (some w0)) 1 (some w1)) 2 (some w2)) 3 (some w3))))))), (w0, .inr (2, [.ref x0, .ref x1, .ref x2, .int (nI n0), .int (nI u0)])), (x0, .inl (G.2 0, 400, .inl f0)), (x1, .inl (G.2 0, 14, .inl g0)), (x2, .inl (G.2 0, 32, .inl z0_)), (w1, .inr (2, [.ref x3, .ref x4, .ref x5, .int (nI n1), .int (nI u1)])), (x3, .inl (G.2 0, 400, .inl f1)), (x4, .inl (G.2 0, 14, .inl g1)), (x5, .inl (G.2 0, 32, .inl z1_)), (w2, .inr (2, [.ref x6, .ref x7, .ref x8, .int (nI n2), .int (nI u2)])), (x6, .inl (G.2 0, 400, .inl f2)), (x7, .inl (G.2 0, 14, .inl g2)), (x8, .inl (G.2 0, 32, .inl z2_)), (w3, .inr (2, [.ref x9, .ref x10, .ref x11, .int (nI n3), .int (nI u3)])), (x9, .inl (G.2 0, 400, .inl f3)), (x10, .inl (G.2 0, 14, .inl g3)), (x11, .inl (G.2 0, 32, .inl z3_)), (s5, .inl (G.2 0, 6, .inl m5)), (k0, .inr (6, [.ref b1, .ref b2, .ref b3, .ref b4, .int o1, .int o2, .int o3])), (b1, .inl (G.2 0, 7, .inl e1)), (b2, .inl (G.2 0, 6, .inl e2)), (b3, .inl (G.2 0, 7, .inl e3)), (b4, .inl (G.2 0, 42, .inl e4)), (t0, .inr (8, [.ref t1, .ref t2, .ref t3, .int (nI tm)])), (t1, .inl (G.2 0, 20, .inl tp)), (t2, .inl (G.2 0, 20, .inl tw)), (t3, .inl (G.2 2, 20, .inl ts))] (fun rr u => ∃ (rv : Int32), ∃ (fcc : Nat → Int32), ∃ (zz0 : Nat → Int32), ∃ (zz1 : Nat → Int32), ∃ (zz2 : Nat → Int32), ∃ (zz3 : Nat → Int32), rr = some (.int rv) ∧ u = [(ob0, .inr (9, [.ref ut, .int uf1, .ref h1, .int uf3, .ref sc, .ref dr0, .ref k0, .ref my0, .ref c0, .ref ga, .ref pa0, .ref t0, .ref sl0, .ref hd0])), (sc, .inr (5, [.ref s1, .ref s2, .ref s3, .ref s4, .ref s5, .ref s6, .ref s7, .ref s8, .ref s9, .int (nI pp), .int (nI pq), .int i3, .int i4])), (s3, .inl (G.2 0, 7, .inl m3)), (s4, .inl (G.2 0, 7, .inl m4)), (s6, .inl (G.2 0, 6, .inl m6)), (s7, .inl (G.2 0, 6, .inl m7)), (s9, .inl (G.2 0, 9, .inl fcc)), (s8, .inl (G.2 4, 4, .inr (.inr (.inr (.inr (va_up (va_up (va_up (va_up (fun _ => none) 0 (some w0)) 1 (some w1)) 2 (some w2)) 3 (some w3))))))), (w0, .inr (2, [.ref x0, .ref x1, .ref x2, .int (nI n0), .int (nI u0)])), (x0, .inl (G.2 0, 400, .inl f0)), (x1, .inl (G.2 0, 14, .inl g0)), (x2, .inl (G.2 0, 32, .inl zz0)), (w1, .inr (2, [.ref x3, .ref x4, .ref x5, .int (nI n1), .int (nI u1)])), (x3, .inl (G.2 0, 400, .inl f1)), (x4, .inl (G.2 0, 14, .inl g1)), (x5, .inl (G.2 0, 32, .inl zz1)), (w2, .inr (2, [.ref x6, .ref x7, .ref x8, .int (nI n2), .int (nI u2)])), (x6, .inl (G.2 0, 400, .inl f2)), (x7, .inl (G.2 0, 14, .inl g2)), (x8, .inl (G.2 0, 32, .inl zz2)), (w3, .inr (2, [.ref x9, .ref x10, .ref x11, .int (nI n3), .int (nI u3)])), (x9, .inl (G.2 0, 400, .inl f3)), (x10, .inl (G.2 0, 14, .inl g3)), (x11, .inl (G.2 0, 32, .inl zz3)), (s5, .inl (G.2 0, 6, .inl m5)), (k0, .inr (6, [.ref b1, .ref b2, .ref b3, .ref b4, .int o1, .int o2, .int o3])), (b1, .inl (G.2 0, 7, .inl e1)), (b2, .inl (G.2 0, 6, .inl e2)), (b3, .inl (G.2 0, 7, .inl e3)), (b4, .inl (G.2 0, 42, .inl e4)), (t0, .inr (8, [.ref t1, .ref t2, .ref t3, .int (nI tm)])), (t1, .inl (G.2 0, 20, .inl tp)), (t2, .inl (G.2 0, 20, .inl tw)), (t3, .inl (G.2 2, 20, .inl ts))]) := by
  refine zz_enteri (by decide +kernel) (Nat.le_of_ble_eq_true rfl) ?_
  intro p e s m args below meth c A Q ls S hnm hret hw hl
  have hl : lv_has ls 8 [(0, .ref ob0), (1, .int ar1), (2, .int ar2)] := hl
  have hx := S.1
  have hb := S.2.1
  refine lv_iload_n hx hb dX9_ask_0 rfl (lv_at hl 1 rfl) ?_
  refine lv_if_lt (tgt := 25) hx hb dX9_ask_1 (by decide) (fun c1_1 => ?_) (fun c1_1 => ?_)
  · skip
    refine lv_iconst (v := (-1)) hx hb dX9_ask_25 (by decide) ?_
    exact hret _ _ _ _ _ _ ⟨(-1), fc, z0_, z1_, z2_, z3_, rfl, rfl⟩ hw rfl dX9_ask_26
  · skip
    have hlo2 : ¬ ar1 < 0 := zz_lo0 c1_1
    refine lv_iload_n hx hb dX9_ask_4 rfl (lv_at hl 1 rfl) ?_
    refine lv_aload_n hx hb dX9_ask_5 rfl (lv_at hl 0 rfl) ?_
    refine zz_get (v := .ref t0) S hw fgX9_71 0 rfl rfl dX9_ask_6 ?_
    refine zz_get (v := .int (nI tm)) S hw fgX9_278 30 rfl rfl dX9_ask_9 ?_
    refine lv_icmp_gt (tgt := 25) hx hb dX9_ask_12 (by decide) (fun c12_3 => ?_) (fun c12_3 => ?_)
    · skip
      refine lv_iconst (v := (-1)) hx hb dX9_ask_25 (by decide) ?_
      exact hret _ _ _ _ _ _ ⟨(-1), fc, z0_, z1_, z2_, z3_, rfl, rfl⟩ hw rfl dX9_ask_26
    · skip
      refine lv_iload_n hx hb dX9_ask_15 rfl (lv_at hl 2 rfl) ?_
      refine lv_if_lt (tgt := 25) hx hb dX9_ask_16 (by decide) (fun c16_4 => ?_) (fun c16_4 => ?_)
      · skip
        refine lv_iconst (v := (-1)) hx hb dX9_ask_25 (by decide) ?_
        exact hret _ _ _ _ _ _ ⟨(-1), fc, z0_, z1_, z2_, z3_, rfl, rfl⟩ hw rfl dX9_ask_26
      · skip
        have hlo5 : ¬ ar2 < 0 := zz_lo0 c16_4
        refine lv_iload_n hx hb dX9_ask_19 rfl (lv_at hl 2 rfl) ?_
        refine lv_bipush (v := 99) hx hb dX9_ask_20 (by decide) ?_
        refine lv_icmp_le (tgt := 27) hx hb dX9_ask_22 (by decide) (fun c22_6 => ?_) (fun c22_6 => ?_)
        · skip
          obtain ⟨vq7, hvq7, rfl⟩ : ∃ k : Nat, k ≤ 99 ∧ ar2 = nI k := zz_rng hlo5 (Int32.not_lt.mpr c22_6) (by decide)
          refine lv_aload_n hx hb dX9_ask_27 rfl (lv_at hl 0 rfl) ?_
          refine zz_get (v := .ref t0) S hw fgX9_71 0 rfl rfl dX9_ask_28 ?_
          refine lv_iload_n hx hb dX9_ask_31 rfl (lv_at hl 1 rfl) ?_
          refine W.eq (g2 := F0 m 32 ls [.int ar1, .ref t0]) rfl ?_
          refine lv_aload_n hx hb dX9_ask_32 rfl (lv_at hl 0 rfl) ?_
          refine zz_get (v := .ref sc) S hw fgX9_30 0 rfl rfl dX9_ask_33 ?_
          refine lv_aload_n hx hb dX9_ask_36 rfl (lv_at hl 0 rfl) ?_
          refine zz_get (v := .ref k0) S hw fgX9_40 0 rfl rfl dX9_ask_37 ?_
          refine zz_callV (qb := 30) (As := [.int ar1, .ref sc, .ref k0]) (rest := []) (wr := [(ob0, .inr (9, [.ref ut, .int uf1, .ref h1, .int uf3, .ref sc, .ref dr0, .ref k0, .ref my0, .ref c0, .ref ga, .ref pa0, .ref t0, .ref sl0, .ref hd0])), (s5, .inl (G.2 0, 6, .inl m5)), (b3, .inl (G.2 0, 7, .inl e3))]) S hw hl.1 lX9_281 (c_gwhoIsLeft l G t0 t1 t2 t3 tp tw ts tm sc s1 s2 s3 s4 s5 s6 s7 s8 s9 w0 w1 w2 w3 x0 x1 x2 x3 x4 x5 x6 x7 x8 x9 x10 x11 pp pq i3 i4 m3 m4 m6 m7 fc f0 g0 n0 u0 z0_ f1 g1 n1 u1 z1_ f2 g2 n2 u2 z2_ f3 g3 n3 u3 z3_ k0 b1 b2 b3 b4 e1 e2 e4 o1 o2 o3 ar1 (by first | assumption | omega | exact Or.inr ⟨_, by omega, rfl⟩ | (unfold zz_sok; decide) | decide | exact (fun j hj => (hv7 j hj).1)) (by first | assumption | omega | exact Or.inr ⟨_, by omega, rfl⟩ | (unfold zz_sok; decide) | decide | exact (fun j hj => (hv7 j hj).1)) (by first | assumption | omega | exact Or.inr ⟨_, by omega, rfl⟩ | (unfold zz_sok; decide) | decide | exact (fun j hj => (hv7 j hj).1)) (by first | assumption | omega | exact Or.inr ⟨_, by omega, rfl⟩ | (unfold zz_sok; decide) | decide | exact (fun j hj => (hv7 j hj).1)) (by first | assumption | omega | exact Or.inr ⟨_, by omega, rfl⟩ | (unfold zz_sok; decide) | decide | exact (fun j hj => (hv7 j hj).1)) (by first | assumption | omega | exact Or.inr ⟨_, by omega, rfl⟩ | (unfold zz_sok; decide) | decide | exact (fun j hj => (hv7 j hj).1)) (by first | assumption | omega | exact Or.inr ⟨_, by omega, rfl⟩ | (unfold zz_sok; decide) | decide | exact (fun j hj => (hv7 j hj).1)) (by first | assumption | omega | exact Or.inr ⟨_, by omega, rfl⟩ | (unfold zz_sok; decide) | decide | exact (fun j hj => (hv7 j hj).1))) ⟨Nat.le_of_ble_eq_true rfl, Nat.le_of_ble_eq_true rfl⟩ ⟨Nat.le_of_ble_eq_true rfl, Nat.le_of_ble_eq_true rfl⟩ [30, 31, 32, 33, 1, 2, 3, 4, 5, 6, 7, 8, 9, 10, 11, 12, 13, 14, 15, 16, 17, 18, 19, 20, 21, 22, 23, 25, 26, 27, 29] [0, 24, 28] (by decide +kernel) rfl rfl (by decide +kernel) (by decide +kernel) rfl rfl rfl rfl (Nat.le_of_ble_eq_true rfl) dX9_ask_40 ?_
          clear hw
          intro rr u H locs hp hw
          refine hp.elim fun rv_8 zg0 => zg0.elim fun fcc_9 zg1 => zg1.elim fun zz0_10 zg2 => zg2.elim fun zz1_11 zg3 => zg3.elim fun zz2_12 zg4 => zg4.elim fun zz3_13 zg5 => zg5.elim fun zee1 zee2 => ?_
          clear hp zg0 zg1 zg2 zg3 zg4 zg5
          subst zee1
          subst zee2
          replace hw : zz_w G A s [(ob0, .inr (9, [.ref ut, .int uf1, .ref h1, .int uf3, .ref sc, .ref dr0, .ref k0, .ref my0, .ref c0, .ref ga, .ref pa0, .ref t0, .ref sl0, .ref hd0])), (s5, .inl (G.2 0, 6, .inl m5)), (b3, .inl (G.2 0, 7, .inl e3)), (t0, .inr (8, [.ref t1, .ref t2, .ref t3, .int (nI tm)])), (t1, .inl (G.2 0, 20, .inl tp)), (t2, .inl (G.2 0, 20, .inl tw)), (t3, .inl (G.2 2, 20, .inl ts)), (sc, .inr (5, [.ref s1, .ref s2, .ref s3, .ref s4, .ref s5, .ref s6, .ref s7, .ref s8, .ref s9, .int (nI pp), .int (nI pq), .int i3, .int i4])), (s3, .inl (G.2 0, 7, .inl m3)), (s4, .inl (G.2 0, 7, .inl m4)), (s6, .inl (G.2 0, 6, .inl m6)), (s7, .inl (G.2 0, 6, .inl m7)), (s9, .inl (G.2 0, 9, .inl fcc_9)), (s8, .inl (G.2 4, 4, .inr (.inr (.inr (.inr (va_up (va_up (va_up (va_up (fun _ => none) 0 (some w0)) 1 (some w1)) 2 (some w2)) 3 (some w3))))))), (w0, .inr (2, [.ref x0, .ref x1, .ref x2, .int (nI n0), .int (nI u0)])), (x0, .inl (G.2 0, 400, .inl f0)), (x1, .inl (G.2 0, 14, .inl g0)), (x2, .inl (G.2 0, 32, .inl zz0_10)), (w1, .inr (2, [.ref x3, .ref x4, .ref x5, .int (nI n1), .int (nI u1)])), (x3, .inl (G.2 0, 400, .inl f1)), (x4, .inl (G.2 0, 14, .inl g1)), (x5, .inl (G.2 0, 32, .inl zz1_11)), (w2, .inr (2, [.ref x6, .ref x7, .ref x8, .int (nI n2), .int (nI u2)])), (x6, .inl (G.2 0, 400, .inl f2)), (x7, .inl (G.2 0, 14, .inl g2)), (x8, .inl (G.2 0, 32, .inl zz2_12)), (w3, .inr (2, [.ref x9, .ref x10, .ref x11, .int (nI n3), .int (nI u3)])), (x9, .inl (G.2 0, 400, .inl f3)), (x10, .inl (G.2 0, 14, .inl g3)), (x11, .inl (G.2 0, 32, .inl zz3_13)), (k0, .inr (6, [.ref b1, .ref b2, .ref b3, .ref b4, .int o1, .int o2, .int o3])), (b1, .inl (G.2 0, 7, .inl e1)), (b2, .inl (G.2 0, 6, .inl e2)), (b4, .inl (G.2 0, 42, .inl e4))] H _ := hw
          refine W.eq (g2 := F0 m 43 ls [.int rv_8]) rfl ?_
          refine lv_istore_n (lv' := [(3, .int rv_8), (0, .ref ob0), (1, .int ar1), (2, .int (nI vq7))]) hx hb dX9_ask_43 rfl hl (by decide) rfl (fun ls hl => ?_)
          refine lv_bipush (v := (-2)) hx hb dX9_ask_44 (by decide) ?_
          refine lv_istore (lv' := [(4, .int (-2)), (3, .int rv_8), (0, .ref ob0), (1, .int ar1), (2, .int (nI vq7))]) hx hb dX9_ask_46 hl (by decide) rfl (fun ls hl => ?_)
          refine lv_iconst (v := 0) hx hb dX9_ask_48 (by decide) ?_
          refine lv_istore (lv' := [(5, .int 0), (4, .int (-2)), (3, .int rv_8), (0, .ref ob0), (1, .int ar1), (2, .int (nI vq7))]) hx hb dX9_ask_49 hl (by decide) rfl (fun ls hl => ?_)
          refine lv_iconst (v := 0) hx hb dX9_ask_51 (by decide) ?_
          refine lv_istore (lv' := [(6, .int 0), (5, .int 0), (4, .int (-2)), (3, .int rv_8), (0, .ref ob0), (1, .int ar1), (2, .int (nI vq7))]) hx hb dX9_ask_52 hl (by decide) rfl (fun ls hl => ?_)
          have lp54_67 : ∀ (vn15 vi14 : Nat) (vy32 : Int32) (vy33 : Int32) (vF34 : Nat → Int32) (vF35 : Nat → Int32) (vF36 : Nat → Int32) (vF37 : Nat → Int32) (vF38 : Nat → Int32) (H : Heap) (locs : List Loc) (ls : Array Slot), vi14 ≤ pq → pq < vi14 + vn15 → zz_w G A s [(ob0, .inr (9, [.ref ut, .int uf1, .ref h1, .int uf3, .ref sc, .ref dr0, .ref k0, .ref my0, .ref c0, .ref ga, .ref pa0, .ref t0, .ref sl0, .ref hd0])), (s5, .inl (G.2 0, 6, .inl m5)), (b3, .inl (G.2 0, 7, .inl e3)), (t0, .inr (8, [.ref t1, .ref t2, .ref t3, .int (nI tm)])), (t1, .inl (G.2 0, 20, .inl tp)), (t2, .inl (G.2 0, 20, .inl tw)), (t3, .inl (G.2 2, 20, .inl ts)), (sc, .inr (5, [.ref s1, .ref s2, .ref s3, .ref s4, .ref s5, .ref s6, .ref s7, .ref s8, .ref s9, .int (nI pp), .int (nI pq), .int i3, .int i4])), (s3, .inl (G.2 0, 7, .inl m3)), (s4, .inl (G.2 0, 7, .inl m4)), (s6, .inl (G.2 0, 6, .inl m6)), (s7, .inl (G.2 0, 6, .inl m7)), (s9, .inl (G.2 0, 9, .inl vF34)), (s8, .inl (G.2 4, 4, .inr (.inr (.inr (.inr (va_up (va_up (va_up (va_up (fun _ => none) 0 (some w0)) 1 (some w1)) 2 (some w2)) 3 (some w3))))))), (w0, .inr (2, [.ref x0, .ref x1, .ref x2, .int (nI n0), .int (nI u0)])), (x0, .inl (G.2 0, 400, .inl f0)), (x1, .inl (G.2 0, 14, .inl g0)), (x2, .inl (G.2 0, 32, .inl vF35)), (w1, .inr (2, [.ref x3, .ref x4, .ref x5, .int (nI n1), .int (nI u1)])), (x3, .inl (G.2 0, 400, .inl f1)), (x4, .inl (G.2 0, 14, .inl g1)), (x5, .inl (G.2 0, 32, .inl vF36)), (w2, .inr (2, [.ref x6, .ref x7, .ref x8, .int (nI n2), .int (nI u2)])), (x6, .inl (G.2 0, 400, .inl f2)), (x7, .inl (G.2 0, 14, .inl g2)), (x8, .inl (G.2 0, 32, .inl vF37)), (w3, .inr (2, [.ref x9, .ref x10, .ref x11, .int (nI n3), .int (nI u3)])), (x9, .inl (G.2 0, 400, .inl f3)), (x10, .inl (G.2 0, 14, .inl g3)), (x11, .inl (G.2 0, 32, .inl vF38)), (k0, .inr (6, [.ref b1, .ref b2, .ref b3, .ref b4, .int o1, .int o2, .int o3])), (b1, .inl (G.2 0, 7, .inl e1)), (b2, .inl (G.2 0, 6, .inl e2)), (b4, .inl (G.2 0, 42, .inl e4))] H locs → lv_has ls 8 [(6, .int (nI vi14)), (5, .int vy32), (4, .int vy33), (3, .int rv_8), (0, .ref ob0), (1, .int ar1), (2, .int (nI vq7))] → W p l e (zz_rm 6 0 0) s m args below meth c H locs (0) (0) Q (F0 m 54 ls []) := by
            intro vn15
            induction vn15 with
            | zero => intro vi14 vy32 vy33 vF34 vF35 vF36 vF37 vF38 H locs ls hi1 hi2; exact absurd hi2 (by omega)
            | succ vn15 ih54 =>
              intro vi14 vy32 vy33 vF34 vF35 vF36 vF37 vF38 H locs ls hi54a hi54b  hw hl
              refine lv_iload hx hb dX9_ask_54 (lv_at hl 0 rfl) ?_
              refine lv_aload_n hx hb dX9_ask_56 rfl (lv_at hl 4 rfl) ?_
              refine W.eq (g2 := F0 m 57 ls [.ref ob0, .int (nI vi14)]) rfl ?_
              refine zz_get (v := .ref sc) S hw fgX9_30 0 rfl rfl dX9_ask_57 ?_
              refine zz_get (v := .int (nI pq)) S hw fgX9_108 7 rfl rfl dX9_ask_60 ?_
              have jn108_82 : ∀ (H : Heap) (locs : List Loc) (ls : Array Slot), zz_w G A s [(ob0, .inr (9, [.ref ut, .int uf1, .ref h1, .int uf3, .ref sc, .ref dr0, .ref k0, .ref my0, .ref c0, .ref ga, .ref pa0, .ref t0, .ref sl0, .ref hd0])), (s5, .inl (G.2 0, 6, .inl m5)), (b3, .inl (G.2 0, 7, .inl e3)), (t0, .inr (8, [.ref t1, .ref t2, .ref t3, .int (nI tm)])), (t1, .inl (G.2 0, 20, .inl tp)), (t2, .inl (G.2 0, 20, .inl tw)), (t3, .inl (G.2 2, 20, .inl ts)), (sc, .inr (5, [.ref s1, .ref s2, .ref s3, .ref s4, .ref s5, .ref s6, .ref s7, .ref s8, .ref s9, .int (nI pp), .int (nI pq), .int i3, .int i4])), (s3, .inl (G.2 0, 7, .inl m3)), (s4, .inl (G.2 0, 7, .inl m4)), (s6, .inl (G.2 0, 6, .inl m6)), (s7, .inl (G.2 0, 6, .inl m7)), (s9, .inl (G.2 0, 9, .inl vF34)), (s8, .inl (G.2 4, 4, .inr (.inr (.inr (.inr (va_up (va_up (va_up (va_up (fun _ => none) 0 (some w0)) 1 (some w1)) 2 (some w2)) 3 (some w3))))))), (w0, .inr (2, [.ref x0, .ref x1, .ref x2, .int (nI n0), .int (nI u0)])), (x0, .inl (G.2 0, 400, .inl f0)), (x1, .inl (G.2 0, 14, .inl g0)), (x2, .inl (G.2 0, 32, .inl vF35)), (w1, .inr (2, [.ref x3, .ref x4, .ref x5, .int (nI n1), .int (nI u1)])), (x3, .inl (G.2 0, 400, .inl f1)), (x4, .inl (G.2 0, 14, .inl g1)), (x5, .inl (G.2 0, 32, .inl vF36)), (w2, .inr (2, [.ref x6, .ref x7, .ref x8, .int (nI n2), .int (nI u2)])), (x6, .inl (G.2 0, 400, .inl f2)), (x7, .inl (G.2 0, 14, .inl g2)), (x8, .inl (G.2 0, 32, .inl vF37)), (w3, .inr (2, [.ref x9, .ref x10, .ref x11, .int (nI n3), .int (nI u3)])), (x9, .inl (G.2 0, 400, .inl f3)), (x10, .inl (G.2 0, 14, .inl g3)), (x11, .inl (G.2 0, 32, .inl vF38)), (k0, .inr (6, [.ref b1, .ref b2, .ref b3, .ref b4, .int o1, .int o2, .int o3])), (b1, .inl (G.2 0, 7, .inl e1)), (b2, .inl (G.2 0, 6, .inl e2)), (b4, .inl (G.2 0, 42, .inl e4))] H locs → lv_has ls 8 [(6, .int (nI vi14)), (5, .int vy32), (4, .int vy33), (3, .int rv_8), (0, .ref ob0), (1, .int ar1), (2, .int (nI vq7))] → W p l e (zz_rm 6 0 0) s m args below meth c H locs (0) (0) Q (F0 m 108 ls []) := by
                intro  H locs ls  hw hl
                refine lv_iload hx hb dX9_ask_108 (lv_at hl 2 rfl) ?_
                exact hret _ _ _ _ _ _ ⟨vy33, vF34, vF35, vF36, vF37, vF38, rfl, rfl⟩ (hw.sub [0, 7, 8, 9, 10, 11, 12, 13, 14, 15, 16, 17, 18, 19, 20, 21, 22, 23, 24, 25, 26, 27, 28, 29, 1, 30, 31, 32, 2, 33, 3, 4, 5, 6] (by decide +kernel) rfl) rfl dX9_ask_110
              refine lv_icmp_ge (tgt := 108) hx hb dX9_ask_63 (by decide) (fun c63_68 => ?_) (fun c63_68 => ?_)
              · skip
                have c63_68n : pq ≤ vi14 := (zz_le (a := pq) (b := vi14) rfl rfl (by omega) (by omega)).mp c63_68
                exact jn108_82 _ _ _ hw (lv_sub hl [0, 1, 2, 3, 4, 5, 6] rfl)
              · skip
                have c63_68n : ¬ (pq ≤ vi14) := fun z => c63_68 ((zz_le (a := pq) (b := vi14) rfl rfl (by omega) (by omega)).mpr z)
                refine lv_iload_n hx hb dX9_ask_66 rfl (lv_at hl 3 rfl) ?_
                refine lv_if_eq (tgt := 108) hx hb dX9_ask_67 (by decide) (fun c67_83 => ?_) (fun c67_83 => ?_)
                · skip
                  exact jn108_82 _ _ _ hw (lv_sub hl [0, 1, 2, 3, 4, 5, 6] rfl)
                · skip
                  refine lv_aload_n hx hb dX9_ask_70 rfl (lv_at hl 4 rfl) ?_
                  refine lv_iload_n hx hb dX9_ask_71 rfl (lv_at hl 3 rfl) ?_
                  refine lv_iload hx hb dX9_ask_72 (lv_at hl 0 rfl) ?_
                  refine lv_iload_n hx hb dX9_ask_74 rfl (lv_at hl 6 rfl) ?_
                  refine zz_callV (qb := 0) (As := [.int rv_8, .int (nI vi14), .int (nI vq7)]) (rest := []) (wr := [(t0, .inr (8, [.ref t1, .ref t2, .ref t3, .int (nI tm)])), (t1, .inl (G.2 0, 20, .inl tp)), (t2, .inl (G.2 0, 20, .inl tw)), (t3, .inl (G.2 2, 20, .inl ts))]) S hw hl.1 lX9_290 (c_g_leftAtWorst l G ob0 ut uf1 h1 uf3 sc dr0 k0 my0 c0 ga pa0 t0 sl0 hd0 s1 s2 s3 s4 s5 s6 s7 s8 s9 w0 w1 w2 w3 x0 x1 x2 x3 x4 x5 x6 x7 x8 x9 x10 x11 pp pq i3 i4 m3 m4 m6 m7 vF34 f0 g0 n0 u0 vF35 f1 g1 n1 u1 vF36 f2 g2 n2 u2 vF37 f3 g3 n3 u3 vF38 m5 b1 b2 b3 b4 e1 e2 e3 e4 o1 o2 o3 rv_8 (nI vq7) vi14 (by first | assumption | omega | exact Or.inr ⟨_, by omega, rfl⟩ | (unfold zz_sok; decide) | decide | exact (fun j hj => (hv7 j hj).1)) (by first | assumption | omega | exact Or.inr ⟨_, by omega, rfl⟩ | (unfold zz_sok; decide) | decide | exact (fun j hj => (hv7 j hj).1)) (by first | assumption | omega | exact Or.inr ⟨_, by omega, rfl⟩ | (unfold zz_sok; decide) | decide | exact (fun j hj => (hv7 j hj).1)) (by first | assumption | omega | exact Or.inr ⟨_, by omega, rfl⟩ | (unfold zz_sok; decide) | decide | exact (fun j hj => (hv7 j hj).1)) (by first | assumption | omega | exact Or.inr ⟨_, by omega, rfl⟩ | (unfold zz_sok; decide) | decide | exact (fun j hj => (hv7 j hj).1)) (by first | assumption | omega | exact Or.inr ⟨_, by omega, rfl⟩ | (unfold zz_sok; decide) | decide | exact (fun j hj => (hv7 j hj).1)) (by first | assumption | omega | exact Or.inr ⟨_, by omega, rfl⟩ | (unfold zz_sok; decide) | decide | exact (fun j hj => (hv7 j hj).1))) ⟨Nat.le_of_ble_eq_true rfl, Nat.le_of_ble_eq_true rfl⟩ ⟨Nat.le_of_ble_eq_true rfl, Nat.le_of_ble_eq_true rfl⟩ [0, 7, 8, 9, 10, 11, 12, 13, 14, 15, 16, 17, 18, 19, 20, 21, 22, 23, 24, 25, 26, 27, 28, 29, 1, 30, 31, 32, 2, 33] [3, 4, 5, 6] (by decide +kernel) rfl rfl (by decide +kernel) (by decide +kernel) rfl rfl rfl rfl (Nat.le_of_ble_eq_true rfl) dX9_ask_75 ?_
                  clear hw
                  intro rr u H locs hp hw
                  refine hp.elim fun rv_84 zg0 => zg0.elim fun fcc_85 zg1 => zg1.elim fun zz0_86 zg2 => zg2.elim fun zz1_87 zg3 => zg3.elim fun zz2_88 zg4 => zg4.elim fun zz3_89 zg5 => zg5.elim fun zee1 zee2 => ?_
                  clear hp zg0 zg1 zg2 zg3 zg4 zg5
                  subst zee1
                  subst zee2
                  replace hw : zz_w G A s [(t0, .inr (8, [.ref t1, .ref t2, .ref t3, .int (nI tm)])), (t1, .inl (G.2 0, 20, .inl tp)), (t2, .inl (G.2 0, 20, .inl tw)), (t3, .inl (G.2 2, 20, .inl ts)), (ob0, .inr (9, [.ref ut, .int uf1, .ref h1, .int uf3, .ref sc, .ref dr0, .ref k0, .ref my0, .ref c0, .ref ga, .ref pa0, .ref t0, .ref sl0, .ref hd0])), (sc, .inr (5, [.ref s1, .ref s2, .ref s3, .ref s4, .ref s5, .ref s6, .ref s7, .ref s8, .ref s9, .int (nI pp), .int (nI pq), .int i3, .int i4])), (s3, .inl (G.2 0, 7, .inl m3)), (s4, .inl (G.2 0, 7, .inl m4)), (s6, .inl (G.2 0, 6, .inl m6)), (s7, .inl (G.2 0, 6, .inl m7)), (s9, .inl (G.2 0, 9, .inl fcc_85)), (s8, .inl (G.2 4, 4, .inr (.inr (.inr (.inr (va_up (va_up (va_up (va_up (fun _ => none) 0 (some w0)) 1 (some w1)) 2 (some w2)) 3 (some w3))))))), (w0, .inr (2, [.ref x0, .ref x1, .ref x2, .int (nI n0), .int (nI u0)])), (x0, .inl (G.2 0, 400, .inl f0)), (x1, .inl (G.2 0, 14, .inl g0)), (x2, .inl (G.2 0, 32, .inl zz0_86)), (w1, .inr (2, [.ref x3, .ref x4, .ref x5, .int (nI n1), .int (nI u1)])), (x3, .inl (G.2 0, 400, .inl f1)), (x4, .inl (G.2 0, 14, .inl g1)), (x5, .inl (G.2 0, 32, .inl zz1_87)), (w2, .inr (2, [.ref x6, .ref x7, .ref x8, .int (nI n2), .int (nI u2)])), (x6, .inl (G.2 0, 400, .inl f2)), (x7, .inl (G.2 0, 14, .inl g2)), (x8, .inl (G.2 0, 32, .inl zz2_88)), (w3, .inr (2, [.ref x9, .ref x10, .ref x11, .int (nI n3), .int (nI u3)])), (x9, .inl (G.2 0, 400, .inl f3)), (x10, .inl (G.2 0, 14, .inl g3)), (x11, .inl (G.2 0, 32, .inl zz3_89)), (s5, .inl (G.2 0, 6, .inl m5)), (k0, .inr (6, [.ref b1, .ref b2, .ref b3, .ref b4, .int o1, .int o2, .int o3])), (b1, .inl (G.2 0, 7, .inl e1)), (b2, .inl (G.2 0, 6, .inl e2)), (b3, .inl (G.2 0, 7, .inl e3)), (b4, .inl (G.2 0, 42, .inl e4))] H _ := hw
                  refine W.eq (g2 := F0 m 78 ls [.int rv_84]) rfl ?_
                  refine lv_istore (lv' := [(7, .int rv_84), (6, .int (nI vi14)), (5, .int vy32), (4, .int vy33), (3, .int rv_8), (0, .ref ob0), (1, .int ar1), (2, .int (nI vq7))]) hx hb dX9_ask_78 hl (by decide) rfl (fun ls hl => ?_)
                  refine lv_iload hx hb dX9_ask_80 (lv_at hl 3 rfl) ?_
                  refine lv_bipush (v := (-2)) hx hb dX9_ask_82 (by decide) ?_
                  have jn102_94 : ∀ (vy92 : Int32) (vy93 : Int32) (H : Heap) (locs : List Loc) (ls : Array Slot), zz_w G A s [(t0, .inr (8, [.ref t1, .ref t2, .ref t3, .int (nI tm)])), (t1, .inl (G.2 0, 20, .inl tp)), (t2, .inl (G.2 0, 20, .inl tw)), (t3, .inl (G.2 2, 20, .inl ts)), (ob0, .inr (9, [.ref ut, .int uf1, .ref h1, .int uf3, .ref sc, .ref dr0, .ref k0, .ref my0, .ref c0, .ref ga, .ref pa0, .ref t0, .ref sl0, .ref hd0])), (sc, .inr (5, [.ref s1, .ref s2, .ref s3, .ref s4, .ref s5, .ref s6, .ref s7, .ref s8, .ref s9, .int (nI pp), .int (nI pq), .int i3, .int i4])), (s3, .inl (G.2 0, 7, .inl m3)), (s4, .inl (G.2 0, 7, .inl m4)), (s6, .inl (G.2 0, 6, .inl m6)), (s7, .inl (G.2 0, 6, .inl m7)), (s9, .inl (G.2 0, 9, .inl fcc_85)), (s8, .inl (G.2 4, 4, .inr (.inr (.inr (.inr (va_up (va_up (va_up (va_up (fun _ => none) 0 (some w0)) 1 (some w1)) 2 (some w2)) 3 (some w3))))))), (w0, .inr (2, [.ref x0, .ref x1, .ref x2, .int (nI n0), .int (nI u0)])), (x0, .inl (G.2 0, 400, .inl f0)), (x1, .inl (G.2 0, 14, .inl g0)), (x2, .inl (G.2 0, 32, .inl zz0_86)), (w1, .inr (2, [.ref x3, .ref x4, .ref x5, .int (nI n1), .int (nI u1)])), (x3, .inl (G.2 0, 400, .inl f1)), (x4, .inl (G.2 0, 14, .inl g1)), (x5, .inl (G.2 0, 32, .inl zz1_87)), (w2, .inr (2, [.ref x6, .ref x7, .ref x8, .int (nI n2), .int (nI u2)])), (x6, .inl (G.2 0, 400, .inl f2)), (x7, .inl (G.2 0, 14, .inl g2)), (x8, .inl (G.2 0, 32, .inl zz2_88)), (w3, .inr (2, [.ref x9, .ref x10, .ref x11, .int (nI n3), .int (nI u3)])), (x9, .inl (G.2 0, 400, .inl f3)), (x10, .inl (G.2 0, 14, .inl g3)), (x11, .inl (G.2 0, 32, .inl zz3_89)), (s5, .inl (G.2 0, 6, .inl m5)), (k0, .inr (6, [.ref b1, .ref b2, .ref b3, .ref b4, .int o1, .int o2, .int o3])), (b1, .inl (G.2 0, 7, .inl e1)), (b2, .inl (G.2 0, 6, .inl e2)), (b3, .inl (G.2 0, 7, .inl e3)), (b4, .inl (G.2 0, 42, .inl e4))] H locs → lv_has ls 8 [(5, .int vy92), (4, .int vy93), (7, .int rv_84), (6, .int (nI vi14)), (3, .int rv_8), (0, .ref ob0), (1, .int ar1), (2, .int (nI vq7))] → W p l e (zz_rm 6 0 0) s m args below meth c H locs (0) (0) Q (F0 m 102 ls []) := by
                    intro vy92 vy93 H locs ls  hw hl
                    refine lv_iinc (v := (nI (vi14 + 1))) (lv' := [(6, .int (nI (vi14 + 1))), (5, .int vy92), (4, .int vy93), (7, .int rv_84), (3, .int rv_8), (0, .ref ob0), (1, .int ar1), (2, .int (nI vq7))]) hx hb dX9_ask_102 hl (k := 3) rfl (nI_add _ 1) (by decide) rfl (fun ls hl => ?_)
                    refine lv_goto (tgt := 54) hx hb dX9_ask_105 (by decide) ?_
                    refine W.eq (g2 := F0 m 54 ls []) rfl ?_
                    exact ih54 (vi14 + 1) vy92 vy93 fcc_85 zz0_86 zz1_87 zz2_88 zz3_89 _ _ _ (by omega) (by omega) (hw.sub [4, 28, 32, 0, 1, 2, 3, 5, 6, 7, 8, 9, 10, 11, 12, 13, 14, 15, 16, 17, 18, 19, 20, 21, 22, 23, 24, 25, 26, 27, 29, 30, 31, 33] (by decide +kernel) rfl) (lv_sub hl [0, 1, 2, 4, 5, 6, 7] rfl)
                  refine lv_icmp_eq (tgt := 94) hx hb dX9_ask_84 (by decide) (fun c84_90 => ?_) (fun c84_90 => ?_)
                  · skip
                    refine lv_iload hx hb dX9_ask_94 (lv_at hl 1 rfl) ?_
                    refine lv_istore (lv' := [(4, .int (nI vi14)), (7, .int rv_84), (6, .int (nI vi14)), (5, .int vy32), (3, .int rv_8), (0, .ref ob0), (1, .int ar1), (2, .int (nI vq7))]) hx hb dX9_ask_96 hl (by decide) rfl (fun ls hl => ?_)
                    refine lv_iload hx hb dX9_ask_98 (lv_at hl 1 rfl) ?_
                    refine lv_istore (lv' := [(5, .int rv_84), (4, .int (nI vi14)), (7, .int rv_84), (6, .int (nI vi14)), (3, .int rv_8), (0, .ref ob0), (1, .int ar1), (2, .int (nI vq7))]) hx hb dX9_ask_100 hl (by decide) rfl (fun ls hl => ?_)
                    exact jn102_94 rv_84 (nI vi14) _ _ _ hw (lv_sub hl [0, 1, 2, 3, 4, 5, 6, 7] rfl)
                  · skip
                    refine lv_iload hx hb dX9_ask_87 (lv_at hl 0 rfl) ?_
                    refine lv_iload hx hb dX9_ask_89 (lv_at hl 2 rfl) ?_
                    refine lv_icmp_ge (tgt := 102) hx hb dX9_ask_91 (by decide) (fun c91_95 => ?_) (fun c91_95 => ?_)
                    · skip
                      exact jn102_94 vy32 vy33 _ _ _ hw (lv_sub hl [2, 3, 0, 1, 4, 5, 6, 7] rfl)
                    · skip
                      refine lv_iload hx hb dX9_ask_94 (lv_at hl 1 rfl) ?_
                      refine lv_istore (lv' := [(4, .int (nI vi14)), (7, .int rv_84), (6, .int (nI vi14)), (5, .int vy32), (3, .int rv_8), (0, .ref ob0), (1, .int ar1), (2, .int (nI vq7))]) hx hb dX9_ask_96 hl (by decide) rfl (fun ls hl => ?_)
                      refine lv_iload hx hb dX9_ask_98 (lv_at hl 1 rfl) ?_
                      refine lv_istore (lv' := [(5, .int rv_84), (4, .int (nI vi14)), (7, .int rv_84), (6, .int (nI vi14)), (3, .int rv_8), (0, .ref ob0), (1, .int ar1), (2, .int (nI vq7))]) hx hb dX9_ask_100 hl (by decide) rfl (fun ls hl => ?_)
                      exact jn102_94 rv_84 (nI vi14) _ _ _ hw (lv_sub hl [0, 1, 2, 3, 4, 5, 6, 7] rfl)
          exact lp54_67 (pq + 1 - 0) 0 0 (-2) fcc_9 zz0_10 zz1_11 zz2_12 zz3_13 _ _ _ (by omega) (by omega) hw (lv_sub hl [0, 1, 2, 3, 4, 5, 6] rfl)
        · skip
          refine lv_iconst (v := (-1)) hx hb dX9_ask_25 (by decide) ?_
          exact hret _ _ _ _ _ _ ⟨(-1), fc, z0_, z1_, z2_, z3_, rfl, rfl⟩ hw rfl dX9_ask_26
theorem kd_ncX9_marksOfAll : kd_ck 1306057764700341449934947579832906491993851253156468399131724953238082759849656138755 35 cX9_marksOfAll.data.toList 0 = true := by decide +kernel
theorem dX9_marksOfAll_0 : decode cX9_marksOfAll 0 = .ok (.iconst 0, 1) := kd_dk0 kd_o3 kd_ncX9_marksOfAll rfl
theorem dX9_marksOfAll_1 : decode cX9_marksOfAll 1 = .ok (.istore_n 1, 1) := kd_dk0 kd_o60 kd_ncX9_marksOfAll rfl
theorem dX9_marksOfAll_2 : decode cX9_marksOfAll 2 = .ok (.iconst 0, 1) := kd_dk0 kd_o3 kd_ncX9_marksOfAll rfl
theorem dX9_marksOfAll_3 : decode cX9_marksOfAll 3 = .ok (.istore_n 2, 1) := kd_dk0 kd_o61 kd_ncX9_marksOfAll rfl
theorem dX9_marksOfAll_4 : decode cX9_marksOfAll 4 = .ok (.iload_n 2, 1) := kd_dk0 kd_o28 kd_ncX9_marksOfAll rfl
theorem dX9_marksOfAll_5 : decode cX9_marksOfAll 5 = .ok (.aload_n 0, 1) := kd_dk0 kd_o42 kd_ncX9_marksOfAll rfl
theorem dX9_marksOfAll_6 : decode cX9_marksOfAll 6 = .ok (.getfield 30, 3) := kd_dk2 kd_o180 kd_ncX9_marksOfAll rfl
theorem dX9_marksOfAll_9 : decode cX9_marksOfAll 9 = .ok (.getfield 105, 3) := kd_dk2 kd_o180 kd_ncX9_marksOfAll rfl
theorem dX9_marksOfAll_12 : decode cX9_marksOfAll 12 = .ok (.if_icmp .ge 21, 3) := kd_dj2 kd_o162 (w := 21) kd_ncX9_marksOfAll rfl rfl
theorem dX9_marksOfAll_15 : decode cX9_marksOfAll 15 = .ok (.iload_n 1, 1) := kd_dk0 kd_o27 kd_ncX9_marksOfAll rfl
theorem dX9_marksOfAll_16 : decode cX9_marksOfAll 16 = .ok (.aload_n 0, 1) := kd_dk0 kd_o42 kd_ncX9_marksOfAll rfl
theorem dX9_marksOfAll_17 : decode cX9_marksOfAll 17 = .ok (.getfield 40, 3) := kd_dk2 kd_o180 kd_ncX9_marksOfAll rfl
theorem dX9_marksOfAll_20 : decode cX9_marksOfAll 20 = .ok (.getfield 135, 3) := kd_dk2 kd_o180 kd_ncX9_marksOfAll rfl
theorem dX9_marksOfAll_23 : decode cX9_marksOfAll 23 = .ok (.iload_n 2, 1) := kd_dk0 kd_o28 kd_ncX9_marksOfAll rfl
theorem dX9_marksOfAll_24 : decode cX9_marksOfAll 24 = .ok (.iaload, 1) := kd_dk0 kd_o46 kd_ncX9_marksOfAll rfl
theorem dX9_marksOfAll_25 : decode cX9_marksOfAll 25 = .ok (.iadd, 1) := kd_dk0 kd_o96 kd_ncX9_marksOfAll rfl
theorem dX9_marksOfAll_26 : decode cX9_marksOfAll 26 = .ok (.istore_n 1, 1) := kd_dk0 kd_o60 kd_ncX9_marksOfAll rfl
theorem dX9_marksOfAll_27 : decode cX9_marksOfAll 27 = .ok (.iinc 2 1, 3) := kd_dji kd_o132 (w := 1) kd_ncX9_marksOfAll rfl rfl
theorem dX9_marksOfAll_30 : decode cX9_marksOfAll 30 = .ok (.goto (-26), 3) := kd_dj2 kd_o167 (w := 65510) kd_ncX9_marksOfAll rfl rfl
theorem dX9_marksOfAll_33 : decode cX9_marksOfAll 33 = .ok (.iload_n 1, 1) := kd_dk0 kd_o27 kd_ncX9_marksOfAll rfl
theorem dX9_marksOfAll_34 : decode cX9_marksOfAll 34 = .ok (.ireturn, 1) := kd_dk0 kd_o172 kd_ncX9_marksOfAll rfl
set_option maxHeartbeats 8000000 in
set_option maxRecDepth 100000 in
theorem c_g_marksOfAll (l : Launch) (G : zz_G) (ob0 : Nat) (ut : Nat) (uf1 : Int32) (h1 : Nat) (uf3 : Int32) (sc : Nat) (dr0 : Nat) (k0 : Nat) (my0 : Nat) (c0 : Nat) (ga : Nat) (pa0 : Nat) (t0 : Nat) (sl0 : Nat) (hd0 : Nat) (s1 : Nat) (s2 : Nat) (s3 : Nat) (s4 : Nat) (s5 : Nat) (s6 : Nat) (s7 : Nat) (s8 : Nat) (s9 : Nat) (pp : Nat) (pq : Nat) (i3 : Int32) (i4 : Int32) (b1 : Nat) (b2 : Nat) (b3 : Nat) (b4 : Nat) (e1 : Nat → Int32) (e2 : Nat → Int32) (e3 : Nat → Int32) (e4 : Nat → Int32) (o1 : Int32) (o2 : Int32) (o3 : Int32) (hpp : pp ≤ 7) (hpq : pq ≤ 6) : zz_M l G mX9_marksOfAll 0 0 0 [.ref ob0] [(ob0, .inr (9, [.ref ut, .int uf1, .ref h1, .int uf3, .ref sc, .ref dr0, .ref k0, .ref my0, .ref c0, .ref ga, .ref pa0, .ref t0, .ref sl0, .ref hd0])), (sc, .inr (5, [.ref s1, .ref s2, .ref s3, .ref s4, .ref s5, .ref s6, .ref s7, .ref s8, .ref s9, .int (nI pp), .int (nI pq), .int i3, .int i4])), (k0, .inr (6, [.ref b1, .ref b2, .ref b3, .ref b4, .int o1, .int o2, .int o3])), (b1, .inl (G.2 0, 7, .inl e1)), (b2, .inl (G.2 0, 6, .inl e2)), (b3, .inl (G.2 0, 7, .inl e3)), (b4, .inl (G.2 0, 42, .inl e4))] (fun rr u => ∃ (rv : Int32), rr = some (.int rv) ∧ u = [(ob0, .inr (9, [.ref ut, .int uf1, .ref h1, .int uf3, .ref sc, .ref dr0, .ref k0, .ref my0, .ref c0, .ref ga, .ref pa0, .ref t0, .ref sl0, .ref hd0])), (sc, .inr (5, [.ref s1, .ref s2, .ref s3, .ref s4, .ref s5, .ref s6, .ref s7, .ref s8, .ref s9, .int (nI pp), .int (nI pq), .int i3, .int i4])), (k0, .inr (6, [.ref b1, .ref b2, .ref b3, .ref b4, .int o1, .int o2, .int o3])), (b1, .inl (G.2 0, 7, .inl e1)), (b2, .inl (G.2 0, 6, .inl e2)), (b3, .inl (G.2 0, 7, .inl e3)), (b4, .inl (G.2 0, 42, .inl e4))]) := by
  refine zz_enteri (by decide +kernel) (Nat.le_of_ble_eq_true rfl) ?_
  intro p e s m args below meth c A Q ls S hnm hret hw hl
  have hl : lv_has ls 3 [(0, .ref ob0)] := hl
  have hx := S.1
  have hb := S.2.1
  refine lv_iconst (v := 0) hx hb dX9_marksOfAll_0 (by decide) ?_
  refine lv_istore_n (lv' := [(1, .int 0), (0, .ref ob0)]) hx hb dX9_marksOfAll_1 rfl hl (by decide) rfl (fun ls hl => ?_)
  refine lv_iconst (v := 0) hx hb dX9_marksOfAll_2 (by decide) ?_
  refine lv_istore_n (lv' := [(2, .int 0), (1, .int 0), (0, .ref ob0)]) hx hb dX9_marksOfAll_3 rfl hl (by decide) rfl (fun ls hl => ?_)
  have lp4_9 : ∀ (vn2 vi1 : Nat) (vy6 : Int32) (H : Heap) (locs : List Loc) (ls : Array Slot), vi1 ≤ pp → pp < vi1 + vn2 → zz_w G A s [(ob0, .inr (9, [.ref ut, .int uf1, .ref h1, .int uf3, .ref sc, .ref dr0, .ref k0, .ref my0, .ref c0, .ref ga, .ref pa0, .ref t0, .ref sl0, .ref hd0])), (sc, .inr (5, [.ref s1, .ref s2, .ref s3, .ref s4, .ref s5, .ref s6, .ref s7, .ref s8, .ref s9, .int (nI pp), .int (nI pq), .int i3, .int i4])), (k0, .inr (6, [.ref b1, .ref b2, .ref b3, .ref b4, .int o1, .int o2, .int o3])), (b1, .inl (G.2 0, 7, .inl e1)), (b2, .inl (G.2 0, 6, .inl e2)), (b3, .inl (G.2 0, 7, .inl e3)), (b4, .inl (G.2 0, 42, .inl e4))] H locs → lv_has ls 3 [(2, .int (nI vi1)), (1, .int vy6), (0, .ref ob0)] → W p l e (zz_rm 0 0 0) s m args below meth c H locs (0) (0) Q (F0 m 4 ls []) := by
    intro vn2
    induction vn2 with
    | zero => intro vi1 vy6 H locs ls hi1 hi2; exact absurd hi2 (by omega)
    | succ vn2 ih4 =>
      intro vi1 vy6 H locs ls hi4a hi4b  hw hl
      refine lv_iload_n hx hb dX9_marksOfAll_4 rfl (lv_at hl 0 rfl) ?_
      refine lv_aload_n hx hb dX9_marksOfAll_5 rfl (lv_at hl 2 rfl) ?_
      refine zz_get (v := .ref sc) S hw fgX9_30 0 rfl rfl dX9_marksOfAll_6 ?_
      refine zz_get (v := .int (nI pp)) S hw fgX9_105 1 rfl rfl dX9_marksOfAll_9 ?_
      refine lv_icmp_ge (tgt := 33) hx hb dX9_marksOfAll_12 (by decide) (fun c12_10 => ?_) (fun c12_10 => ?_)
      · skip
        have c12_10n : pp ≤ vi1 := (zz_le (a := pp) (b := vi1) rfl rfl (by omega) (by omega)).mp c12_10
        refine lv_iload_n hx hb dX9_marksOfAll_33 rfl (lv_at hl 1 rfl) ?_
        exact hret _ _ _ _ _ _ ⟨vy6, rfl, rfl⟩ hw rfl dX9_marksOfAll_34
      · skip
        have c12_10n : ¬ (pp ≤ vi1) := fun z => c12_10 ((zz_le (a := pp) (b := vi1) rfl rfl (by omega) (by omega)).mpr z)
        refine lv_iload_n hx hb dX9_marksOfAll_15 rfl (lv_at hl 1 rfl) ?_
        refine lv_aload_n hx hb dX9_marksOfAll_16 rfl (lv_at hl 2 rfl) ?_
        refine zz_get (v := .ref k0) S hw fgX9_40 0 rfl rfl dX9_marksOfAll_17 ?_
        refine zz_get (v := .ref b3) S hw fgX9_135 2 rfl rfl dX9_marksOfAll_20 ?_
        refine lv_iload_n hx hb dX9_marksOfAll_23 rfl (lv_at hl 0 rfl) ?_
        refine W.eq (g2 := F0 m 24 ls [.int (nI vi1), .ref b3, .int vy6]) rfl ?_
        refine zz_iald (v := (e3 vi1)) S hw 5 rfl (vp_in_nI (n := vi1) (by omega) (by decide)) (congrArg e3 (nI_clamp (n := vi1) (by omega))) dX9_marksOfAll_24 ?_
        refine lv_iadd hx hb dX9_marksOfAll_25 ?_
        refine lv_topi (fun z11 ez11 => ?_)
        refine lv_istore_n (lv' := [(1, .int z11), (2, .int (nI vi1)), (0, .ref ob0)]) hx hb dX9_marksOfAll_26 rfl hl (by decide) rfl (fun ls hl => ?_)
        refine lv_iinc (v := (nI (vi1 + 1))) (lv' := [(2, .int (nI (vi1 + 1))), (1, .int z11), (0, .ref ob0)]) hx hb dX9_marksOfAll_27 hl (k := 1) rfl (nI_add _ 1) (by decide) rfl (fun ls hl => ?_)
        refine lv_goto (tgt := 4) hx hb dX9_marksOfAll_30 (by decide) ?_
        exact ih4 (vi1 + 1) z11 _ _ _ (by omega) (by omega) hw (lv_sub hl [0, 1, 2] rfl)
  exact lp4_9 (pp + 1 - 0) 0 0 _ _ _ (by omega) (by omega) hw (lv_sub hl [0, 1, 2] rfl)
theorem kd_ncX9_slotsHeld : kd_ck 5101788595673557372074776300340509316176722495130524681808927935921426935239097347 34 cX9_slotsHeld.data.toList 0 = true := by decide +kernel
theorem dX9_slotsHeld_0 : decode cX9_slotsHeld 0 = .ok (.iconst 0, 1) := kd_dk0 kd_o3 kd_ncX9_slotsHeld rfl
theorem dX9_slotsHeld_1 : decode cX9_slotsHeld 1 = .ok (.istore_n 1, 1) := kd_dk0 kd_o60 kd_ncX9_slotsHeld rfl
theorem dX9_slotsHeld_2 : decode cX9_slotsHeld 2 = .ok (.iconst 0, 1) := kd_dk0 kd_o3 kd_ncX9_slotsHeld rfl
theorem dX9_slotsHeld_3 : decode cX9_slotsHeld 3 = .ok (.istore_n 2, 1) := kd_dk0 kd_o61 kd_ncX9_slotsHeld rfl
theorem dX9_slotsHeld_4 : decode cX9_slotsHeld 4 = .ok (.iload_n 2, 1) := kd_dk0 kd_o28 kd_ncX9_slotsHeld rfl
theorem dX9_slotsHeld_5 : decode cX9_slotsHeld 5 = .ok (.iconst 3, 1) := kd_dk0 kd_o6 kd_ncX9_slotsHeld rfl
theorem dX9_slotsHeld_6 : decode cX9_slotsHeld 6 = .ok (.if_icmp .ge 26, 3) := kd_dj2 kd_o162 (w := 26) kd_ncX9_slotsHeld rfl rfl
theorem dX9_slotsHeld_9 : decode cX9_slotsHeld 9 = .ok (.iload_n 1, 1) := kd_dk0 kd_o27 kd_ncX9_slotsHeld rfl
theorem dX9_slotsHeld_10 : decode cX9_slotsHeld 10 = .ok (.aload_n 0, 1) := kd_dk0 kd_o42 kd_ncX9_slotsHeld rfl
theorem dX9_slotsHeld_11 : decode cX9_slotsHeld 11 = .ok (.getfield 79, 3) := kd_dk2 kd_o180 kd_ncX9_slotsHeld rfl
theorem dX9_slotsHeld_14 : decode cX9_slotsHeld 14 = .ok (.iload_n 2, 1) := kd_dk0 kd_o28 kd_ncX9_slotsHeld rfl
theorem dX9_slotsHeld_15 : decode cX9_slotsHeld 15 = .ok (.baload, 1) := kd_dk0 kd_o51 kd_ncX9_slotsHeld rfl
theorem dX9_slotsHeld_16 : decode cX9_slotsHeld 16 = .ok (.ifCond .eq 7, 3) := kd_dj2 kd_o153 (w := 7) kd_ncX9_slotsHeld rfl rfl
theorem dX9_slotsHeld_19 : decode cX9_slotsHeld 19 = .ok (.iconst 1, 1) := kd_dk0 kd_o4 kd_ncX9_slotsHeld rfl
theorem dX9_slotsHeld_20 : decode cX9_slotsHeld 20 = .ok (.goto 4, 3) := kd_dj2 kd_o167 (w := 4) kd_ncX9_slotsHeld rfl rfl
theorem dX9_slotsHeld_23 : decode cX9_slotsHeld 23 = .ok (.iconst 0, 1) := kd_dk0 kd_o3 kd_ncX9_slotsHeld rfl
theorem dX9_slotsHeld_24 : decode cX9_slotsHeld 24 = .ok (.iadd, 1) := kd_dk0 kd_o96 kd_ncX9_slotsHeld rfl
theorem dX9_slotsHeld_25 : decode cX9_slotsHeld 25 = .ok (.istore_n 1, 1) := kd_dk0 kd_o60 kd_ncX9_slotsHeld rfl
theorem dX9_slotsHeld_26 : decode cX9_slotsHeld 26 = .ok (.iinc 2 1, 3) := kd_dji kd_o132 (w := 1) kd_ncX9_slotsHeld rfl rfl
theorem dX9_slotsHeld_29 : decode cX9_slotsHeld 29 = .ok (.goto (-25), 3) := kd_dj2 kd_o167 (w := 65511) kd_ncX9_slotsHeld rfl rfl
theorem dX9_slotsHeld_32 : decode cX9_slotsHeld 32 = .ok (.iload_n 1, 1) := kd_dk0 kd_o27 kd_ncX9_slotsHeld rfl
theorem dX9_slotsHeld_33 : decode cX9_slotsHeld 33 = .ok (.ireturn, 1) := kd_dk0 kd_o172 kd_ncX9_slotsHeld rfl
set_option maxHeartbeats 8000000 in
set_option maxRecDepth 100000 in
theorem c_g_slotsHeld (l : Launch) (G : zz_G) (ob0 : Nat) (ut : Nat) (uf1 : Int32) (h1 : Nat) (uf3 : Int32) (sc : Nat) (dr0 : Nat) (k0 : Nat) (my0 : Nat) (c0 : Nat) (ga : Nat) (pa0 : Nat) (t0 : Nat) (sl0 : Nat) (hd0 : Nat) (hf : Nat → Int32) : zz_M l G mX9_slotsHeld 0 0 0 [.ref ob0] [(ob0, .inr (9, [.ref ut, .int uf1, .ref h1, .int uf3, .ref sc, .ref dr0, .ref k0, .ref my0, .ref c0, .ref ga, .ref pa0, .ref t0, .ref sl0, .ref hd0])), (hd0, .inl (G.2 2, 3, .inl hf))] (fun rr u => ∃ (rv : Int32), rr = some (.int rv) ∧ u = [(ob0, .inr (9, [.ref ut, .int uf1, .ref h1, .int uf3, .ref sc, .ref dr0, .ref k0, .ref my0, .ref c0, .ref ga, .ref pa0, .ref t0, .ref sl0, .ref hd0])), (hd0, .inl (G.2 2, 3, .inl hf))]) := by
  refine zz_enteri (by decide +kernel) (Nat.le_of_ble_eq_true rfl) ?_
  intro p e s m args below meth c A Q ls S hnm hret hw hl
  have hl : lv_has ls 3 [(0, .ref ob0)] := hl
  have hx := S.1
  have hb := S.2.1
  refine lv_iconst (v := 0) hx hb dX9_slotsHeld_0 (by decide) ?_
  refine lv_istore_n (lv' := [(1, .int 0), (0, .ref ob0)]) hx hb dX9_slotsHeld_1 rfl hl (by decide) rfl (fun ls hl => ?_)
  refine lv_iconst (v := 0) hx hb dX9_slotsHeld_2 (by decide) ?_
  refine lv_istore_n (lv' := [(2, .int 0), (1, .int 0), (0, .ref ob0)]) hx hb dX9_slotsHeld_3 rfl hl (by decide) rfl (fun ls hl => ?_)
  have lp4_19 : ∀ (vn2 vi1 : Nat) (vy12 : Int32) (H : Heap) (locs : List Loc) (ls : Array Slot), vi1 ≤ 3 → 3 < vi1 + vn2 → zz_w G A s [(ob0, .inr (9, [.ref ut, .int uf1, .ref h1, .int uf3, .ref sc, .ref dr0, .ref k0, .ref my0, .ref c0, .ref ga, .ref pa0, .ref t0, .ref sl0, .ref hd0])), (hd0, .inl (G.2 2, 3, .inl hf))] H locs → lv_has ls 3 [(2, .int (nI vi1)), (1, .int vy12), (0, .ref ob0)] → W p l e (zz_rm 0 0 0) s m args below meth c H locs (0) (0) Q (F0 m 4 ls []) := by
    intro vn2
    induction vn2 with
    | zero => intro vi1 vy12 H locs ls hi1 hi2; exact absurd hi2 (by omega)
    | succ vn2 ih4 =>
      intro vi1 vy12 H locs ls hi4a hi4b  hw hl
      refine lv_iload_n hx hb dX9_slotsHeld_4 rfl (lv_at hl 0 rfl) ?_
      refine lv_iconst (v := 3) hx hb dX9_slotsHeld_5 (by decide) ?_
      refine lv_icmp_ge (tgt := 32) hx hb dX9_slotsHeld_6 (by decide) (fun c6_20 => ?_) (fun c6_20 => ?_)
      · skip
        have c6_20n : 3 ≤ vi1 := (zz_le (a := 3) (b := vi1) rfl rfl (by omega) (by omega)).mp c6_20
        refine lv_iload_n hx hb dX9_slotsHeld_32 rfl (lv_at hl 1 rfl) ?_
        exact hret _ _ _ _ _ _ ⟨vy12, rfl, rfl⟩ hw rfl dX9_slotsHeld_33
      · skip
        have c6_20n : ¬ (3 ≤ vi1) := fun z => c6_20 ((zz_le (a := 3) (b := vi1) rfl rfl (by omega) (by omega)).mpr z)
        refine lv_iload_n hx hb dX9_slotsHeld_9 rfl (lv_at hl 1 rfl) ?_
        refine lv_aload_n hx hb dX9_slotsHeld_10 rfl (lv_at hl 2 rfl) ?_
        refine zz_get (v := .ref hd0) S hw fgX9_79 0 rfl rfl dX9_slotsHeld_11 ?_
        refine lv_iload_n hx hb dX9_slotsHeld_14 rfl (lv_at hl 0 rfl) ?_
        refine zz_zald (v := (hf vi1)) S hw 1 rfl (vp_in_nI (n := vi1) (by omega) (by decide)) (congrArg hf (nI_clamp (n := vi1) (by omega))) dX9_slotsHeld_15 ?_
        have jn24_23 : ∀ (vy22 : Int32) (H : Heap) (locs : List Loc) (ls : Array Slot), (vy22 = 0 ∨ vy22 = 1) → zz_w G A s [(ob0, .inr (9, [.ref ut, .int uf1, .ref h1, .int uf3, .ref sc, .ref dr0, .ref k0, .ref my0, .ref c0, .ref ga, .ref pa0, .ref t0, .ref sl0, .ref hd0])), (hd0, .inl (G.2 2, 3, .inl hf))] H locs → lv_has ls 3 [(2, .int (nI vi1)), (1, .int vy12), (0, .ref ob0)] → W p l e (zz_rm 0 0 0) s m args below meth c H locs (0) (0) Q (F0 m 24 ls [.int vy22, .int vy12]) := by
          intro vy22 H locs ls hj24_24 hw hl
          refine lv_iadd hx hb dX9_slotsHeld_24 ?_
          refine lv_topi (fun z25 ez25 => ?_)
          refine lv_istore_n (lv' := [(1, .int z25), (2, .int (nI vi1)), (0, .ref ob0)]) hx hb dX9_slotsHeld_25 rfl hl (by decide) rfl (fun ls hl => ?_)
          refine W.eq (g2 := F0 m 26 ls []) rfl ?_
          refine lv_iinc (v := (nI (vi1 + 1))) (lv' := [(2, .int (nI (vi1 + 1))), (1, .int z25), (0, .ref ob0)]) hx hb dX9_slotsHeld_26 hl (k := 1) rfl (nI_add _ 1) (by decide) rfl (fun ls hl => ?_)
          refine lv_goto (tgt := 4) hx hb dX9_slotsHeld_29 (by decide) ?_
          exact ih4 (vi1 + 1) z25 _ _ _ (by omega) (by omega) hw (lv_sub hl [0, 1, 2] rfl)
        refine lv_if_eq (tgt := 23) hx hb dX9_slotsHeld_16 (by decide) (fun c16_21 => ?_) (fun c16_21 => ?_)
        · skip
          refine lv_iconst (v := 0) hx hb dX9_slotsHeld_23 (by decide) ?_
          exact jn24_23 0 _ _ _ (by first | assumption | omega | (first | exact Or.inl rfl | exact Or.inr rfl) | decide) hw (lv_sub hl [0, 1, 2] rfl)
        · skip
          refine lv_iconst (v := 1) hx hb dX9_slotsHeld_19 (by decide) ?_
          refine lv_goto (tgt := 24) hx hb dX9_slotsHeld_20 (by decide) ?_
          exact jn24_23 1 _ _ _ (by first | assumption | omega | (first | exact Or.inl rfl | exact Or.inr rfl) | decide) hw (lv_sub hl [0, 1, 2] rfl)
  exact lp4_19 (3 + 1 - 0) 0 0 _ _ _ (by omega) (by omega) hw (lv_sub hl [0, 1, 2] rfl)
theorem kd_ncX9_idlePeople : kd_ck 7456259164773656146295681641560371014013196777012417165620773467248101208817711972743098512469663965599391841033463595051805522947 54 cX9_idlePeople.data.toList 0 = true := by decide +kernel
theorem dX9_idlePeople_0 : decode cX9_idlePeople 0 = .ok (.iconst 0, 1) := kd_dk0 kd_o3 kd_ncX9_idlePeople rfl
theorem dX9_idlePeople_1 : decode cX9_idlePeople 1 = .ok (.istore_n 1, 1) := kd_dk0 kd_o60 kd_ncX9_idlePeople rfl
theorem dX9_idlePeople_2 : decode cX9_idlePeople 2 = .ok (.iconst 0, 1) := kd_dk0 kd_o3 kd_ncX9_idlePeople rfl
theorem dX9_idlePeople_3 : decode cX9_idlePeople 3 = .ok (.istore_n 2, 1) := kd_dk0 kd_o61 kd_ncX9_idlePeople rfl
theorem dX9_idlePeople_4 : decode cX9_idlePeople 4 = .ok (.iload_n 2, 1) := kd_dk0 kd_o28 kd_ncX9_idlePeople rfl
theorem dX9_idlePeople_5 : decode cX9_idlePeople 5 = .ok (.aload_n 0, 1) := kd_dk0 kd_o42 kd_ncX9_idlePeople rfl
theorem dX9_idlePeople_6 : decode cX9_idlePeople 6 = .ok (.getfield 30, 3) := kd_dk2 kd_o180 kd_ncX9_idlePeople rfl
theorem dX9_idlePeople_9 : decode cX9_idlePeople 9 = .ok (.getfield 105, 3) := kd_dk2 kd_o180 kd_ncX9_idlePeople rfl
theorem dX9_idlePeople_12 : decode cX9_idlePeople 12 = .ok (.if_icmp .ge 40, 3) := kd_dj2 kd_o162 (w := 40) kd_ncX9_idlePeople rfl rfl
theorem dX9_idlePeople_15 : decode cX9_idlePeople 15 = .ok (.aload_n 0, 1) := kd_dk0 kd_o42 kd_ncX9_idlePeople rfl
theorem dX9_idlePeople_16 : decode cX9_idlePeople 16 = .ok (.getfield 50, 3) := kd_dk2 kd_o180 kd_ncX9_idlePeople rfl
theorem dX9_idlePeople_19 : decode cX9_idlePeople 19 = .ok (.getfield 145, 3) := kd_dk2 kd_o180 kd_ncX9_idlePeople rfl
theorem dX9_idlePeople_22 : decode cX9_idlePeople 22 = .ok (.iload_n 2, 1) := kd_dk0 kd_o28 kd_ncX9_idlePeople rfl
theorem dX9_idlePeople_23 : decode cX9_idlePeople 23 = .ok (.iaload, 1) := kd_dk0 kd_o46 kd_ncX9_idlePeople rfl
theorem dX9_idlePeople_24 : decode cX9_idlePeople 24 = .ok (.bipush (-2), 2) := kd_dj1 kd_o16 (w := 254) kd_ncX9_idlePeople rfl rfl
theorem dX9_idlePeople_26 : decode cX9_idlePeople 26 = .ok (.if_icmp .ne 20, 3) := kd_dj2 kd_o160 (w := 20) kd_ncX9_idlePeople rfl rfl
theorem dX9_idlePeople_29 : decode cX9_idlePeople 29 = .ok (.aload_n 0, 1) := kd_dk0 kd_o42 kd_ncX9_idlePeople rfl
theorem dX9_idlePeople_30 : decode cX9_idlePeople 30 = .ok (.getfield 40, 3) := kd_dk2 kd_o180 kd_ncX9_idlePeople rfl
theorem dX9_idlePeople_33 : decode cX9_idlePeople 33 = .ok (.iload_n 2, 1) := kd_dk0 kd_o28 kd_ncX9_idlePeople rfl
theorem dX9_idlePeople_34 : decode cX9_idlePeople 34 = .ok (.invokevirtual 138, 3) := kd_dk2 kd_o182 kd_ncX9_idlePeople rfl
theorem dX9_idlePeople_37 : decode cX9_idlePeople 37 = .ok (.ifCond .ne 9, 3) := kd_dj2 kd_o154 (w := 9) kd_ncX9_idlePeople rfl rfl
theorem dX9_idlePeople_40 : decode cX9_idlePeople 40 = .ok (.iload_n 1, 1) := kd_dk0 kd_o27 kd_ncX9_idlePeople rfl
theorem dX9_idlePeople_41 : decode cX9_idlePeople 41 = .ok (.iconst 1, 1) := kd_dk0 kd_o4 kd_ncX9_idlePeople rfl
theorem dX9_idlePeople_42 : decode cX9_idlePeople 42 = .ok (.iload_n 2, 1) := kd_dk0 kd_o28 kd_ncX9_idlePeople rfl
theorem dX9_idlePeople_43 : decode cX9_idlePeople 43 = .ok (.ishl, 1) := kd_dk0 kd_o120 kd_ncX9_idlePeople rfl
theorem dX9_idlePeople_44 : decode cX9_idlePeople 44 = .ok (.ior, 1) := kd_dk0 kd_o128 kd_ncX9_idlePeople rfl
theorem dX9_idlePeople_45 : decode cX9_idlePeople 45 = .ok (.istore_n 1, 1) := kd_dk0 kd_o60 kd_ncX9_idlePeople rfl
theorem dX9_idlePeople_46 : decode cX9_idlePeople 46 = .ok (.iinc 2 1, 3) := kd_dji kd_o132 (w := 1) kd_ncX9_idlePeople rfl rfl
theorem dX9_idlePeople_49 : decode cX9_idlePeople 49 = .ok (.goto (-45), 3) := kd_dj2 kd_o167 (w := 65491) kd_ncX9_idlePeople rfl rfl
theorem dX9_idlePeople_52 : decode cX9_idlePeople 52 = .ok (.iload_n 1, 1) := kd_dk0 kd_o27 kd_ncX9_idlePeople rfl
theorem dX9_idlePeople_53 : decode cX9_idlePeople 53 = .ok (.ireturn, 1) := kd_dk0 kd_o172 kd_ncX9_idlePeople rfl
set_option maxHeartbeats 8000000 in
set_option maxRecDepth 100000 in
theorem c_g_idlePeople (l : Launch) (G : zz_G) (ob0 : Nat) (ut : Nat) (uf1 : Int32) (h1 : Nat) (uf3 : Int32) (sc : Nat) (dr0 : Nat) (k0 : Nat) (my0 : Nat) (c0 : Nat) (ga : Nat) (pa0 : Nat) (t0 : Nat) (sl0 : Nat) (hd0 : Nat) (s1 : Nat) (s2 : Nat) (s3 : Nat) (s4 : Nat) (s5 : Nat) (s6 : Nat) (s7 : Nat) (s8 : Nat) (s9 : Nat) (pp : Nat) (pq : Nat) (i3 : Int32) (i4 : Int32) (b1 : Nat) (b2 : Nat) (b3 : Nat) (b4 : Nat) (e1 : Nat → Int32) (e2 : Nat → Int32) (e3 : Nat → Int32) (e4 : Nat → Int32) (o1 : Int32) (o2 : Int32) (o3 : Int32) (a1 : Nat) (a2 : Nat) (wf : Nat → Int32) (af : Nat → Int32) (fi : Int32) (sd : Int32) (hpp : pp ≤ 7) (hpq : pq ≤ 6) (hw6 : ∀ j, j < 6 → zz_ok 7 (wf j)) (ha7 : ∀ j, j < 7 → zz_ok 6 (af j)) : zz_M l G mX9_idlePeople 1 0 0 [.ref ob0] [(ob0, .inr (9, [.ref ut, .int uf1, .ref h1, .int uf3, .ref sc, .ref dr0, .ref k0, .ref my0, .ref c0, .ref ga, .ref pa0, .ref t0, .ref sl0, .ref hd0])), (sc, .inr (5, [.ref s1, .ref s2, .ref s3, .ref s4, .ref s5, .ref s6, .ref s7, .ref s8, .ref s9, .int (nI pp), .int (nI pq), .int i3, .int i4])), (k0, .inr (6, [.ref b1, .ref b2, .ref b3, .ref b4, .int o1, .int o2, .int o3])), (b1, .inl (G.2 0, 7, .inl e1)), (b2, .inl (G.2 0, 6, .inl e2)), (b3, .inl (G.2 0, 7, .inl e3)), (b4, .inl (G.2 0, 42, .inl e4)), (c0, .inr (0, [.ref a1, .ref a2, .int fi, .int sd])), (a1, .inl (G.2 0, 6, .inl wf)), (a2, .inl (G.2 0, 7, .inl af))] (fun rr u => ∃ (rv : Int32), ∃ (ww : Nat → Int32), ∃ (aa : Nat → Int32), ∃ (fi2 : Int32), ∃ (sd2 : Int32), rr = some (.int rv) ∧ u = [(ob0, .inr (9, [.ref ut, .int uf1, .ref h1, .int uf3, .ref sc, .ref dr0, .ref k0, .ref my0, .ref c0, .ref ga, .ref pa0, .ref t0, .ref sl0, .ref hd0])), (sc, .inr (5, [.ref s1, .ref s2, .ref s3, .ref s4, .ref s5, .ref s6, .ref s7, .ref s8, .ref s9, .int (nI pp), .int (nI pq), .int i3, .int i4])), (k0, .inr (6, [.ref b1, .ref b2, .ref b3, .ref b4, .int o1, .int o2, .int o3])), (b1, .inl (G.2 0, 7, .inl e1)), (b2, .inl (G.2 0, 6, .inl e2)), (b3, .inl (G.2 0, 7, .inl e3)), (b4, .inl (G.2 0, 42, .inl e4)), (c0, .inr (0, [.ref a1, .ref a2, .int fi2, .int sd2])), (a1, .inl (G.2 0, 6, .inl ww)), (a2, .inl (G.2 0, 7, .inl aa))] ∧ (∀ j, j < 6 → zz_ok 7 (ww j)) ∧ (∀ j, j < 7 → zz_ok 6 (aa j))) := by
  refine zz_enteri (by decide +kernel) (Nat.le_of_ble_eq_true rfl) ?_
  intro p e s m args below meth c A Q ls S hnm hret hw hl
  have hl : lv_has ls 3 [(0, .ref ob0)] := hl
  have hx := S.1
  have hb := S.2.1
  refine lv_iconst (v := 0) hx hb dX9_idlePeople_0 (by decide) ?_
  refine lv_istore_n (lv' := [(1, .int 0), (0, .ref ob0)]) hx hb dX9_idlePeople_1 rfl hl (by decide) rfl (fun ls hl => ?_)
  refine lv_iconst (v := 0) hx hb dX9_idlePeople_2 (by decide) ?_
  refine lv_istore_n (lv' := [(2, .int 0), (1, .int 0), (0, .ref ob0)]) hx hb dX9_idlePeople_3 rfl hl (by decide) rfl (fun ls hl => ?_)
  have lp4_48 : ∀ (vn2 vi1 : Nat) (vy32 : Int32) (H : Heap) (locs : List Loc) (ls : Array Slot), vi1 ≤ pp → pp < vi1 + vn2 → zz_w G A s [(ob0, .inr (9, [.ref ut, .int uf1, .ref h1, .int uf3, .ref sc, .ref dr0, .ref k0, .ref my0, .ref c0, .ref ga, .ref pa0, .ref t0, .ref sl0, .ref hd0])), (sc, .inr (5, [.ref s1, .ref s2, .ref s3, .ref s4, .ref s5, .ref s6, .ref s7, .ref s8, .ref s9, .int (nI pp), .int (nI pq), .int i3, .int i4])), (k0, .inr (6, [.ref b1, .ref b2, .ref b3, .ref b4, .int o1, .int o2, .int o3])), (b1, .inl (G.2 0, 7, .inl e1)), (b2, .inl (G.2 0, 6, .inl e2)), (b3, .inl (G.2 0, 7, .inl e3)), (b4, .inl (G.2 0, 42, .inl e4)), (c0, .inr (0, [.ref a1, .ref a2, .int fi, .int sd])), (a1, .inl (G.2 0, 6, .inl wf)), (a2, .inl (G.2 0, 7, .inl af))] H locs → lv_has ls 3 [(2, .int (nI vi1)), (1, .int vy32), (0, .ref ob0)] → W p l e (zz_rm 1 0 0) s m args below meth c H locs (0) (0) Q (F0 m 4 ls []) := by
    intro vn2
    induction vn2 with
    | zero => intro vi1 vy32 H locs ls hi1 hi2; exact absurd hi2 (by omega)
    | succ vn2 ih4 =>
      intro vi1 vy32 H locs ls hi4a hi4b  hw hl
      refine lv_iload_n hx hb dX9_idlePeople_4 rfl (lv_at hl 0 rfl) ?_
      refine lv_aload_n hx hb dX9_idlePeople_5 rfl (lv_at hl 2 rfl) ?_
      refine zz_get (v := .ref sc) S hw fgX9_30 0 rfl rfl dX9_idlePeople_6 ?_
      refine zz_get (v := .int (nI pp)) S hw fgX9_105 1 rfl rfl dX9_idlePeople_9 ?_
      refine lv_icmp_ge (tgt := 52) hx hb dX9_idlePeople_12 (by decide) (fun c12_49 => ?_) (fun c12_49 => ?_)
      · skip
        have c12_49n : pp ≤ vi1 := (zz_le (a := pp) (b := vi1) rfl rfl (by omega) (by omega)).mp c12_49
        refine lv_iload_n hx hb dX9_idlePeople_52 rfl (lv_at hl 1 rfl) ?_
        exact hret _ _ _ _ _ _ ⟨vy32, wf, af, fi, sd, rfl, rfl, (by first | assumption | exact Or.inl rfl | exact Or.inr rfl | omega), (by first | assumption | exact Or.inl rfl | exact Or.inr rfl | omega)⟩ hw rfl dX9_idlePeople_53
      · skip
        have c12_49n : ¬ (pp ≤ vi1) := fun z => c12_49 ((zz_le (a := pp) (b := vi1) rfl rfl (by omega) (by omega)).mpr z)
        refine lv_aload_n hx hb dX9_idlePeople_15 rfl (lv_at hl 2 rfl) ?_
        refine zz_get (v := .ref c0) S hw fgX9_50 0 rfl rfl dX9_idlePeople_16 ?_
        refine zz_get (v := .ref a2) S hw fgX9_145 7 rfl rfl dX9_idlePeople_19 ?_
        refine lv_iload_n hx hb dX9_idlePeople_22 rfl (lv_at hl 0 rfl) ?_
        obtain ⟨vz50, hvz50, evz50⟩ : ∃ z : Int32, zz_ok 6 z ∧ af vi1 = z := ⟨_, (show ∀ j, j < 7 → zz_ok 6 (af j) from by assumption) vi1 (by omega), rfl⟩
        refine zz_iald (v := vz50) S hw 9 rfl (vp_in_nI (n := vi1) (by omega) (by decide)) (by rw [show ((nI vi1) : Int32).toNatClampNeg = vi1 from nI_clamp (n := vi1) (by omega)]; exact evz50) dX9_idlePeople_23 ?_
        refine W.eq (g2 := F0 m 24 ls [.int vz50]) rfl ?_
        refine lv_bipush (v := (-2)) hx hb dX9_idlePeople_24 (by decide) ?_
        have jn46_58 : ∀ (vy57 : Int32) (H : Heap) (locs : List Loc) (ls : Array Slot), zz_w G A s [(ob0, .inr (9, [.ref ut, .int uf1, .ref h1, .int uf3, .ref sc, .ref dr0, .ref k0, .ref my0, .ref c0, .ref ga, .ref pa0, .ref t0, .ref sl0, .ref hd0])), (sc, .inr (5, [.ref s1, .ref s2, .ref s3, .ref s4, .ref s5, .ref s6, .ref s7, .ref s8, .ref s9, .int (nI pp), .int (nI pq), .int i3, .int i4])), (k0, .inr (6, [.ref b1, .ref b2, .ref b3, .ref b4, .int o1, .int o2, .int o3])), (b1, .inl (G.2 0, 7, .inl e1)), (b2, .inl (G.2 0, 6, .inl e2)), (b3, .inl (G.2 0, 7, .inl e3)), (b4, .inl (G.2 0, 42, .inl e4)), (c0, .inr (0, [.ref a1, .ref a2, .int fi, .int sd])), (a1, .inl (G.2 0, 6, .inl wf)), (a2, .inl (G.2 0, 7, .inl af))] H locs → lv_has ls 3 [(2, .int (nI vi1)), (1, .int vy57), (0, .ref ob0)] → W p l e (zz_rm 1 0 0) s m args below meth c H locs (0) (0) Q (F0 m 46 ls []) := by
          intro vy57 H locs ls  hw hl
          refine lv_iinc (v := (nI (vi1 + 1))) (lv' := [(2, .int (nI (vi1 + 1))), (1, .int vy57), (0, .ref ob0)]) hx hb dX9_idlePeople_46 hl (k := 0) rfl (nI_add _ 1) (by decide) rfl (fun ls hl => ?_)
          refine lv_goto (tgt := 4) hx hb dX9_idlePeople_49 (by decide) ?_
          exact ih4 (vi1 + 1) vy57 _ _ _ (by omega) (by omega) hw (lv_sub hl [0, 1, 2] rfl)
        refine lv_icmp_ne (tgt := 46) hx hb dX9_idlePeople_26 (by decide) (fun c26_51 => ?_) (fun c26_51 => ?_)
        · skip
          obtain ⟨vq59, hvq59, rfl⟩ := hvz50.resolve_left c26_51
          exact jn46_58 vy32 _ _ _ hw (lv_sub hl [0, 1, 2] rfl)
        · skip
          refine lv_aload_n hx hb dX9_idlePeople_29 rfl (lv_at hl 2 rfl) ?_
          refine zz_get (v := .ref k0) S hw fgX9_40 0 rfl rfl dX9_idlePeople_30 ?_
          refine lv_iload_n hx hb dX9_idlePeople_33 rfl (lv_at hl 0 rfl) ?_
          refine zz_callV (qb := 2) (As := [.int (nI vi1)]) (rest := []) (wr := [(ob0, .inr (9, [.ref ut, .int uf1, .ref h1, .int uf3, .ref sc, .ref dr0, .ref k0, .ref my0, .ref c0, .ref ga, .ref pa0, .ref t0, .ref sl0, .ref hd0])), (sc, .inr (5, [.ref s1, .ref s2, .ref s3, .ref s4, .ref s5, .ref s6, .ref s7, .ref s8, .ref s9, .int (nI pp), .int (nI pq), .int i3, .int i4])), (b1, .inl (G.2 0, 7, .inl e1)), (b2, .inl (G.2 0, 6, .inl e2)), (b3, .inl (G.2 0, 7, .inl e3)), (b4, .inl (G.2 0, 42, .inl e4)), (c0, .inr (0, [.ref a1, .ref a2, .int fi, .int sd])), (a1, .inl (G.2 0, 6, .inl wf)), (a2, .inl (G.2 0, 7, .inl af))]) S hw hl.1 lX9_138 (c_gisOff l G k0 b1 b2 b3 b4 o1 o2 o3 (nI vi1)) ⟨Nat.le_of_ble_eq_true rfl, Nat.le_of_ble_eq_true rfl⟩ ⟨Nat.le_of_ble_eq_true rfl, Nat.le_of_ble_eq_true rfl⟩ [2] [0, 1, 3, 4, 5, 6, 7, 8, 9] (by decide) rfl rfl (by decide) (by decide) rfl rfl rfl rfl (Nat.le_of_ble_eq_true rfl) dX9_idlePeople_34 ?_
          clear hw
          intro rr u H locs hp hw
          refine hp.elim fun rv_60 zg0 => zg0.elim fun zee1 zg1 => zg1.elim fun zee2 zg2 => zg2.elim fun hq34_0 hq34_1 => ?_
          clear hp zg0 zg1 zg2
          subst zee1
          subst zee2
          replace hw : zz_w G A s [(ob0, .inr (9, [.ref ut, .int uf1, .ref h1, .int uf3, .ref sc, .ref dr0, .ref k0, .ref my0, .ref c0, .ref ga, .ref pa0, .ref t0, .ref sl0, .ref hd0])), (sc, .inr (5, [.ref s1, .ref s2, .ref s3, .ref s4, .ref s5, .ref s6, .ref s7, .ref s8, .ref s9, .int (nI pp), .int (nI pq), .int i3, .int i4])), (b1, .inl (G.2 0, 7, .inl e1)), (b2, .inl (G.2 0, 6, .inl e2)), (b3, .inl (G.2 0, 7, .inl e3)), (b4, .inl (G.2 0, 42, .inl e4)), (c0, .inr (0, [.ref a1, .ref a2, .int fi, .int sd])), (a1, .inl (G.2 0, 6, .inl wf)), (a2, .inl (G.2 0, 7, .inl af)), (k0, .inr (6, [.ref b1, .ref b2, .ref b3, .ref b4, .int o1, .int o2, .int o3]))] H _ := hw
          refine W.eq (g2 := F0 m 37 ls [.int rv_60]) rfl ?_
          refine lv_if_ne (tgt := 46) hx hb dX9_idlePeople_37 (by decide) (fun c37_61 => ?_) (fun c37_61 => ?_)
          · skip
            exact jn46_58 vy32 _ _ _ (hw.sub [0, 1, 9, 2, 3, 4, 5, 6, 7, 8] (by decide) rfl) (lv_sub hl [0, 1, 2] rfl)
          · skip
            refine lv_iload_n hx hb dX9_idlePeople_40 rfl (lv_at hl 1 rfl) ?_
            refine lv_iconst (v := 1) hx hb dX9_idlePeople_41 (by decide) ?_
            refine lv_iload_n hx hb dX9_idlePeople_42 rfl (lv_at hl 0 rfl) ?_
            refine lv_ishl hx hb dX9_idlePeople_43 ?_
            refine lv_topi (fun z62 ez62 => ?_)
            refine lv_ior hx hb dX9_idlePeople_44 ?_
            refine lv_topi (fun z63 ez63 => ?_)
            refine lv_istore_n (lv' := [(1, .int z63), (2, .int (nI vi1)), (0, .ref ob0)]) hx hb dX9_idlePeople_45 rfl hl (by decide) rfl (fun ls hl => ?_)
            exact jn46_58 z63 _ _ _ (hw.sub [0, 1, 9, 2, 3, 4, 5, 6, 7, 8] (by decide) rfl) (lv_sub hl [1, 0, 2] rfl)
  exact lp4_48 (pp + 1 - 0) 0 0 _ _ _ (by omega) (by omega) hw (lv_sub hl [0, 1, 2] rfl)
theorem kd_ncX9_hoursApartInCast : kd_ck 151230728189417897060247925114180403254390785501285100012355790968786852427219619134982966457234049048333072455119085433494025975353137927936653037175217791908867 67 cX9_hoursApartInCast.data.toList 0 = true := by decide +kernel
theorem dX9_hoursApartInCast_0 : decode cX9_hoursApartInCast 0 = .ok (.iconst 0, 1) := kd_dk0 kd_o3 kd_ncX9_hoursApartInCast rfl
theorem dX9_hoursApartInCast_1 : decode cX9_hoursApartInCast 1 = .ok (.istore_n 1, 1) := kd_dk0 kd_o60 kd_ncX9_hoursApartInCast rfl
theorem dX9_hoursApartInCast_2 : decode cX9_hoursApartInCast 2 = .ok (.iconst 0, 1) := kd_dk0 kd_o3 kd_ncX9_hoursApartInCast rfl
theorem dX9_hoursApartInCast_3 : decode cX9_hoursApartInCast 3 = .ok (.istore_n 2, 1) := kd_dk0 kd_o61 kd_ncX9_hoursApartInCast rfl
theorem dX9_hoursApartInCast_4 : decode cX9_hoursApartInCast 4 = .ok (.iload_n 2, 1) := kd_dk0 kd_o28 kd_ncX9_hoursApartInCast rfl
theorem dX9_hoursApartInCast_5 : decode cX9_hoursApartInCast 5 = .ok (.aload_n 0, 1) := kd_dk0 kd_o42 kd_ncX9_hoursApartInCast rfl
theorem dX9_hoursApartInCast_6 : decode cX9_hoursApartInCast 6 = .ok (.getfield 30, 3) := kd_dk2 kd_o180 kd_ncX9_hoursApartInCast rfl
theorem dX9_hoursApartInCast_9 : decode cX9_hoursApartInCast 9 = .ok (.getfield 108, 3) := kd_dk2 kd_o180 kd_ncX9_hoursApartInCast rfl
theorem dX9_hoursApartInCast_12 : decode cX9_hoursApartInCast 12 = .ok (.if_icmp .ge 53, 3) := kd_dj2 kd_o162 (w := 53) kd_ncX9_hoursApartInCast rfl rfl
theorem dX9_hoursApartInCast_15 : decode cX9_hoursApartInCast 15 = .ok (.aload_n 0, 1) := kd_dk0 kd_o42 kd_ncX9_hoursApartInCast rfl
theorem dX9_hoursApartInCast_16 : decode cX9_hoursApartInCast 16 = .ok (.getfield 50, 3) := kd_dk2 kd_o180 kd_ncX9_hoursApartInCast rfl
theorem dX9_hoursApartInCast_19 : decode cX9_hoursApartInCast 19 = .ok (.getfield 166, 3) := kd_dk2 kd_o180 kd_ncX9_hoursApartInCast rfl
theorem dX9_hoursApartInCast_22 : decode cX9_hoursApartInCast 22 = .ok (.iload_n 2, 1) := kd_dk0 kd_o28 kd_ncX9_hoursApartInCast rfl
theorem dX9_hoursApartInCast_23 : decode cX9_hoursApartInCast 23 = .ok (.iaload, 1) := kd_dk0 kd_o46 kd_ncX9_hoursApartInCast rfl
theorem dX9_hoursApartInCast_24 : decode cX9_hoursApartInCast 24 = .ok (.istore_n 3, 1) := kd_dk0 kd_o62 kd_ncX9_hoursApartInCast rfl
theorem dX9_hoursApartInCast_25 : decode cX9_hoursApartInCast 25 = .ok (.iload_n 1, 1) := kd_dk0 kd_o27 kd_ncX9_hoursApartInCast rfl
theorem dX9_hoursApartInCast_26 : decode cX9_hoursApartInCast 26 = .ok (.iload_n 3, 1) := kd_dk0 kd_o29 kd_ncX9_hoursApartInCast rfl
theorem dX9_hoursApartInCast_27 : decode cX9_hoursApartInCast 27 = .ok (.bipush (-2), 2) := kd_dj1 kd_o16 (w := 254) kd_ncX9_hoursApartInCast rfl rfl
theorem dX9_hoursApartInCast_29 : decode cX9_hoursApartInCast 29 = .ok (.if_icmp .ne 7, 3) := kd_dj2 kd_o160 (w := 7) kd_ncX9_hoursApartInCast rfl rfl
theorem dX9_hoursApartInCast_32 : decode cX9_hoursApartInCast 32 = .ok (.iconst 0, 1) := kd_dk0 kd_o3 kd_ncX9_hoursApartInCast rfl
theorem dX9_hoursApartInCast_33 : decode cX9_hoursApartInCast 33 = .ok (.goto 24, 3) := kd_dj2 kd_o167 (w := 24) kd_ncX9_hoursApartInCast rfl rfl
theorem dX9_hoursApartInCast_36 : decode cX9_hoursApartInCast 36 = .ok (.aload_n 0, 1) := kd_dk0 kd_o42 kd_ncX9_hoursApartInCast rfl
theorem dX9_hoursApartInCast_37 : decode cX9_hoursApartInCast 37 = .ok (.getfield 40, 3) := kd_dk2 kd_o180 kd_ncX9_hoursApartInCast rfl
theorem dX9_hoursApartInCast_40 : decode cX9_hoursApartInCast 40 = .ok (.getfield 125, 3) := kd_dk2 kd_o180 kd_ncX9_hoursApartInCast rfl
theorem dX9_hoursApartInCast_43 : decode cX9_hoursApartInCast 43 = .ok (.iload_n 3, 1) := kd_dk0 kd_o29 kd_ncX9_hoursApartInCast rfl
theorem dX9_hoursApartInCast_44 : decode cX9_hoursApartInCast 44 = .ok (.iaload, 1) := kd_dk0 kd_o46 kd_ncX9_hoursApartInCast rfl
theorem dX9_hoursApartInCast_45 : decode cX9_hoursApartInCast 45 = .ok (.aload_n 0, 1) := kd_dk0 kd_o42 kd_ncX9_hoursApartInCast rfl
theorem dX9_hoursApartInCast_46 : decode cX9_hoursApartInCast 46 = .ok (.getfield 40, 3) := kd_dk2 kd_o180 kd_ncX9_hoursApartInCast rfl
theorem dX9_hoursApartInCast_49 : decode cX9_hoursApartInCast 49 = .ok (.getfield 157, 3) := kd_dk2 kd_o180 kd_ncX9_hoursApartInCast rfl
theorem dX9_hoursApartInCast_52 : decode cX9_hoursApartInCast 52 = .ok (.iload_n 2, 1) := kd_dk0 kd_o28 kd_ncX9_hoursApartInCast rfl
theorem dX9_hoursApartInCast_53 : decode cX9_hoursApartInCast 53 = .ok (.iaload, 1) := kd_dk0 kd_o46 kd_ncX9_hoursApartInCast rfl
theorem dX9_hoursApartInCast_54 : decode cX9_hoursApartInCast 54 = .ok (.invokestatic 177, 3) := kd_dk2 kd_o184 kd_ncX9_hoursApartInCast rfl
theorem dX9_hoursApartInCast_57 : decode cX9_hoursApartInCast 57 = .ok (.iadd, 1) := kd_dk0 kd_o96 kd_ncX9_hoursApartInCast rfl
theorem dX9_hoursApartInCast_58 : decode cX9_hoursApartInCast 58 = .ok (.istore_n 1, 1) := kd_dk0 kd_o60 kd_ncX9_hoursApartInCast rfl
theorem dX9_hoursApartInCast_59 : decode cX9_hoursApartInCast 59 = .ok (.iinc 2 1, 3) := kd_dji kd_o132 (w := 1) kd_ncX9_hoursApartInCast rfl rfl
theorem dX9_hoursApartInCast_62 : decode cX9_hoursApartInCast 62 = .ok (.goto (-58), 3) := kd_dj2 kd_o167 (w := 65478) kd_ncX9_hoursApartInCast rfl rfl
theorem dX9_hoursApartInCast_65 : decode cX9_hoursApartInCast 65 = .ok (.iload_n 1, 1) := kd_dk0 kd_o27 kd_ncX9_hoursApartInCast rfl
theorem dX9_hoursApartInCast_66 : decode cX9_hoursApartInCast 66 = .ok (.ireturn, 1) := kd_dk0 kd_o172 kd_ncX9_hoursApartInCast rfl
set_option maxHeartbeats 8000000 in
set_option maxRecDepth 100000 in
theorem c_g_hoursApartInCast (l : Launch) (G : zz_G) (ob0 : Nat) (ut : Nat) (uf1 : Int32) (h1 : Nat) (uf3 : Int32) (sc : Nat) (dr0 : Nat) (k0 : Nat) (my0 : Nat) (c0 : Nat) (ga : Nat) (pa0 : Nat) (t0 : Nat) (sl0 : Nat) (hd0 : Nat) (s1 : Nat) (s2 : Nat) (s3 : Nat) (s4 : Nat) (s5 : Nat) (s6 : Nat) (s7 : Nat) (s8 : Nat) (s9 : Nat) (pp : Nat) (pq : Nat) (i3 : Int32) (i4 : Int32) (b1 : Nat) (b2 : Nat) (b3 : Nat) (b4 : Nat) (e1 : Nat → Int32) (e2 : Nat → Int32) (e3 : Nat → Int32) (e4 : Nat → Int32) (o1 : Int32) (o2 : Int32) (o3 : Int32) (a1 : Nat) (a2 : Nat) (wf : Nat → Int32) (af : Nat → Int32) (fi : Int32) (sd : Int32) (hpp : pp ≤ 7) (hpq : pq ≤ 6) (hw6 : ∀ j, j < 6 → zz_ok 7 (wf j)) (ha7 : ∀ j, j < 7 → zz_ok 6 (af j)) : zz_M l G mX9_hoursApartInCast 2 0 0 [.ref ob0] [(ob0, .inr (9, [.ref ut, .int uf1, .ref h1, .int uf3, .ref sc, .ref dr0, .ref k0, .ref my0, .ref c0, .ref ga, .ref pa0, .ref t0, .ref sl0, .ref hd0])), (sc, .inr (5, [.ref s1, .ref s2, .ref s3, .ref s4, .ref s5, .ref s6, .ref s7, .ref s8, .ref s9, .int (nI pp), .int (nI pq), .int i3, .int i4])), (k0, .inr (6, [.ref b1, .ref b2, .ref b3, .ref b4, .int o1, .int o2, .int o3])), (b1, .inl (G.2 0, 7, .inl e1)), (b2, .inl (G.2 0, 6, .inl e2)), (b3, .inl (G.2 0, 7, .inl e3)), (b4, .inl (G.2 0, 42, .inl e4)), (c0, .inr (0, [.ref a1, .ref a2, .int fi, .int sd])), (a1, .inl (G.2 0, 6, .inl wf)), (a2, .inl (G.2 0, 7, .inl af))] (fun rr u => ∃ (rv : Int32), ∃ (ww : Nat → Int32), ∃ (aa : Nat → Int32), ∃ (fi2 : Int32), ∃ (sd2 : Int32), rr = some (.int rv) ∧ u = [(ob0, .inr (9, [.ref ut, .int uf1, .ref h1, .int uf3, .ref sc, .ref dr0, .ref k0, .ref my0, .ref c0, .ref ga, .ref pa0, .ref t0, .ref sl0, .ref hd0])), (sc, .inr (5, [.ref s1, .ref s2, .ref s3, .ref s4, .ref s5, .ref s6, .ref s7, .ref s8, .ref s9, .int (nI pp), .int (nI pq), .int i3, .int i4])), (k0, .inr (6, [.ref b1, .ref b2, .ref b3, .ref b4, .int o1, .int o2, .int o3])), (b1, .inl (G.2 0, 7, .inl e1)), (b2, .inl (G.2 0, 6, .inl e2)), (b3, .inl (G.2 0, 7, .inl e3)), (b4, .inl (G.2 0, 42, .inl e4)), (c0, .inr (0, [.ref a1, .ref a2, .int fi2, .int sd2])), (a1, .inl (G.2 0, 6, .inl ww)), (a2, .inl (G.2 0, 7, .inl aa))] ∧ (∀ j, j < 6 → zz_ok 7 (ww j)) ∧ (∀ j, j < 7 → zz_ok 6 (aa j))) := by
  refine zz_enteri (by decide +kernel) (Nat.le_of_ble_eq_true rfl) ?_
  intro p e s m args below meth c A Q ls S hnm hret hw hl
  have hl : lv_has ls 4 [(0, .ref ob0)] := hl
  have hx := S.1
  have hb := S.2.1
  refine lv_iconst (v := 0) hx hb dX9_hoursApartInCast_0 (by decide) ?_
  refine lv_istore_n (lv' := [(1, .int 0), (0, .ref ob0)]) hx hb dX9_hoursApartInCast_1 rfl hl (by decide) rfl (fun ls hl => ?_)
  refine lv_iconst (v := 0) hx hb dX9_hoursApartInCast_2 (by decide) ?_
  refine lv_istore_n (lv' := [(2, .int 0), (1, .int 0), (0, .ref ob0)]) hx hb dX9_hoursApartInCast_3 rfl hl (by decide) rfl (fun ls hl => ?_)
  have lp4_34 : ∀ (vn2 vi1 : Nat) (vy22 : Int32) (H : Heap) (locs : List Loc) (ls : Array Slot), vi1 ≤ pq → pq < vi1 + vn2 → zz_w G A s [(ob0, .inr (9, [.ref ut, .int uf1, .ref h1, .int uf3, .ref sc, .ref dr0, .ref k0, .ref my0, .ref c0, .ref ga, .ref pa0, .ref t0, .ref sl0, .ref hd0])), (sc, .inr (5, [.ref s1, .ref s2, .ref s3, .ref s4, .ref s5, .ref s6, .ref s7, .ref s8, .ref s9, .int (nI pp), .int (nI pq), .int i3, .int i4])), (k0, .inr (6, [.ref b1, .ref b2, .ref b3, .ref b4, .int o1, .int o2, .int o3])), (b1, .inl (G.2 0, 7, .inl e1)), (b2, .inl (G.2 0, 6, .inl e2)), (b3, .inl (G.2 0, 7, .inl e3)), (b4, .inl (G.2 0, 42, .inl e4)), (c0, .inr (0, [.ref a1, .ref a2, .int fi, .int sd])), (a1, .inl (G.2 0, 6, .inl wf)), (a2, .inl (G.2 0, 7, .inl af))] H locs → lv_has ls 4 [(2, .int (nI vi1)), (1, .int vy22), (0, .ref ob0)] → W p l e (zz_rm 2 0 0) s m args below meth c H locs (0) (0) Q (F0 m 4 ls []) := by
    intro vn2
    induction vn2 with
    | zero => intro vi1 vy22 H locs ls hi1 hi2; exact absurd hi2 (by omega)
    | succ vn2 ih4 =>
      intro vi1 vy22 H locs ls hi4a hi4b  hw hl
      refine lv_iload_n hx hb dX9_hoursApartInCast_4 rfl (lv_at hl 0 rfl) ?_
      refine lv_aload_n hx hb dX9_hoursApartInCast_5 rfl (lv_at hl 2 rfl) ?_
      refine zz_get (v := .ref sc) S hw fgX9_30 0 rfl rfl dX9_hoursApartInCast_6 ?_
      refine zz_get (v := .int (nI pq)) S hw fgX9_108 1 rfl rfl dX9_hoursApartInCast_9 ?_
      refine lv_icmp_ge (tgt := 65) hx hb dX9_hoursApartInCast_12 (by decide) (fun c12_35 => ?_) (fun c12_35 => ?_)
      · skip
        have c12_35n : pq ≤ vi1 := (zz_le (a := pq) (b := vi1) rfl rfl (by omega) (by omega)).mp c12_35
        refine lv_iload_n hx hb dX9_hoursApartInCast_65 rfl (lv_at hl 1 rfl) ?_
        exact hret _ _ _ _ _ _ ⟨vy22, wf, af, fi, sd, rfl, rfl, (by first | assumption | exact Or.inl rfl | exact Or.inr rfl | omega), (by first | assumption | exact Or.inl rfl | exact Or.inr rfl | omega)⟩ hw rfl dX9_hoursApartInCast_66
      · skip
        have c12_35n : ¬ (pq ≤ vi1) := fun z => c12_35 ((zz_le (a := pq) (b := vi1) rfl rfl (by omega) (by omega)).mpr z)
        refine lv_aload_n hx hb dX9_hoursApartInCast_15 rfl (lv_at hl 2 rfl) ?_
        refine zz_get (v := .ref c0) S hw fgX9_50 0 rfl rfl dX9_hoursApartInCast_16 ?_
        refine zz_get (v := .ref a1) S hw fgX9_166 7 rfl rfl dX9_hoursApartInCast_19 ?_
        refine lv_iload_n hx hb dX9_hoursApartInCast_22 rfl (lv_at hl 0 rfl) ?_
        obtain ⟨vz36, hvz36, evz36⟩ : ∃ z : Int32, zz_ok 7 z ∧ wf vi1 = z := ⟨_, (show ∀ j, j < 6 → zz_ok 7 (wf j) from by assumption) vi1 (by omega), rfl⟩
        refine zz_iald (v := vz36) S hw 8 rfl (vp_in_nI (n := vi1) (by omega) (by decide)) (by rw [show ((nI vi1) : Int32).toNatClampNeg = vi1 from nI_clamp (n := vi1) (by omega)]; exact evz36) dX9_hoursApartInCast_23 ?_
        refine W.eq (g2 := F0 m 24 ls [.int vz36]) rfl ?_
        refine lv_istore_n (lv' := [(3, .int vz36), (2, .int (nI vi1)), (1, .int vy22), (0, .ref ob0)]) hx hb dX9_hoursApartInCast_24 rfl hl (by decide) rfl (fun ls hl => ?_)
        refine lv_iload_n hx hb dX9_hoursApartInCast_25 rfl (lv_at hl 2 rfl) ?_
        refine lv_iload_n hx hb dX9_hoursApartInCast_26 rfl (lv_at hl 0 rfl) ?_
        refine lv_bipush (v := (-2)) hx hb dX9_hoursApartInCast_27 (by decide) ?_
        have jn57_42 : ∀ (vy40 : Int32) (vy41 : Int32) (H : Heap) (locs : List Loc) (ls : Array Slot), zz_w G A s [(ob0, .inr (9, [.ref ut, .int uf1, .ref h1, .int uf3, .ref sc, .ref dr0, .ref k0, .ref my0, .ref c0, .ref ga, .ref pa0, .ref t0, .ref sl0, .ref hd0])), (sc, .inr (5, [.ref s1, .ref s2, .ref s3, .ref s4, .ref s5, .ref s6, .ref s7, .ref s8, .ref s9, .int (nI pp), .int (nI pq), .int i3, .int i4])), (k0, .inr (6, [.ref b1, .ref b2, .ref b3, .ref b4, .int o1, .int o2, .int o3])), (b1, .inl (G.2 0, 7, .inl e1)), (b2, .inl (G.2 0, 6, .inl e2)), (b3, .inl (G.2 0, 7, .inl e3)), (b4, .inl (G.2 0, 42, .inl e4)), (c0, .inr (0, [.ref a1, .ref a2, .int fi, .int sd])), (a1, .inl (G.2 0, 6, .inl wf)), (a2, .inl (G.2 0, 7, .inl af))] H locs → lv_has ls 4 [(3, .int vy40), (2, .int (nI vi1)), (1, .int vy22), (0, .ref ob0)] → W p l e (zz_rm 2 0 0) s m args below meth c H locs (0) (0) Q (F0 m 57 ls [.int vy41, .int vy22]) := by
          intro vy40 vy41 H locs ls  hw hl
          refine lv_iadd hx hb dX9_hoursApartInCast_57 ?_
          refine lv_topi (fun z43 ez43 => ?_)
          refine lv_istore_n (lv' := [(1, .int z43), (3, .int vy40), (2, .int (nI vi1)), (0, .ref ob0)]) hx hb dX9_hoursApartInCast_58 rfl hl (by decide) rfl (fun ls hl => ?_)
          refine lv_iinc (v := (nI (vi1 + 1))) (lv' := [(2, .int (nI (vi1 + 1))), (1, .int z43), (3, .int vy40), (0, .ref ob0)]) hx hb dX9_hoursApartInCast_59 hl (k := 2) rfl (nI_add _ 1) (by decide) rfl (fun ls hl => ?_)
          refine lv_goto (tgt := 4) hx hb dX9_hoursApartInCast_62 (by decide) ?_
          exact ih4 (vi1 + 1) z43 _ _ _ (by omega) (by omega) hw (lv_sub hl [0, 1, 3] rfl)
        refine lv_icmp_ne (tgt := 36) hx hb dX9_hoursApartInCast_29 (by decide) (fun c29_37 => ?_) (fun c29_37 => ?_)
        · skip
          obtain ⟨vq44, hvq44, rfl⟩ := hvz36.resolve_left c29_37
          refine lv_aload_n hx hb dX9_hoursApartInCast_36 rfl (lv_at hl 3 rfl) ?_
          refine zz_get (v := .ref k0) S hw fgX9_40 0 rfl rfl dX9_hoursApartInCast_37 ?_
          refine zz_get (v := .ref b1) S hw fgX9_125 2 rfl rfl dX9_hoursApartInCast_40 ?_
          refine lv_iload_n hx hb dX9_hoursApartInCast_43 rfl (lv_at hl 0 rfl) ?_
          refine zz_iald (v := (e1 vq44)) S hw 3 rfl (vp_in_nI (n := vq44) (by omega) (by decide)) (congrArg e1 (nI_clamp (n := vq44) (by omega))) dX9_hoursApartInCast_44 ?_
          refine lv_aload_n hx hb dX9_hoursApartInCast_45 rfl (lv_at hl 3 rfl) ?_
          refine W.eq (g2 := F0 m 46 ls [.ref ob0, .int (e1 vq44), .int vy22]) rfl ?_
          refine zz_get (v := .ref k0) S hw fgX9_40 0 rfl rfl dX9_hoursApartInCast_46 ?_
          refine zz_get (v := .ref b2) S hw fgX9_157 2 rfl rfl dX9_hoursApartInCast_49 ?_
          refine lv_iload_n hx hb dX9_hoursApartInCast_52 rfl (lv_at hl 1 rfl) ?_
          refine zz_iald (v := (e2 vi1)) S hw 4 rfl (vp_in_nI (n := vi1) (by omega) (by decide)) (congrArg e2 (nI_clamp (n := vi1) (by omega))) dX9_hoursApartInCast_53 ?_
          refine zz_callS (As := [.int (e1 vq44), .int (e2 vi1)]) (rest := [.int vy22]) (wr := [(ob0, .inr (9, [.ref ut, .int uf1, .ref h1, .int uf3, .ref sc, .ref dr0, .ref k0, .ref my0, .ref c0, .ref ga, .ref pa0, .ref t0, .ref sl0, .ref hd0])), (sc, .inr (5, [.ref s1, .ref s2, .ref s3, .ref s4, .ref s5, .ref s6, .ref s7, .ref s8, .ref s9, .int (nI pp), .int (nI pq), .int i3, .int i4])), (k0, .inr (6, [.ref b1, .ref b2, .ref b3, .ref b4, .int o1, .int o2, .int o3])), (b1, .inl (G.2 0, 7, .inl e1)), (b2, .inl (G.2 0, 6, .inl e2)), (b3, .inl (G.2 0, 7, .inl e3)), (b4, .inl (G.2 0, 42, .inl e4)), (c0, .inr (0, [.ref a1, .ref a2, .int fi, .int sd])), (a1, .inl (G.2 0, 6, .inl wf)), (a2, .inl (G.2 0, 7, .inl af))]) S hw hl.1 lX9_177 (c_ghours l G (e1 vq44) (e2 vi1)) ⟨Nat.le_of_ble_eq_true rfl, Nat.le_of_ble_eq_true rfl⟩ ⟨Nat.le_of_ble_eq_true rfl, Nat.le_of_ble_eq_true rfl⟩ [] [0, 1, 2, 3, 4, 5, 6, 7, 8, 9] (by decide) rfl rfl (by decide) (by decide) rfl rfl (Nat.le_of_ble_eq_true rfl) dX9_hoursApartInCast_54 ?_
          clear hw
          intro rr u H locs hp hw
          refine hp.elim fun rv_45 zg0 => zg0.elim fun zee1 zg1 => zg1.elim fun zee2 hq54_0 => ?_
          clear hp zg0 zg1
          subst zee1
          subst zee2
          replace hw : zz_w G A s [(ob0, .inr (9, [.ref ut, .int uf1, .ref h1, .int uf3, .ref sc, .ref dr0, .ref k0, .ref my0, .ref c0, .ref ga, .ref pa0, .ref t0, .ref sl0, .ref hd0])), (sc, .inr (5, [.ref s1, .ref s2, .ref s3, .ref s4, .ref s5, .ref s6, .ref s7, .ref s8, .ref s9, .int (nI pp), .int (nI pq), .int i3, .int i4])), (k0, .inr (6, [.ref b1, .ref b2, .ref b3, .ref b4, .int o1, .int o2, .int o3])), (b1, .inl (G.2 0, 7, .inl e1)), (b2, .inl (G.2 0, 6, .inl e2)), (b3, .inl (G.2 0, 7, .inl e3)), (b4, .inl (G.2 0, 42, .inl e4)), (c0, .inr (0, [.ref a1, .ref a2, .int fi, .int sd])), (a1, .inl (G.2 0, 6, .inl wf)), (a2, .inl (G.2 0, 7, .inl af))] H _ := hw
          refine W.eq (g2 := F0 m 57 ls [.int rv_45, .int vy22]) rfl ?_
          exact jn57_42 (nI vq44) rv_45 _ _ _ hw (lv_sub hl [0, 1, 2, 3] rfl)
        · skip
          refine lv_iconst (v := 0) hx hb dX9_hoursApartInCast_32 (by decide) ?_
          refine lv_goto (tgt := 57) hx hb dX9_hoursApartInCast_33 (by decide) ?_
          exact jn57_42 vz36 0 _ _ _ hw (lv_sub hl [0, 1, 2, 3] rfl)
  exact lp4_34 (pq + 1 - 0) 0 0 _ _ _ (by omega) (by omega) hw (lv_sub hl [0, 1, 2] rfl)
theorem kd_ncX9_countOfCast : kd_ck 56549893373760940774323047179276422576664664701212227271138075794774053082605783912043180447616506490241984008905613731960195189997869953444626569302903615370237031227838261759600627200325104630392111463460287530 88 cX9_countOfCast.data.toList 0 = true := by decide +kernel
theorem dX9_countOfCast_0 : decode cX9_countOfCast 0 = .ok (.aload_n 0, 1) := kd_dk0 kd_o42 kd_ncX9_countOfCast rfl
theorem dX9_countOfCast_1 : decode cX9_countOfCast 1 = .ok (.getfield 50, 3) := kd_dk2 kd_o180 kd_ncX9_countOfCast rfl
theorem dX9_countOfCast_4 : decode cX9_countOfCast 4 = .ok (.aload_n 0, 1) := kd_dk0 kd_o42 kd_ncX9_countOfCast rfl
theorem dX9_countOfCast_5 : decode cX9_countOfCast 5 = .ok (.getfield 30, 3) := kd_dk2 kd_o180 kd_ncX9_countOfCast rfl
theorem dX9_countOfCast_8 : decode cX9_countOfCast 8 = .ok (.aload_n 0, 1) := kd_dk0 kd_o42 kd_ncX9_countOfCast rfl
theorem dX9_countOfCast_9 : decode cX9_countOfCast 9 = .ok (.getfield 40, 3) := kd_dk2 kd_o180 kd_ncX9_countOfCast rfl
theorem dX9_countOfCast_12 : decode cX9_countOfCast 12 = .ok (.invokevirtual 141, 3) := kd_dk2 kd_o182 kd_ncX9_countOfCast rfl
theorem dX9_countOfCast_15 : decode cX9_countOfCast 15 = .ok (.iload_n 1, 1) := kd_dk0 kd_o27 kd_ncX9_countOfCast rfl
theorem dX9_countOfCast_16 : decode cX9_countOfCast 16 = .ok (.lookupswitch 70 #[(3, 44), (4, 52), (12, 60), (13, 65)], 44) := by decide +kernel
theorem dX9_countOfCast_60 : decode cX9_countOfCast 60 = .ok (.aload_n 0, 1) := kd_dk0 kd_o42 kd_ncX9_countOfCast rfl
theorem dX9_countOfCast_61 : decode cX9_countOfCast 61 = .ok (.getfield 50, 3) := kd_dk2 kd_o180 kd_ncX9_countOfCast rfl
theorem dX9_countOfCast_64 : decode cX9_countOfCast 64 = .ok (.getfield 261, 3) := kd_dk2 kd_o180 kd_ncX9_countOfCast rfl
theorem dX9_countOfCast_67 : decode cX9_countOfCast 67 = .ok (.ireturn, 1) := kd_dk0 kd_o172 kd_ncX9_countOfCast rfl
theorem dX9_countOfCast_68 : decode cX9_countOfCast 68 = .ok (.aload_n 0, 1) := kd_dk0 kd_o42 kd_ncX9_countOfCast rfl
theorem dX9_countOfCast_69 : decode cX9_countOfCast 69 = .ok (.getfield 50, 3) := kd_dk2 kd_o180 kd_ncX9_countOfCast rfl
theorem dX9_countOfCast_72 : decode cX9_countOfCast 72 = .ok (.getfield 207, 3) := kd_dk2 kd_o180 kd_ncX9_countOfCast rfl
theorem dX9_countOfCast_75 : decode cX9_countOfCast 75 = .ok (.ireturn, 1) := kd_dk0 kd_o172 kd_ncX9_countOfCast rfl
theorem dX9_countOfCast_76 : decode cX9_countOfCast 76 = .ok (.aload_n 0, 1) := kd_dk0 kd_o42 kd_ncX9_countOfCast rfl
theorem dX9_countOfCast_77 : decode cX9_countOfCast 77 = .ok (.invokevirtual 313, 3) := kd_dk2 kd_o182 kd_ncX9_countOfCast rfl
theorem dX9_countOfCast_80 : decode cX9_countOfCast 80 = .ok (.ireturn, 1) := kd_dk0 kd_o172 kd_ncX9_countOfCast rfl
theorem dX9_countOfCast_81 : decode cX9_countOfCast 81 = .ok (.aload_n 0, 1) := kd_dk0 kd_o42 kd_ncX9_countOfCast rfl
theorem dX9_countOfCast_82 : decode cX9_countOfCast 82 = .ok (.invokevirtual 316, 3) := kd_dk2 kd_o182 kd_ncX9_countOfCast rfl
theorem dX9_countOfCast_85 : decode cX9_countOfCast 85 = .ok (.ireturn, 1) := kd_dk0 kd_o172 kd_ncX9_countOfCast rfl
theorem dX9_countOfCast_86 : decode cX9_countOfCast 86 = .ok (.iconst (-1), 1) := kd_dk0 kd_o2 kd_ncX9_countOfCast rfl
theorem dX9_countOfCast_87 : decode cX9_countOfCast 87 = .ok (.ireturn, 1) := kd_dk0 kd_o172 kd_ncX9_countOfCast rfl
set_option maxHeartbeats 8000000 in
set_option maxRecDepth 100000 in
theorem c_g_countOfCast (l : Launch) (G : zz_G) (ob0 : Nat) (ut : Nat) (uf1 : Int32) (h1 : Nat) (uf3 : Int32) (sc : Nat) (dr0 : Nat) (k0 : Nat) (my0 : Nat) (c0 : Nat) (ga : Nat) (pa0 : Nat) (t0 : Nat) (sl0 : Nat) (hd0 : Nat) (s1 : Nat) (s2 : Nat) (s3 : Nat) (s4 : Nat) (s5 : Nat) (s6 : Nat) (s7 : Nat) (s8 : Nat) (s9 : Nat) (w0 : Nat) (w1 : Nat) (w2 : Nat) (w3 : Nat) (x0 : Nat) (x1 : Nat) (x2 : Nat) (x3 : Nat) (x4 : Nat) (x5 : Nat) (x6 : Nat) (x7 : Nat) (x8 : Nat) (x9 : Nat) (x10 : Nat) (x11 : Nat) (pp : Nat) (pq : Nat) (i3 : Int32) (i4 : Int32) (m3 : Nat → Int32) (m4 : Nat → Int32) (m6 : Nat → Int32) (m7 : Nat → Int32) (fc : Nat → Int32) (f0 : Nat → Int32) (g0 : Nat → Int32) (n0 : Nat) (u0 : Nat) (z0_ : Nat → Int32) (f1 : Nat → Int32) (g1 : Nat → Int32) (n1 : Nat) (u1 : Nat) (z1_ : Nat → Int32) (f2 : Nat → Int32) (g2 : Nat → Int32) (n2 : Nat) (u2 : Nat) (z2_ : Nat → Int32) (f3 : Nat → Int32) (g3 : Nat → Int32) (n3 : Nat) (u3 : Nat) (z3_ : Nat → Int32) (m5 : Nat → Int32) (b1 : Nat) (b2 : Nat) (b3 : Nat) (b4 : Nat) (e1 : Nat → Int32) (e2 : Nat → Int32) (e3 : Nat → Int32) (e4 : Nat → Int32) (o1 : Int32) (o2 : Int32) (o3 : Int32) (a1 : Nat) (a2 : Nat) (wf : Nat → Int32) (af : Nat → Int32) (fi : Int32) (sd : Int32) (ar1 : Int32) (hv0 : zz_lwv f0 g0 n0 u0) (hv1 : zz_lwv f1 g1 n1 u1) (hv2 : zz_lwv f2 g2 n2 u2) (hv3 : zz_lwv f3 g3 n3 u3) (hpp : pp ≤ 7) (hpq : pq ≤ 6) (hw6 : ∀ j, j < 6 → zz_ok 7 (wf j)) (ha7 : ∀ j, j < 7 → zz_ok 6 (af j)) : zz_M l G mX9_countOfCast 6 0 0 [.ref ob0, .int ar1] [(ob0, .inr (9, [.ref ut, .int uf1, .ref h1, .int uf3, .ref sc, .ref dr0, .ref k0, .ref my0, .ref c0, .ref ga, .ref pa0, .ref t0, .ref sl0, .ref hd0])), (sc, .inr (5, [.ref s1, .ref s2, .ref s3, .ref s4, .ref s5, .ref s6, .ref s7, .ref s8, .ref s9, .int (nI pp), .int (nI pq), .int i3, .int i4])), (s3, .inl (G.2 0, 7, .inl m3)), (s4, .inl (G.2 0, 7, .inl m4)), (s6, .inl (G.2 0, 6, .inl m6)), (s7, .inl (G.2 0, 6, .inl m7)), (s9, .inl (G.2 0, 9, .inl fc)), (s8, .inl (G.2 4, 4, .inr (.inr (.inr (.inr (va_up (va_up (va_up (va_up (fun _ => none) 0 (some w0)) 1 (some w1)) 2 (some w2)) 3 (some w3))))))), (w0, .inr (2, [.ref x0, .ref x1, .ref x2, .int (nI n0), .int (nI u0)])), (x0, .inl (G.2 0, 400, .inl f0)), (x1, .inl (G.2 0, 14, .inl g0)), (x2, .inl (G.2 0, 32, .inl z0_)), (w1, .inr (2, [.ref x3, .ref x4, .ref x5, .int (nI n1), .int (nI u1)])), (x3, .inl (G.2 0, 400, .inl f1)), (x4, .inl (G.2 0, 14, .inl g1)), (x5, .inl (G.2 0, 32, .inl z1_)), (w2, .inr (2, [.ref x6, .ref x7, .ref x8, .int (nI n2), .int (nI u2)])), (x6, .inl (G.2 0, 400, .inl f2)), (x7, .inl (G.2 0, 14, .inl g2)), (x8, .inl (G.2 0, 32, .inl z2_)), (w3, .inr (2, [.ref x9, .ref x10, .ref x11, .int (nI n3), .int (nI u3)])), (x9, .inl (G.2 0, 400, .inl f3)), (x10, .inl (G.2 0, 14, .inl g3)), (x11, .inl (G.2 0, 32, .inl z3_)), (s5, .inl (G.2 0, 6, .inl m5)), (k0, .inr (6, [.ref b1, .ref b2, .ref b3, .ref b4, .int o1, .int o2, .int o3])), (b1, .inl (G.2 0, 7, .inl e1)), (b2, .inl (G.2 0, 6, .inl e2)), (b3, .inl (G.2 0, 7, .inl e3)), (b4, .inl (G.2 0, 42, .inl e4)), (c0, .inr (0, [.ref a1, .ref a2, .int fi, .int sd])), (a1, .inl (G.2 0, 6, .inl wf)), (a2, .inl (G.2 0, 7, .inl af))] (fun rr u => ∃ (rv : Int32), ∃ (fcc : Nat → Int32), ∃ (zz0 : Nat → Int32), ∃ (zz1 : Nat → Int32), ∃ (zz2 : Nat → Int32), ∃ (zz3 : Nat → Int32), ∃ (ww : Nat → Int32), ∃ (aa : Nat → Int32), ∃ (fi2 : Int32), ∃ (sd2 : Int32), rr = some (.int rv) ∧ u = [(ob0, .inr (9, [.ref ut, .int uf1, .ref h1, .int uf3, .ref sc, .ref dr0, .ref k0, .ref my0, .ref c0, .ref ga, .ref pa0, .ref t0, .ref sl0, .ref hd0])), (sc, .inr (5, [.ref s1, .ref s2, .ref s3, .ref s4, .ref s5, .ref s6, .ref s7, .ref s8, .ref s9, .int (nI pp), .int (nI pq), .int i3, .int i4])), (s3, .inl (G.2 0, 7, .inl m3)), (s4, .inl (G.2 0, 7, .inl m4)), (s6, .inl (G.2 0, 6, .inl m6)), (s7, .inl (G.2 0, 6, .inl m7)), (s9, .inl (G.2 0, 9, .inl fcc)), (s8, .inl (G.2 4, 4, .inr (.inr (.inr (.inr (va_up (va_up (va_up (va_up (fun _ => none) 0 (some w0)) 1 (some w1)) 2 (some w2)) 3 (some w3))))))), (w0, .inr (2, [.ref x0, .ref x1, .ref x2, .int (nI n0), .int (nI u0)])), (x0, .inl (G.2 0, 400, .inl f0)), (x1, .inl (G.2 0, 14, .inl g0)), (x2, .inl (G.2 0, 32, .inl zz0)), (w1, .inr (2, [.ref x3, .ref x4, .ref x5, .int (nI n1), .int (nI u1)])), (x3, .inl (G.2 0, 400, .inl f1)), (x4, .inl (G.2 0, 14, .inl g1)), (x5, .inl (G.2 0, 32, .inl zz1)), (w2, .inr (2, [.ref x6, .ref x7, .ref x8, .int (nI n2), .int (nI u2)])), (x6, .inl (G.2 0, 400, .inl f2)), (x7, .inl (G.2 0, 14, .inl g2)), (x8, .inl (G.2 0, 32, .inl zz2)), (w3, .inr (2, [.ref x9, .ref x10, .ref x11, .int (nI n3), .int (nI u3)])), (x9, .inl (G.2 0, 400, .inl f3)), (x10, .inl (G.2 0, 14, .inl g3)), (x11, .inl (G.2 0, 32, .inl zz3)), (s5, .inl (G.2 0, 6, .inl m5)), (k0, .inr (6, [.ref b1, .ref b2, .ref b3, .ref b4, .int o1, .int o2, .int o3])), (b1, .inl (G.2 0, 7, .inl e1)), (b2, .inl (G.2 0, 6, .inl e2)), (b3, .inl (G.2 0, 7, .inl e3)), (b4, .inl (G.2 0, 42, .inl e4)), (c0, .inr (0, [.ref a1, .ref a2, .int fi2, .int sd2])), (a1, .inl (G.2 0, 6, .inl ww)), (a2, .inl (G.2 0, 7, .inl aa))] ∧ (∀ j, j < 6 → zz_ok 7 (ww j)) ∧ (∀ j, j < 7 → zz_ok 6 (aa j))) := by
  refine zz_enteri (by decide +kernel) (Nat.le_of_ble_eq_true rfl) ?_
  intro p e s m args below meth c A Q ls S hnm hret hw hl
  have hl : lv_has ls 2 [(0, .ref ob0), (1, .int ar1)] := hl
  have hx := S.1
  have hb := S.2.1
  refine lv_aload_n hx hb dX9_countOfCast_0 rfl (lv_at hl 0 rfl) ?_
  refine zz_get (v := .ref c0) S hw fgX9_50 0 rfl rfl dX9_countOfCast_1 ?_
  refine lv_aload_n hx hb dX9_countOfCast_4 rfl (lv_at hl 0 rfl) ?_
  refine zz_get (v := .ref sc) S hw fgX9_30 0 rfl rfl dX9_countOfCast_5 ?_
  refine lv_aload_n hx hb dX9_countOfCast_8 rfl (lv_at hl 0 rfl) ?_
  refine zz_get (v := .ref k0) S hw fgX9_40 0 rfl rfl dX9_countOfCast_9 ?_
  refine zz_callV (qb := 30) (As := [.ref sc, .ref k0]) (rest := []) (wr := [(ob0, .inr (9, [.ref ut, .int uf1, .ref h1, .int uf3, .ref sc, .ref dr0, .ref k0, .ref my0, .ref c0, .ref ga, .ref pa0, .ref t0, .ref sl0, .ref hd0])), (s5, .inl (G.2 0, 6, .inl m5)), (b3, .inl (G.2 0, 7, .inl e3))]) S hw hl.1 lX9_141 (c_gfill l G c0 a1 a2 wf af fi sd sc s1 s2 s3 s4 s5 s6 s7 s8 s9 w0 w1 w2 w3 x0 x1 x2 x3 x4 x5 x6 x7 x8 x9 x10 x11 pp pq i3 i4 m3 m4 m6 m7 fc f0 g0 n0 u0 z0_ f1 g1 n1 u1 z1_ f2 g2 n2 u2 z2_ f3 g3 n3 u3 z3_ k0 b1 b2 b3 b4 e1 e2 e4 o1 o2 o3 (by first | assumption | omega | exact Or.inr ⟨_, by omega, rfl⟩ | (unfold zz_sok; decide) | decide | exact (fun j hj => (hv7 j hj).1)) (by first | assumption | omega | exact Or.inr ⟨_, by omega, rfl⟩ | (unfold zz_sok; decide) | decide | exact (fun j hj => (hv7 j hj).1)) (by first | assumption | omega | exact Or.inr ⟨_, by omega, rfl⟩ | (unfold zz_sok; decide) | decide | exact (fun j hj => (hv7 j hj).1)) (by first | assumption | omega | exact Or.inr ⟨_, by omega, rfl⟩ | (unfold zz_sok; decide) | decide | exact (fun j hj => (hv7 j hj).1)) (by first | assumption | omega | exact Or.inr ⟨_, by omega, rfl⟩ | (unfold zz_sok; decide) | decide | exact (fun j hj => (hv7 j hj).1)) (by first | assumption | omega | exact Or.inr ⟨_, by omega, rfl⟩ | (unfold zz_sok; decide) | decide | exact (fun j hj => (hv7 j hj).1)) (by first | assumption | omega | exact Or.inr ⟨_, by omega, rfl⟩ | (unfold zz_sok; decide) | decide | exact (fun j hj => (hv7 j hj).1)) (by first | assumption | omega | exact Or.inr ⟨_, by omega, rfl⟩ | (unfold zz_sok; decide) | decide | exact (fun j hj => (hv7 j hj).1))) ⟨Nat.le_of_ble_eq_true rfl, Nat.le_of_ble_eq_true rfl⟩ ⟨Nat.le_of_ble_eq_true rfl, Nat.le_of_ble_eq_true rfl⟩ [30, 31, 32, 1, 2, 3, 4, 5, 6, 7, 8, 9, 10, 11, 12, 13, 14, 15, 16, 17, 18, 19, 20, 21, 22, 23, 25, 26, 27, 29] [0, 24, 28] (by decide +kernel) rfl rfl (by decide +kernel) (by decide +kernel) rfl rfl rfl rfl (Nat.le_of_ble_eq_true rfl) dX9_countOfCast_12 ?_
  clear hw
  intro rr u H locs hp hw
  refine hp.elim fun ww_1 zg0 => zg0.elim fun aa_2 zg1 => zg1.elim fun fi2_3 zg2 => zg2.elim fun sd2_4 zg3 => zg3.elim fun fcc_5 zg4 => zg4.elim fun zz0_6 zg5 => zg5.elim fun zz1_7 zg6 => zg6.elim fun zz2_8 zg7 => zg7.elim fun zz3_9 zg8 => zg8.elim fun zee1 zg9 => zg9.elim fun zee2 zg10 => zg10.elim fun hq12_0 zg11 => zg11.elim fun hq12_1 hq12_2 => ?_
  clear hp zg0 zg1 zg2 zg3 zg4 zg5 zg6 zg7 zg8 zg9 zg10 zg11
  subst zee1
  subst zee2
  replace hw : zz_w G A s [(ob0, .inr (9, [.ref ut, .int uf1, .ref h1, .int uf3, .ref sc, .ref dr0, .ref k0, .ref my0, .ref c0, .ref ga, .ref pa0, .ref t0, .ref sl0, .ref hd0])), (s5, .inl (G.2 0, 6, .inl m5)), (b3, .inl (G.2 0, 7, .inl e3)), (c0, .inr (0, [.ref a1, .ref a2, .int fi2_3, .int sd2_4])), (a1, .inl (G.2 0, 6, .inl ww_1)), (a2, .inl (G.2 0, 7, .inl aa_2)), (sc, .inr (5, [.ref s1, .ref s2, .ref s3, .ref s4, .ref s5, .ref s6, .ref s7, .ref s8, .ref s9, .int (nI pp), .int (nI pq), .int i3, .int i4])), (s3, .inl (G.2 0, 7, .inl m3)), (s4, .inl (G.2 0, 7, .inl m4)), (s6, .inl (G.2 0, 6, .inl m6)), (s7, .inl (G.2 0, 6, .inl m7)), (s9, .inl (G.2 0, 9, .inl fcc_5)), (s8, .inl (G.2 4, 4, .inr (.inr (.inr (.inr (va_up (va_up (va_up (va_up (fun _ => none) 0 (some w0)) 1 (some w1)) 2 (some w2)) 3 (some w3))))))), (w0, .inr (2, [.ref x0, .ref x1, .ref x2, .int (nI n0), .int (nI u0)])), (x0, .inl (G.2 0, 400, .inl f0)), (x1, .inl (G.2 0, 14, .inl g0)), (x2, .inl (G.2 0, 32, .inl zz0_6)), (w1, .inr (2, [.ref x3, .ref x4, .ref x5, .int (nI n1), .int (nI u1)])), (x3, .inl (G.2 0, 400, .inl f1)), (x4, .inl (G.2 0, 14, .inl g1)), (x5, .inl (G.2 0, 32, .inl zz1_7)), (w2, .inr (2, [.ref x6, .ref x7, .ref x8, .int (nI n2), .int (nI u2)])), (x6, .inl (G.2 0, 400, .inl f2)), (x7, .inl (G.2 0, 14, .inl g2)), (x8, .inl (G.2 0, 32, .inl zz2_8)), (w3, .inr (2, [.ref x9, .ref x10, .ref x11, .int (nI n3), .int (nI u3)])), (x9, .inl (G.2 0, 400, .inl f3)), (x10, .inl (G.2 0, 14, .inl g3)), (x11, .inl (G.2 0, 32, .inl zz3_9)), (k0, .inr (6, [.ref b1, .ref b2, .ref b3, .ref b4, .int o1, .int o2, .int o3])), (b1, .inl (G.2 0, 7, .inl e1)), (b2, .inl (G.2 0, 6, .inl e2)), (b4, .inl (G.2 0, 42, .inl e4))] H _ := hw
  refine W.eq (g2 := F0 m 15 ls []) rfl ?_
  refine lv_iload_n hx hb dX9_countOfCast_15 rfl (lv_at hl 1 rfl) ?_
  by_cases qw10_0 : (3 : Int) = (ar1 : Int32).toInt
  · skip
    refine lv_lookup (off := 44) (tgt := 60) hx hb dX9_countOfCast_16 (by decide) (by show (if (3 : Int) = (ar1 : Int32).toInt then (44 : Int) else (if (4 : Int) = (ar1 : Int32).toInt then (52 : Int) else (if (12 : Int) = (ar1 : Int32).toInt then (60 : Int) else (if (13 : Int) = (ar1 : Int32).toInt then (65 : Int) else (70 : Int))))) = _; rw [← qw10_0]; decide) (by decide) ?_
    refine lv_aload_n hx hb dX9_countOfCast_60 rfl (lv_at hl 0 rfl) ?_
    refine zz_get (v := .ref c0) S hw fgX9_50 0 rfl rfl dX9_countOfCast_61 ?_
    refine zz_get (v := .int fi2_3) S hw fgX9_261 3 rfl rfl dX9_countOfCast_64 ?_
    exact hret _ _ _ _ _ _ ⟨fi2_3, fcc_5, zz0_6, zz1_7, zz2_8, zz3_9, ww_1, aa_2, fi2_3, sd2_4, rfl, rfl, (by first | assumption | exact Or.inl rfl | exact Or.inr rfl | omega), (by first | assumption | exact Or.inl rfl | exact Or.inr rfl | omega)⟩ (hw.sub [0, 6, 7, 8, 9, 10, 11, 12, 13, 14, 15, 16, 17, 18, 19, 20, 21, 22, 23, 24, 25, 26, 27, 28, 1, 29, 30, 31, 2, 32, 3, 4, 5] (by decide +kernel) rfl) rfl dX9_countOfCast_67
  by_cases qw10_1 : (4 : Int) = (ar1 : Int32).toInt
  · skip
    refine lv_lookup (off := 52) (tgt := 68) hx hb dX9_countOfCast_16 (by decide) (by show (if (3 : Int) = (ar1 : Int32).toInt then (44 : Int) else (if (4 : Int) = (ar1 : Int32).toInt then (52 : Int) else (if (12 : Int) = (ar1 : Int32).toInt then (60 : Int) else (if (13 : Int) = (ar1 : Int32).toInt then (65 : Int) else (70 : Int))))) = _; rw [← qw10_1]; decide) (by decide) ?_
    refine lv_aload_n hx hb dX9_countOfCast_68 rfl (lv_at hl 0 rfl) ?_
    refine zz_get (v := .ref c0) S hw fgX9_50 0 rfl rfl dX9_countOfCast_69 ?_
    refine zz_get (v := .int sd2_4) S hw fgX9_207 3 rfl rfl dX9_countOfCast_72 ?_
    refine W.eq (g2 := F0 m 75 ls [.int sd2_4]) rfl ?_
    exact hret _ _ _ _ _ _ ⟨sd2_4, fcc_5, zz0_6, zz1_7, zz2_8, zz3_9, ww_1, aa_2, fi2_3, sd2_4, rfl, rfl, (by first | assumption | exact Or.inl rfl | exact Or.inr rfl | omega), (by first | assumption | exact Or.inl rfl | exact Or.inr rfl | omega)⟩ (hw.sub [0, 6, 7, 8, 9, 10, 11, 12, 13, 14, 15, 16, 17, 18, 19, 20, 21, 22, 23, 24, 25, 26, 27, 28, 1, 29, 30, 31, 2, 32, 3, 4, 5] (by decide +kernel) rfl) rfl dX9_countOfCast_75
  by_cases qw10_2 : (12 : Int) = (ar1 : Int32).toInt
  · skip
    refine lv_lookup (off := 60) (tgt := 76) hx hb dX9_countOfCast_16 (by decide) (by show (if (3 : Int) = (ar1 : Int32).toInt then (44 : Int) else (if (4 : Int) = (ar1 : Int32).toInt then (52 : Int) else (if (12 : Int) = (ar1 : Int32).toInt then (60 : Int) else (if (13 : Int) = (ar1 : Int32).toInt then (65 : Int) else (70 : Int))))) = _; rw [← qw10_2]; decide) (by decide) ?_
    refine lv_aload_n hx hb dX9_countOfCast_76 rfl (lv_at hl 0 rfl) ?_
    refine zz_callV (qb := 0) (As := []) (rest := []) (wr := [(s5, .inl (G.2 0, 6, .inl m5)), (s3, .inl (G.2 0, 7, .inl m3)), (s4, .inl (G.2 0, 7, .inl m4)), (s6, .inl (G.2 0, 6, .inl m6)), (s7, .inl (G.2 0, 6, .inl m7)), (s9, .inl (G.2 0, 9, .inl fcc_5)), (s8, .inl (G.2 4, 4, .inr (.inr (.inr (.inr (va_up (va_up (va_up (va_up (fun _ => none) 0 (some w0)) 1 (some w1)) 2 (some w2)) 3 (some w3))))))), (w0, .inr (2, [.ref x0, .ref x1, .ref x2, .int (nI n0), .int (nI u0)])), (x0, .inl (G.2 0, 400, .inl f0)), (x1, .inl (G.2 0, 14, .inl g0)), (x2, .inl (G.2 0, 32, .inl zz0_6)), (w1, .inr (2, [.ref x3, .ref x4, .ref x5, .int (nI n1), .int (nI u1)])), (x3, .inl (G.2 0, 400, .inl f1)), (x4, .inl (G.2 0, 14, .inl g1)), (x5, .inl (G.2 0, 32, .inl zz1_7)), (w2, .inr (2, [.ref x6, .ref x7, .ref x8, .int (nI n2), .int (nI u2)])), (x6, .inl (G.2 0, 400, .inl f2)), (x7, .inl (G.2 0, 14, .inl g2)), (x8, .inl (G.2 0, 32, .inl zz2_8)), (w3, .inr (2, [.ref x9, .ref x10, .ref x11, .int (nI n3), .int (nI u3)])), (x9, .inl (G.2 0, 400, .inl f3)), (x10, .inl (G.2 0, 14, .inl g3)), (x11, .inl (G.2 0, 32, .inl zz3_9))]) S hw hl.1 lX9_313 (c_g_idlePeople l G ob0 ut uf1 h1 uf3 sc dr0 k0 my0 c0 ga pa0 t0 sl0 hd0 s1 s2 s3 s4 s5 s6 s7 s8 s9 pp pq i3 i4 b1 b2 b3 b4 e1 e2 e3 e4 o1 o2 o3 a1 a2 ww_1 aa_2 fi2_3 sd2_4 (by first | assumption | omega | exact Or.inr ⟨_, by omega, rfl⟩ | (unfold zz_sok; decide) | decide | exact (fun j hj => (hv7 j hj).1)) (by first | assumption | omega | exact Or.inr ⟨_, by omega, rfl⟩ | (unfold zz_sok; decide) | decide | exact (fun j hj => (hv7 j hj).1)) (by first | assumption | omega | exact Or.inr ⟨_, by omega, rfl⟩ | (unfold zz_sok; decide) | decide | exact (fun j hj => (hv7 j hj).1)) (by first | assumption | omega | exact Or.inr ⟨_, by omega, rfl⟩ | (unfold zz_sok; decide) | decide | exact (fun j hj => (hv7 j hj).1))) ⟨Nat.le_of_ble_eq_true rfl, Nat.le_of_ble_eq_true rfl⟩ ⟨Nat.le_of_ble_eq_true rfl, Nat.le_of_ble_eq_true rfl⟩ [0, 6, 29, 30, 31, 2, 32, 3, 4, 5] [1, 7, 8, 9, 10, 11, 12, 13, 14, 15, 16, 17, 18, 19, 20, 21, 22, 23, 24, 25, 26, 27, 28] (by decide +kernel) rfl rfl (by decide +kernel) (by decide +kernel) rfl rfl rfl rfl (Nat.le_of_ble_eq_true rfl) dX9_countOfCast_77 ?_
    clear hw
    intro rr u H locs hp hw
    refine hp.elim fun rv_11 zg0 => zg0.elim fun ww_12 zg1 => zg1.elim fun aa_13 zg2 => zg2.elim fun fi2_14 zg3 => zg3.elim fun sd2_15 zg4 => zg4.elim fun zee1 zg5 => zg5.elim fun zee2 zg6 => zg6.elim fun hq77_0 hq77_1 => ?_
    clear hp zg0 zg1 zg2 zg3 zg4 zg5 zg6
    subst zee1
    subst zee2
    replace hw : zz_w G A s [(s5, .inl (G.2 0, 6, .inl m5)), (s3, .inl (G.2 0, 7, .inl m3)), (s4, .inl (G.2 0, 7, .inl m4)), (s6, .inl (G.2 0, 6, .inl m6)), (s7, .inl (G.2 0, 6, .inl m7)), (s9, .inl (G.2 0, 9, .inl fcc_5)), (s8, .inl (G.2 4, 4, .inr (.inr (.inr (.inr (va_up (va_up (va_up (va_up (fun _ => none) 0 (some w0)) 1 (some w1)) 2 (some w2)) 3 (some w3))))))), (w0, .inr (2, [.ref x0, .ref x1, .ref x2, .int (nI n0), .int (nI u0)])), (x0, .inl (G.2 0, 400, .inl f0)), (x1, .inl (G.2 0, 14, .inl g0)), (x2, .inl (G.2 0, 32, .inl zz0_6)), (w1, .inr (2, [.ref x3, .ref x4, .ref x5, .int (nI n1), .int (nI u1)])), (x3, .inl (G.2 0, 400, .inl f1)), (x4, .inl (G.2 0, 14, .inl g1)), (x5, .inl (G.2 0, 32, .inl zz1_7)), (w2, .inr (2, [.ref x6, .ref x7, .ref x8, .int (nI n2), .int (nI u2)])), (x6, .inl (G.2 0, 400, .inl f2)), (x7, .inl (G.2 0, 14, .inl g2)), (x8, .inl (G.2 0, 32, .inl zz2_8)), (w3, .inr (2, [.ref x9, .ref x10, .ref x11, .int (nI n3), .int (nI u3)])), (x9, .inl (G.2 0, 400, .inl f3)), (x10, .inl (G.2 0, 14, .inl g3)), (x11, .inl (G.2 0, 32, .inl zz3_9)), (ob0, .inr (9, [.ref ut, .int uf1, .ref h1, .int uf3, .ref sc, .ref dr0, .ref k0, .ref my0, .ref c0, .ref ga, .ref pa0, .ref t0, .ref sl0, .ref hd0])), (sc, .inr (5, [.ref s1, .ref s2, .ref s3, .ref s4, .ref s5, .ref s6, .ref s7, .ref s8, .ref s9, .int (nI pp), .int (nI pq), .int i3, .int i4])), (k0, .inr (6, [.ref b1, .ref b2, .ref b3, .ref b4, .int o1, .int o2, .int o3])), (b1, .inl (G.2 0, 7, .inl e1)), (b2, .inl (G.2 0, 6, .inl e2)), (b3, .inl (G.2 0, 7, .inl e3)), (b4, .inl (G.2 0, 42, .inl e4)), (c0, .inr (0, [.ref a1, .ref a2, .int fi2_14, .int sd2_15])), (a1, .inl (G.2 0, 6, .inl ww_12)), (a2, .inl (G.2 0, 7, .inl aa_13))] H _ := hw
    refine W.eq (g2 := F0 m 80 ls [.int rv_11]) rfl ?_
    exact hret _ _ _ _ _ _ ⟨rv_11, fcc_5, zz0_6, zz1_7, zz2_8, zz3_9, ww_12, aa_13, fi2_14, sd2_15, rfl, rfl, (by first | assumption | exact Or.inl rfl | exact Or.inr rfl | omega), (by first | assumption | exact Or.inl rfl | exact Or.inr rfl | omega)⟩ (hw.sub [23, 24, 1, 2, 3, 4, 5, 6, 7, 8, 9, 10, 11, 12, 13, 14, 15, 16, 17, 18, 19, 20, 21, 22, 0, 25, 26, 27, 28, 29, 30, 31, 32] (by decide +kernel) rfl) rfl dX9_countOfCast_80
  by_cases qw10_3 : (13 : Int) = (ar1 : Int32).toInt
  · skip
    refine lv_lookup (off := 65) (tgt := 81) hx hb dX9_countOfCast_16 (by decide) (by show (if (3 : Int) = (ar1 : Int32).toInt then (44 : Int) else (if (4 : Int) = (ar1 : Int32).toInt then (52 : Int) else (if (12 : Int) = (ar1 : Int32).toInt then (60 : Int) else (if (13 : Int) = (ar1 : Int32).toInt then (65 : Int) else (70 : Int))))) = _; rw [← qw10_3]; decide) (by decide) ?_
    refine lv_aload_n hx hb dX9_countOfCast_81 rfl (lv_at hl 0 rfl) ?_
    refine zz_callV (qb := 0) (As := []) (rest := []) (wr := [(s5, .inl (G.2 0, 6, .inl m5)), (s3, .inl (G.2 0, 7, .inl m3)), (s4, .inl (G.2 0, 7, .inl m4)), (s6, .inl (G.2 0, 6, .inl m6)), (s7, .inl (G.2 0, 6, .inl m7)), (s9, .inl (G.2 0, 9, .inl fcc_5)), (s8, .inl (G.2 4, 4, .inr (.inr (.inr (.inr (va_up (va_up (va_up (va_up (fun _ => none) 0 (some w0)) 1 (some w1)) 2 (some w2)) 3 (some w3))))))), (w0, .inr (2, [.ref x0, .ref x1, .ref x2, .int (nI n0), .int (nI u0)])), (x0, .inl (G.2 0, 400, .inl f0)), (x1, .inl (G.2 0, 14, .inl g0)), (x2, .inl (G.2 0, 32, .inl zz0_6)), (w1, .inr (2, [.ref x3, .ref x4, .ref x5, .int (nI n1), .int (nI u1)])), (x3, .inl (G.2 0, 400, .inl f1)), (x4, .inl (G.2 0, 14, .inl g1)), (x5, .inl (G.2 0, 32, .inl zz1_7)), (w2, .inr (2, [.ref x6, .ref x7, .ref x8, .int (nI n2), .int (nI u2)])), (x6, .inl (G.2 0, 400, .inl f2)), (x7, .inl (G.2 0, 14, .inl g2)), (x8, .inl (G.2 0, 32, .inl zz2_8)), (w3, .inr (2, [.ref x9, .ref x10, .ref x11, .int (nI n3), .int (nI u3)])), (x9, .inl (G.2 0, 400, .inl f3)), (x10, .inl (G.2 0, 14, .inl g3)), (x11, .inl (G.2 0, 32, .inl zz3_9))]) S hw hl.1 lX9_316 (c_g_hoursApartInCast l G ob0 ut uf1 h1 uf3 sc dr0 k0 my0 c0 ga pa0 t0 sl0 hd0 s1 s2 s3 s4 s5 s6 s7 s8 s9 pp pq i3 i4 b1 b2 b3 b4 e1 e2 e3 e4 o1 o2 o3 a1 a2 ww_1 aa_2 fi2_3 sd2_4 (by first | assumption | omega | exact Or.inr ⟨_, by omega, rfl⟩ | (unfold zz_sok; decide) | decide | exact (fun j hj => (hv7 j hj).1)) (by first | assumption | omega | exact Or.inr ⟨_, by omega, rfl⟩ | (unfold zz_sok; decide) | decide | exact (fun j hj => (hv7 j hj).1)) (by first | assumption | omega | exact Or.inr ⟨_, by omega, rfl⟩ | (unfold zz_sok; decide) | decide | exact (fun j hj => (hv7 j hj).1)) (by first | assumption | omega | exact Or.inr ⟨_, by omega, rfl⟩ | (unfold zz_sok; decide) | decide | exact (fun j hj => (hv7 j hj).1))) ⟨Nat.le_of_ble_eq_true rfl, Nat.le_of_ble_eq_true rfl⟩ ⟨Nat.le_of_ble_eq_true rfl, Nat.le_of_ble_eq_true rfl⟩ [0, 6, 29, 30, 31, 2, 32, 3, 4, 5] [1, 7, 8, 9, 10, 11, 12, 13, 14, 15, 16, 17, 18, 19, 20, 21, 22, 23, 24, 25, 26, 27, 28] (by decide +kernel) rfl rfl (by decide +kernel) (by decide +kernel) rfl rfl rfl rfl (Nat.le_of_ble_eq_true rfl) dX9_countOfCast_82 ?_
    clear hw
    intro rr u H locs hp hw
    refine hp.elim fun rv_16 zg0 => zg0.elim fun ww_17 zg1 => zg1.elim fun aa_18 zg2 => zg2.elim fun fi2_19 zg3 => zg3.elim fun sd2_20 zg4 => zg4.elim fun zee1 zg5 => zg5.elim fun zee2 zg6 => zg6.elim fun hq82_0 hq82_1 => ?_
    clear hp zg0 zg1 zg2 zg3 zg4 zg5 zg6
    subst zee1
    subst zee2
    replace hw : zz_w G A s [(s5, .inl (G.2 0, 6, .inl m5)), (s3, .inl (G.2 0, 7, .inl m3)), (s4, .inl (G.2 0, 7, .inl m4)), (s6, .inl (G.2 0, 6, .inl m6)), (s7, .inl (G.2 0, 6, .inl m7)), (s9, .inl (G.2 0, 9, .inl fcc_5)), (s8, .inl (G.2 4, 4, .inr (.inr (.inr (.inr (va_up (va_up (va_up (va_up (fun _ => none) 0 (some w0)) 1 (some w1)) 2 (some w2)) 3 (some w3))))))), (w0, .inr (2, [.ref x0, .ref x1, .ref x2, .int (nI n0), .int (nI u0)])), (x0, .inl (G.2 0, 400, .inl f0)), (x1, .inl (G.2 0, 14, .inl g0)), (x2, .inl (G.2 0, 32, .inl zz0_6)), (w1, .inr (2, [.ref x3, .ref x4, .ref x5, .int (nI n1), .int (nI u1)])), (x3, .inl (G.2 0, 400, .inl f1)), (x4, .inl (G.2 0, 14, .inl g1)), (x5, .inl (G.2 0, 32, .inl zz1_7)), (w2, .inr (2, [.ref x6, .ref x7, .ref x8, .int (nI n2), .int (nI u2)])), (x6, .inl (G.2 0, 400, .inl f2)), (x7, .inl (G.2 0, 14, .inl g2)), (x8, .inl (G.2 0, 32, .inl zz2_8)), (w3, .inr (2, [.ref x9, .ref x10, .ref x11, .int (nI n3), .int (nI u3)])), (x9, .inl (G.2 0, 400, .inl f3)), (x10, .inl (G.2 0, 14, .inl g3)), (x11, .inl (G.2 0, 32, .inl zz3_9)), (ob0, .inr (9, [.ref ut, .int uf1, .ref h1, .int uf3, .ref sc, .ref dr0, .ref k0, .ref my0, .ref c0, .ref ga, .ref pa0, .ref t0, .ref sl0, .ref hd0])), (sc, .inr (5, [.ref s1, .ref s2, .ref s3, .ref s4, .ref s5, .ref s6, .ref s7, .ref s8, .ref s9, .int (nI pp), .int (nI pq), .int i3, .int i4])), (k0, .inr (6, [.ref b1, .ref b2, .ref b3, .ref b4, .int o1, .int o2, .int o3])), (b1, .inl (G.2 0, 7, .inl e1)), (b2, .inl (G.2 0, 6, .inl e2)), (b3, .inl (G.2 0, 7, .inl e3)), (b4, .inl (G.2 0, 42, .inl e4)), (c0, .inr (0, [.ref a1, .ref a2, .int fi2_19, .int sd2_20])), (a1, .inl (G.2 0, 6, .inl ww_17)), (a2, .inl (G.2 0, 7, .inl aa_18))] H _ := hw
    refine W.eq (g2 := F0 m 85 ls [.int rv_16]) rfl ?_
    exact hret _ _ _ _ _ _ ⟨rv_16, fcc_5, zz0_6, zz1_7, zz2_8, zz3_9, ww_17, aa_18, fi2_19, sd2_20, rfl, rfl, (by first | assumption | exact Or.inl rfl | exact Or.inr rfl | omega), (by first | assumption | exact Or.inl rfl | exact Or.inr rfl | omega)⟩ (hw.sub [23, 24, 1, 2, 3, 4, 5, 6, 7, 8, 9, 10, 11, 12, 13, 14, 15, 16, 17, 18, 19, 20, 21, 22, 0, 25, 26, 27, 28, 29, 30, 31, 32] (by decide +kernel) rfl) rfl dX9_countOfCast_85
  refine lv_lookup (off := 70) (tgt := 86) hx hb dX9_countOfCast_16 (by decide) (by show (if (3 : Int) = (ar1 : Int32).toInt then (44 : Int) else (if (4 : Int) = (ar1 : Int32).toInt then (52 : Int) else (if (12 : Int) = (ar1 : Int32).toInt then (60 : Int) else (if (13 : Int) = (ar1 : Int32).toInt then (65 : Int) else (70 : Int))))) = _; rw [if_neg qw10_0, if_neg qw10_1, if_neg qw10_2, if_neg qw10_3]) (by decide) ?_
  refine lv_iconst (v := (-1)) hx hb dX9_countOfCast_86 (by decide) ?_
  exact hret _ _ _ _ _ _ ⟨(-1), fcc_5, zz0_6, zz1_7, zz2_8, zz3_9, ww_1, aa_2, fi2_3, sd2_4, rfl, rfl, (by first | assumption | exact Or.inl rfl | exact Or.inr rfl | omega), (by first | assumption | exact Or.inl rfl | exact Or.inr rfl | omega)⟩ (hw.sub [0, 6, 7, 8, 9, 10, 11, 12, 13, 14, 15, 16, 17, 18, 19, 20, 21, 22, 23, 24, 25, 26, 27, 28, 1, 29, 30, 31, 2, 32, 3, 4, 5] (by decide +kernel) rfl) rfl dX9_countOfCast_87
theorem kd_ncX9_count : kd_ck 2452765000984764735514953652417823202228796751685532554806561462408410296723622720704874841987409519381987334661479757849911769581685017760739398838066775986114735982902343451811368378529220553930535418973084421894942390175780410197469275550802723815160498549697796022781683609893153230790539458423685687119402683747130611049362480779274779 141 cX9_count.data.toList 0 = true := by decide +kernel
theorem dX9_count_0 : decode cX9_count 0 = .ok (.iload_n 1, 1) := kd_dk0 kd_o27 kd_ncX9_count rfl
theorem dX9_count_1 : decode cX9_count 1 = .ok (.tableswitch 134 0 11 #[63, 71, 79, 134, 134, 87, 92, 100, 108, 113, 121, 129], 63) := by decide +kernel
theorem dX9_count_64 : decode cX9_count 64 = .ok (.aload_n 0, 1) := kd_dk0 kd_o42 kd_ncX9_count rfl
theorem dX9_count_65 : decode cX9_count 65 = .ok (.getfield 30, 3) := kd_dk2 kd_o180 kd_ncX9_count rfl
theorem dX9_count_68 : decode cX9_count 68 = .ok (.getfield 105, 3) := kd_dk2 kd_o180 kd_ncX9_count rfl
theorem dX9_count_71 : decode cX9_count 71 = .ok (.ireturn, 1) := kd_dk0 kd_o172 kd_ncX9_count rfl
theorem dX9_count_72 : decode cX9_count 72 = .ok (.aload_n 0, 1) := kd_dk0 kd_o42 kd_ncX9_count rfl
theorem dX9_count_73 : decode cX9_count 73 = .ok (.getfield 30, 3) := kd_dk2 kd_o180 kd_ncX9_count rfl
theorem dX9_count_76 : decode cX9_count 76 = .ok (.getfield 108, 3) := kd_dk2 kd_o180 kd_ncX9_count rfl
theorem dX9_count_79 : decode cX9_count 79 = .ok (.ireturn, 1) := kd_dk0 kd_o172 kd_ncX9_count rfl
theorem dX9_count_80 : decode cX9_count 80 = .ok (.aload_n 0, 1) := kd_dk0 kd_o42 kd_ncX9_count rfl
theorem dX9_count_81 : decode cX9_count 81 = .ok (.getfield 40, 3) := kd_dk2 kd_o180 kd_ncX9_count rfl
theorem dX9_count_84 : decode cX9_count 84 = .ok (.getfield 197, 3) := kd_dk2 kd_o180 kd_ncX9_count rfl
theorem dX9_count_87 : decode cX9_count 87 = .ok (.ireturn, 1) := kd_dk0 kd_o172 kd_ncX9_count rfl
theorem dX9_count_88 : decode cX9_count 88 = .ok (.aload_n 0, 1) := kd_dk0 kd_o42 kd_ncX9_count rfl
theorem dX9_count_89 : decode cX9_count 89 = .ok (.invokevirtual 300, 3) := kd_dk2 kd_o182 kd_ncX9_count rfl
theorem dX9_count_92 : decode cX9_count 92 = .ok (.ireturn, 1) := kd_dk0 kd_o172 kd_ncX9_count rfl
theorem dX9_count_93 : decode cX9_count 93 = .ok (.aload_n 0, 1) := kd_dk0 kd_o42 kd_ncX9_count rfl
theorem dX9_count_94 : decode cX9_count 94 = .ok (.getfield 40, 3) := kd_dk2 kd_o180 kd_ncX9_count rfl
theorem dX9_count_97 : decode cX9_count 97 = .ok (.getfield 187, 3) := kd_dk2 kd_o180 kd_ncX9_count rfl
theorem dX9_count_100 : decode cX9_count 100 = .ok (.ireturn, 1) := kd_dk0 kd_o172 kd_ncX9_count rfl
theorem dX9_count_101 : decode cX9_count 101 = .ok (.aload_n 0, 1) := kd_dk0 kd_o42 kd_ncX9_count rfl
theorem dX9_count_102 : decode cX9_count 102 = .ok (.getfield 40, 3) := kd_dk2 kd_o180 kd_ncX9_count rfl
theorem dX9_count_105 : decode cX9_count 105 = .ok (.getfield 303, 3) := kd_dk2 kd_o180 kd_ncX9_count rfl
theorem dX9_count_108 : decode cX9_count 108 = .ok (.ireturn, 1) := kd_dk0 kd_o172 kd_ncX9_count rfl
theorem dX9_count_109 : decode cX9_count 109 = .ok (.aload_n 0, 1) := kd_dk0 kd_o42 kd_ncX9_count rfl
theorem dX9_count_110 : decode cX9_count 110 = .ok (.getfield 13, 3) := kd_dk2 kd_o180 kd_ncX9_count rfl
theorem dX9_count_113 : decode cX9_count 113 = .ok (.ireturn, 1) := kd_dk0 kd_o172 kd_ncX9_count rfl
theorem dX9_count_114 : decode cX9_count 114 = .ok (.aload_n 0, 1) := kd_dk0 kd_o42 kd_ncX9_count rfl
theorem dX9_count_115 : decode cX9_count 115 = .ok (.getfield 64, 3) := kd_dk2 kd_o180 kd_ncX9_count rfl
theorem dX9_count_118 : decode cX9_count 118 = .ok (.getfield 306, 3) := kd_dk2 kd_o180 kd_ncX9_count rfl
theorem dX9_count_121 : decode cX9_count 121 = .ok (.ireturn, 1) := kd_dk0 kd_o172 kd_ncX9_count rfl
theorem dX9_count_122 : decode cX9_count 122 = .ok (.aload_n 0, 1) := kd_dk0 kd_o42 kd_ncX9_count rfl
theorem dX9_count_123 : decode cX9_count 123 = .ok (.getfield 71, 3) := kd_dk2 kd_o180 kd_ncX9_count rfl
theorem dX9_count_126 : decode cX9_count 126 = .ok (.getfield 278, 3) := kd_dk2 kd_o180 kd_ncX9_count rfl
theorem dX9_count_129 : decode cX9_count 129 = .ok (.ireturn, 1) := kd_dk0 kd_o172 kd_ncX9_count rfl
theorem dX9_count_130 : decode cX9_count 130 = .ok (.aload_n 0, 1) := kd_dk0 kd_o42 kd_ncX9_count rfl
theorem dX9_count_131 : decode cX9_count 131 = .ok (.invokevirtual 307, 3) := kd_dk2 kd_o182 kd_ncX9_count rfl
theorem dX9_count_134 : decode cX9_count 134 = .ok (.ireturn, 1) := kd_dk0 kd_o172 kd_ncX9_count rfl
theorem dX9_count_135 : decode cX9_count 135 = .ok (.aload_n 0, 1) := kd_dk0 kd_o42 kd_ncX9_count rfl
theorem dX9_count_136 : decode cX9_count 136 = .ok (.iload_n 1, 1) := kd_dk0 kd_o27 kd_ncX9_count rfl
theorem dX9_count_137 : decode cX9_count 137 = .ok (.invokevirtual 310, 3) := kd_dk2 kd_o182 kd_ncX9_count rfl
theorem dX9_count_140 : decode cX9_count 140 = .ok (.ireturn, 1) := kd_dk0 kd_o172 kd_ncX9_count rfl
set_option maxHeartbeats 8000000 in
set_option maxRecDepth 100000 in
theorem c_g_count (l : Launch) (G : zz_G) (ob0 : Nat) (ut : Nat) (uf1 : Int32) (h1 : Nat) (uf3 : Int32) (sc : Nat) (dr0 : Nat) (k0 : Nat) (my0 : Nat) (c0 : Nat) (ga : Nat) (pa0 : Nat) (t0 : Nat) (sl0 : Nat) (hd0 : Nat) (s1 : Nat) (s2 : Nat) (s3 : Nat) (s4 : Nat) (s5 : Nat) (s6 : Nat) (s7 : Nat) (s8 : Nat) (s9 : Nat) (w0 : Nat) (w1 : Nat) (w2 : Nat) (w3 : Nat) (x0 : Nat) (x1 : Nat) (x2 : Nat) (x3 : Nat) (x4 : Nat) (x5 : Nat) (x6 : Nat) (x7 : Nat) (x8 : Nat) (x9 : Nat) (x10 : Nat) (x11 : Nat) (pp : Nat) (pq : Nat) (i3 : Int32) (i4 : Int32) (m3 : Nat → Int32) (m4 : Nat → Int32) (m6 : Nat → Int32) (m7 : Nat → Int32) (fc : Nat → Int32) (f0 : Nat → Int32) (g0 : Nat → Int32) (n0 : Nat) (u0 : Nat) (z0_ : Nat → Int32) (f1 : Nat → Int32) (g1 : Nat → Int32) (n1 : Nat) (u1 : Nat) (z1_ : Nat → Int32) (f2 : Nat → Int32) (g2 : Nat → Int32) (n2 : Nat) (u2 : Nat) (z2_ : Nat → Int32) (f3 : Nat → Int32) (g3 : Nat → Int32) (n3 : Nat) (u3 : Nat) (z3_ : Nat → Int32) (m5 : Nat → Int32) (b1 : Nat) (b2 : Nat) (b3 : Nat) (b4 : Nat) (e1 : Nat → Int32) (e2 : Nat → Int32) (e3 : Nat → Int32) (e4 : Nat → Int32) (o1 : Int32) (o2 : Int32) (o3 : Int32) (a1 : Nat) (a2 : Nat) (wf : Nat → Int32) (af : Nat → Int32) (fi : Int32) (sd : Int32) (pl0 : Nat) (pn : Nat) (pm : Nat) (t1 : Nat) (t2 : Nat) (t3 : Nat) (tp : Nat → Int32) (tw : Nat → Int32) (ts : Nat → Int32) (tm : Nat) (hf : Nat → Int32) (ar1 : Int32) (hv0 : zz_lwv f0 g0 n0 u0) (hv1 : zz_lwv f1 g1 n1 u1) (hv2 : zz_lwv f2 g2 n2 u2) (hv3 : zz_lwv f3 g3 n3 u3) (hpp : pp ≤ 7) (hpq : pq ≤ 6) (hw6 : ∀ j, j < 6 → zz_ok 7 (wf j)) (ha7 : ∀ j, j < 7 → zz_ok 6 (af j)) (hpn : pn < 40) (hpm : pm ≤ 40) (htm : tm ≤ 20) (htp : ∀ j, j < 20 → ∃ q : Nat, q < 6 ∧ tp j = nI q) : zz_M l G mX9_count 7 0 0 [.ref ob0, .int ar1] [(ob0, .inr (9, [.ref ut, .int uf1, .ref h1, .int uf3, .ref sc, .ref dr0, .ref k0, .ref my0, .ref c0, .ref ga, .ref pa0, .ref t0, .ref sl0, .ref hd0])), (sc, .inr (5, [.ref s1, .ref s2, .ref s3, .ref s4, .ref s5, .ref s6, .ref s7, .ref s8, .ref s9, .int (nI pp), .int (nI pq), .int i3, .int i4])), (s3, .inl (G.2 0, 7, .inl m3)), (s4, .inl (G.2 0, 7, .inl m4)), (s6, .inl (G.2 0, 6, .inl m6)), (s7, .inl (G.2 0, 6, .inl m7)), (s9, .inl (G.2 0, 9, .inl fc)), (s8, .inl (G.2 4, 4, .inr (.inr (.inr (.inr (va_up (va_up (va_up (va_up (fun _ => none) 0 (some w0)) 1 (some w1)) 2 (some w2)) 3 (some w3))))))), (w0, .inr (2, [.ref x0, .ref x1, .ref x2, .int (nI n0), .int (nI u0)])), (x0, .inl (G.2 0, 400, .inl f0)), (x1, .inl (G.2 0, 14, .inl g0)), (x2, .inl (G.2 0, 32, .inl z0_)), (w1, .inr (2, [.ref x3, .ref x4, .ref x5, .int (nI n1), .int (nI u1)])), (x3, .inl (G.2 0, 400, .inl f1)), (x4, .inl (G.2 0, 14, .inl g1)), (x5, .inl (G.2 0, 32, .inl z1_)), (w2, .inr (2, [.ref x6, .ref x7, .ref x8, .int (nI n2), .int (nI u2)])), (x6, .inl (G.2 0, 400, .inl f2)), (x7, .inl (G.2 0, 14, .inl g2)), (x8, .inl (G.2 0, 32, .inl z2_)), (w3, .inr (2, [.ref x9, .ref x10, .ref x11, .int (nI n3), .int (nI u3)])), (x9, .inl (G.2 0, 400, .inl f3)), (x10, .inl (G.2 0, 14, .inl g3)), (x11, .inl (G.2 0, 32, .inl z3_)), (s5, .inl (G.2 0, 6, .inl m5)), (k0, .inr (6, [.ref b1, .ref b2, .ref b3, .ref b4, .int o1, .int o2, .int o3])), (b1, .inl (G.2 0, 7, .inl e1)), (b2, .inl (G.2 0, 6, .inl e2)), (b3, .inl (G.2 0, 7, .inl e3)), (b4, .inl (G.2 0, 42, .inl e4)), (c0, .inr (0, [.ref a1, .ref a2, .int fi, .int sd])), (a1, .inl (G.2 0, 6, .inl wf)), (a2, .inl (G.2 0, 7, .inl af)), (pa0, .inr (3, [.ref pl0, .int (nI pn), .int (nI pm)])), (t0, .inr (8, [.ref t1, .ref t2, .ref t3, .int (nI tm)])), (t1, .inl (G.2 0, 20, .inl tp)), (t2, .inl (G.2 0, 20, .inl tw)), (t3, .inl (G.2 2, 20, .inl ts)), (hd0, .inl (G.2 2, 3, .inl hf))] (fun rr u => ∃ (rv : Int32), ∃ (fcc : Nat → Int32), ∃ (zz0 : Nat → Int32), ∃ (zz1 : Nat → Int32), ∃ (zz2 : Nat → Int32), ∃ (zz3 : Nat → Int32), ∃ (ww : Nat → Int32), ∃ (aa : Nat → Int32), ∃ (fi2 : Int32), ∃ (sd2 : Int32), rr = some (.int rv) ∧ u = [(ob0, .inr (9, [.ref ut, .int uf1, .ref h1, .int uf3, .ref sc, .ref dr0, .ref k0, .ref my0, .ref c0, .ref ga, .ref pa0, .ref t0, .ref sl0, .ref hd0])), (sc, .inr (5, [.ref s1, .ref s2, .ref s3, .ref s4, .ref s5, .ref s6, .ref s7, .ref s8, .ref s9, .int (nI pp), .int (nI pq), .int i3, .int i4])), (s3, .inl (G.2 0, 7, .inl m3)), (s4, .inl (G.2 0, 7, .inl m4)), (s6, .inl (G.2 0, 6, .inl m6)), (s7, .inl (G.2 0, 6, .inl m7)), (s9, .inl (G.2 0, 9, .inl fcc)), (s8, .inl (G.2 4, 4, .inr (.inr (.inr (.inr (va_up (va_up (va_up (va_up (fun _ => none) 0 (some w0)) 1 (some w1)) 2 (some w2)) 3 (some w3))))))), (w0, .inr (2, [.ref x0, .ref x1, .ref x2, .int (nI n0), .int (nI u0)])), (x0, .inl (G.2 0, 400, .inl f0)), (x1, .inl (G.2 0, 14, .inl g0)), (x2, .inl (G.2 0, 32, .inl zz0)), (w1, .inr (2, [.ref x3, .ref x4, .ref x5, .int (nI n1), .int (nI u1)])), (x3, .inl (G.2 0, 400, .inl f1)), (x4, .inl (G.2 0, 14, .inl g1)), (x5, .inl (G.2 0, 32, .inl zz1)), (w2, .inr (2, [.ref x6, .ref x7, .ref x8, .int (nI n2), .int (nI u2)])), (x6, .inl (G.2 0, 400, .inl f2)), (x7, .inl (G.2 0, 14, .inl g2)), (x8, .inl (G.2 0, 32, .inl zz2)), (w3, .inr (2, [.ref x9, .ref x10, .ref x11, .int (nI n3), .int (nI u3)])), (x9, .inl (G.2 0, 400, .inl f3)), (x10, .inl (G.2 0, 14, .inl g3)), (x11, .inl (G.2 0, 32, .inl zz3)), (s5, .inl (G.2 0, 6, .inl m5)), (k0, .inr (6, [.ref b1, .ref b2, .ref b3, .ref b4, .int o1, .int o2, .int o3])), (b1, .inl (G.2 0, 7, .inl e1)), (b2, .inl (G.2 0, 6, .inl e2)), (b3, .inl (G.2 0, 7, .inl e3)), (b4, .inl (G.2 0, 42, .inl e4)), (c0, .inr (0, [.ref a1, .ref a2, .int fi2, .int sd2])), (a1, .inl (G.2 0, 6, .inl ww)), (a2, .inl (G.2 0, 7, .inl aa)), (pa0, .inr (3, [.ref pl0, .int (nI pn), .int (nI pm)])), (t0, .inr (8, [.ref t1, .ref t2, .ref t3, .int (nI tm)])), (t1, .inl (G.2 0, 20, .inl tp)), (t2, .inl (G.2 0, 20, .inl tw)), (t3, .inl (G.2 2, 20, .inl ts)), (hd0, .inl (G.2 2, 3, .inl hf))] ∧ (∀ j, j < 6 → zz_ok 7 (ww j)) ∧ (∀ j, j < 7 → zz_ok 6 (aa j))) := by
  refine zz_enteri (by decide +kernel) (Nat.le_of_ble_eq_true rfl) ?_
  intro p e s m args below meth c A Q ls S hnm hret hw hl
  have hl : lv_has ls 2 [(0, .ref ob0), (1, .int ar1)] := hl
  have hx := S.1
  have hb := S.2.1
  refine lv_iload_n hx hb dX9_count_0 rfl (lv_at hl 1 rfl) ?_
  rcases zz_sw ar1 0 11 (by decide) (by decide) with hw1 | hw1
  · skip
    refine lv_tableOut (tgt := 135) hx hb dX9_count_1 hw1 (by decide) ?_
    refine lv_aload_n hx hb dX9_count_135 rfl (lv_at hl 0 rfl) ?_
    refine lv_iload_n hx hb dX9_count_136 rfl (lv_at hl 1 rfl) ?_
    refine zz_callV (qb := 0) (As := [.int ar1]) (rest := []) (wr := [(pa0, .inr (3, [.ref pl0, .int (nI pn), .int (nI pm)])), (t0, .inr (8, [.ref t1, .ref t2, .ref t3, .int (nI tm)])), (t1, .inl (G.2 0, 20, .inl tp)), (t2, .inl (G.2 0, 20, .inl tw)), (t3, .inl (G.2 2, 20, .inl ts)), (hd0, .inl (G.2 2, 3, .inl hf))]) S hw hl.1 lX9_310 (c_g_countOfCast l G ob0 ut uf1 h1 uf3 sc dr0 k0 my0 c0 ga pa0 t0 sl0 hd0 s1 s2 s3 s4 s5 s6 s7 s8 s9 w0 w1 w2 w3 x0 x1 x2 x3 x4 x5 x6 x7 x8 x9 x10 x11 pp pq i3 i4 m3 m4 m6 m7 fc f0 g0 n0 u0 z0_ f1 g1 n1 u1 z1_ f2 g2 n2 u2 z2_ f3 g3 n3 u3 z3_ m5 b1 b2 b3 b4 e1 e2 e3 e4 o1 o2 o3 a1 a2 wf af fi sd ar1 (by first | assumption | omega | exact Or.inr ⟨_, by omega, rfl⟩ | (unfold zz_sok; decide) | decide | exact (fun j hj => (hv7 j hj).1)) (by first | assumption | omega | exact Or.inr ⟨_, by omega, rfl⟩ | (unfold zz_sok; decide) | decide | exact (fun j hj => (hv7 j hj).1)) (by first | assumption | omega | exact Or.inr ⟨_, by omega, rfl⟩ | (unfold zz_sok; decide) | decide | exact (fun j hj => (hv7 j hj).1)) (by first | assumption | omega | exact Or.inr ⟨_, by omega, rfl⟩ | (unfold zz_sok; decide) | decide | exact (fun j hj => (hv7 j hj).1)) (by first | assumption | omega | exact Or.inr ⟨_, by omega, rfl⟩ | (unfold zz_sok; decide) | decide | exact (fun j hj => (hv7 j hj).1)) (by first | assumption | omega | exact Or.inr ⟨_, by omega, rfl⟩ | (unfold zz_sok; decide) | decide | exact (fun j hj => (hv7 j hj).1)) (by first | assumption | omega | exact Or.inr ⟨_, by omega, rfl⟩ | (unfold zz_sok; decide) | decide | exact (fun j hj => (hv7 j hj).1)) (by first | assumption | omega | exact Or.inr ⟨_, by omega, rfl⟩ | (unfold zz_sok; decide) | decide | exact (fun j hj => (hv7 j hj).1))) ⟨Nat.le_of_ble_eq_true rfl, Nat.le_of_ble_eq_true rfl⟩ ⟨Nat.le_of_ble_eq_true rfl, Nat.le_of_ble_eq_true rfl⟩ [0, 1, 2, 3, 4, 5, 6, 7, 8, 9, 10, 11, 12, 13, 14, 15, 16, 17, 18, 19, 20, 21, 22, 23, 24, 25, 26, 27, 28, 29, 30, 31, 32] [33, 34, 35, 36, 37, 38] (by decide +kernel) rfl rfl (by decide +kernel) (by decide +kernel) rfl rfl rfl rfl (Nat.le_of_ble_eq_true rfl) dX9_count_137 ?_
    clear hw
    intro rr u H locs hp hw
    refine hp.elim fun rv_2 zg0 => zg0.elim fun fcc_3 zg1 => zg1.elim fun zz0_4 zg2 => zg2.elim fun zz1_5 zg3 => zg3.elim fun zz2_6 zg4 => zg4.elim fun zz3_7 zg5 => zg5.elim fun ww_8 zg6 => zg6.elim fun aa_9 zg7 => zg7.elim fun fi2_10 zg8 => zg8.elim fun sd2_11 zg9 => zg9.elim fun zee1 zg10 => zg10.elim fun zee2 zg11 => zg11.elim fun hq137_0 hq137_1 => ?_
    clear hp zg0 zg1 zg2 zg3 zg4 zg5 zg6 zg7 zg8 zg9 zg10 zg11
    subst zee1
    subst zee2
    replace hw : zz_w G A s [(pa0, .inr (3, [.ref pl0, .int (nI pn), .int (nI pm)])), (t0, .inr (8, [.ref t1, .ref t2, .ref t3, .int (nI tm)])), (t1, .inl (G.2 0, 20, .inl tp)), (t2, .inl (G.2 0, 20, .inl tw)), (t3, .inl (G.2 2, 20, .inl ts)), (hd0, .inl (G.2 2, 3, .inl hf)), (ob0, .inr (9, [.ref ut, .int uf1, .ref h1, .int uf3, .ref sc, .ref dr0, .ref k0, .ref my0, .ref c0, .ref ga, .ref pa0, .ref t0, .ref sl0, .ref hd0])), (sc, .inr (5, [.ref s1, .ref s2, .ref s3, .ref s4, .ref s5, .ref s6, .ref s7, .ref s8, .ref s9, .int (nI pp), .int (nI pq), .int i3, .int i4])), (s3, .inl (G.2 0, 7, .inl m3)), (s4, .inl (G.2 0, 7, .inl m4)), (s6, .inl (G.2 0, 6, .inl m6)), (s7, .inl (G.2 0, 6, .inl m7)), (s9, .inl (G.2 0, 9, .inl fcc_3)), (s8, .inl (G.2 4, 4, .inr (.inr (.inr (.inr (va_up (va_up (va_up (va_up (fun _ => none) 0 (some w0)) 1 (some w1)) 2 (some w2)) 3 (some w3))))))), (w0, .inr (2, [.ref x0, .ref x1, .ref x2, .int (nI n0), .int (nI u0)])), (x0, .inl (G.2 0, 400, .inl f0)), (x1, .inl (G.2 0, 14, .inl g0)), (x2, .inl (G.2 0, 32, .inl zz0_4)), (w1, .inr (2, [.ref x3, .ref x4, .ref x5, .int (nI n1), .int (nI u1)])), (x3, .inl (G.2 0, 400, .inl f1)), (x4, .inl (G.2 0, 14, .inl g1)), (x5, .inl (G.2 0, 32, .inl zz1_5)), (w2, .inr (2, [.ref x6, .ref x7, .ref x8, .int (nI n2), .int (nI u2)])), (x6, .inl (G.2 0, 400, .inl f2)), (x7, .inl (G.2 0, 14, .inl g2)), (x8, .inl (G.2 0, 32, .inl zz2_6)), (w3, .inr (2, [.ref x9, .ref x10, .ref x11, .int (nI n3), .int (nI u3)])), (x9, .inl (G.2 0, 400, .inl f3)), (x10, .inl (G.2 0, 14, .inl g3)), (x11, .inl (G.2 0, 32, .inl zz3_7)), (s5, .inl (G.2 0, 6, .inl m5)), (k0, .inr (6, [.ref b1, .ref b2, .ref b3, .ref b4, .int o1, .int o2, .int o3])), (b1, .inl (G.2 0, 7, .inl e1)), (b2, .inl (G.2 0, 6, .inl e2)), (b3, .inl (G.2 0, 7, .inl e3)), (b4, .inl (G.2 0, 42, .inl e4)), (c0, .inr (0, [.ref a1, .ref a2, .int fi2_10, .int sd2_11])), (a1, .inl (G.2 0, 6, .inl ww_8)), (a2, .inl (G.2 0, 7, .inl aa_9))] H _ := hw
    refine W.eq (g2 := F0 m 140 ls [.int rv_2]) rfl ?_
    exact hret _ _ _ _ _ _ ⟨rv_2, fcc_3, zz0_4, zz1_5, zz2_6, zz3_7, ww_8, aa_9, fi2_10, sd2_11, rfl, rfl, (by first | assumption | exact Or.inl rfl | exact Or.inr rfl | omega), (by first | assumption | exact Or.inl rfl | exact Or.inr rfl | omega)⟩ (hw.sub [6, 7, 8, 9, 10, 11, 12, 13, 14, 15, 16, 17, 18, 19, 20, 21, 22, 23, 24, 25, 26, 27, 28, 29, 30, 31, 32, 33, 34, 35, 36, 37, 38, 0, 1, 2, 3, 4, 5] (by decide +kernel) rfl) rfl dX9_count_140
  · rcases (show (ar1 : Int32).toInt = 0 ∨ (ar1 : Int32).toInt = 1 ∨ (ar1 : Int32).toInt = 2 ∨ (ar1 : Int32).toInt = 3 ∨ (ar1 : Int32).toInt = 4 ∨ (ar1 : Int32).toInt = 5 ∨ (ar1 : Int32).toInt = 6 ∨ (ar1 : Int32).toInt = 7 ∨ (ar1 : Int32).toInt = 8 ∨ (ar1 : Int32).toInt = 9 ∨ (ar1 : Int32).toInt = 10 ∨ (ar1 : Int32).toInt = 11 by omega) with qw1 | qw1 | qw1 | qw1 | qw1 | qw1 | qw1 | qw1 | qw1 | qw1 | qw1 | qw1
    · skip
      refine lv_tableIn (off := 63) (tgt := 64) hx hb dX9_count_1 (by rw [qw1]; decide) (by rw [qw1]; decide) (by rw [qw1]; rfl) (by decide) ?_
      refine lv_aload_n hx hb dX9_count_64 rfl (lv_at hl 0 rfl) ?_
      refine zz_get (v := .ref sc) S hw fgX9_30 0 rfl rfl dX9_count_65 ?_
      refine zz_get (v := .int (nI pp)) S hw fgX9_105 1 rfl rfl dX9_count_68 ?_
      exact hret _ _ _ _ _ _ ⟨(nI pp), fc, z0_, z1_, z2_, z3_, wf, af, fi, sd, rfl, rfl, (by first | assumption | exact Or.inl rfl | exact Or.inr rfl | omega), (by first | assumption | exact Or.inl rfl | exact Or.inr rfl | omega)⟩ hw rfl dX9_count_71
    · skip
      refine lv_tableIn (off := 71) (tgt := 72) hx hb dX9_count_1 (by rw [qw1]; decide) (by rw [qw1]; decide) (by rw [qw1]; rfl) (by decide) ?_
      refine lv_aload_n hx hb dX9_count_72 rfl (lv_at hl 0 rfl) ?_
      refine zz_get (v := .ref sc) S hw fgX9_30 0 rfl rfl dX9_count_73 ?_
      refine zz_get (v := .int (nI pq)) S hw fgX9_108 1 rfl rfl dX9_count_76 ?_
      exact hret _ _ _ _ _ _ ⟨(nI pq), fc, z0_, z1_, z2_, z3_, wf, af, fi, sd, rfl, rfl, (by first | assumption | exact Or.inl rfl | exact Or.inr rfl | omega), (by first | assumption | exact Or.inl rfl | exact Or.inr rfl | omega)⟩ hw rfl dX9_count_79
    · skip
      refine lv_tableIn (off := 79) (tgt := 80) hx hb dX9_count_1 (by rw [qw1]; decide) (by rw [qw1]; decide) (by rw [qw1]; rfl) (by decide) ?_
      refine lv_aload_n hx hb dX9_count_80 rfl (lv_at hl 0 rfl) ?_
      refine zz_get (v := .ref k0) S hw fgX9_40 0 rfl rfl dX9_count_81 ?_
      refine zz_get (v := .int o2) S hw fgX9_197 25 rfl rfl dX9_count_84 ?_
      exact hret _ _ _ _ _ _ ⟨o2, fc, z0_, z1_, z2_, z3_, wf, af, fi, sd, rfl, rfl, (by first | assumption | exact Or.inl rfl | exact Or.inr rfl | omega), (by first | assumption | exact Or.inl rfl | exact Or.inr rfl | omega)⟩ hw rfl dX9_count_87
    · skip
      refine lv_tableIn (off := 134) (tgt := 135) hx hb dX9_count_1 (by rw [qw1]; decide) (by rw [qw1]; decide) (by rw [qw1]; rfl) (by decide) ?_
      refine lv_aload_n hx hb dX9_count_135 rfl (lv_at hl 0 rfl) ?_
      refine W.eq (g2 := F0 m 136 ls [.ref ob0]) rfl ?_
      refine lv_iload_n hx hb dX9_count_136 rfl (lv_at hl 1 rfl) ?_
      refine zz_callV (qb := 0) (As := [.int ar1]) (rest := []) (wr := [(pa0, .inr (3, [.ref pl0, .int (nI pn), .int (nI pm)])), (t0, .inr (8, [.ref t1, .ref t2, .ref t3, .int (nI tm)])), (t1, .inl (G.2 0, 20, .inl tp)), (t2, .inl (G.2 0, 20, .inl tw)), (t3, .inl (G.2 2, 20, .inl ts)), (hd0, .inl (G.2 2, 3, .inl hf))]) S hw hl.1 lX9_310 (c_g_countOfCast l G ob0 ut uf1 h1 uf3 sc dr0 k0 my0 c0 ga pa0 t0 sl0 hd0 s1 s2 s3 s4 s5 s6 s7 s8 s9 w0 w1 w2 w3 x0 x1 x2 x3 x4 x5 x6 x7 x8 x9 x10 x11 pp pq i3 i4 m3 m4 m6 m7 fc f0 g0 n0 u0 z0_ f1 g1 n1 u1 z1_ f2 g2 n2 u2 z2_ f3 g3 n3 u3 z3_ m5 b1 b2 b3 b4 e1 e2 e3 e4 o1 o2 o3 a1 a2 wf af fi sd ar1 (by first | assumption | omega | exact Or.inr ⟨_, by omega, rfl⟩ | (unfold zz_sok; decide) | decide | exact (fun j hj => (hv7 j hj).1)) (by first | assumption | omega | exact Or.inr ⟨_, by omega, rfl⟩ | (unfold zz_sok; decide) | decide | exact (fun j hj => (hv7 j hj).1)) (by first | assumption | omega | exact Or.inr ⟨_, by omega, rfl⟩ | (unfold zz_sok; decide) | decide | exact (fun j hj => (hv7 j hj).1)) (by first | assumption | omega | exact Or.inr ⟨_, by omega, rfl⟩ | (unfold zz_sok; decide) | decide | exact (fun j hj => (hv7 j hj).1)) (by first | assumption | omega | exact Or.inr ⟨_, by omega, rfl⟩ | (unfold zz_sok; decide) | decide | exact (fun j hj => (hv7 j hj).1)) (by first | assumption | omega | exact Or.inr ⟨_, by omega, rfl⟩ | (unfold zz_sok; decide) | decide | exact (fun j hj => (hv7 j hj).1)) (by first | assumption | omega | exact Or.inr ⟨_, by omega, rfl⟩ | (unfold zz_sok; decide) | decide | exact (fun j hj => (hv7 j hj).1)) (by first | assumption | omega | exact Or.inr ⟨_, by omega, rfl⟩ | (unfold zz_sok; decide) | decide | exact (fun j hj => (hv7 j hj).1))) ⟨Nat.le_of_ble_eq_true rfl, Nat.le_of_ble_eq_true rfl⟩ ⟨Nat.le_of_ble_eq_true rfl, Nat.le_of_ble_eq_true rfl⟩ [0, 1, 2, 3, 4, 5, 6, 7, 8, 9, 10, 11, 12, 13, 14, 15, 16, 17, 18, 19, 20, 21, 22, 23, 24, 25, 26, 27, 28, 29, 30, 31, 32] [33, 34, 35, 36, 37, 38] (by decide +kernel) rfl rfl (by decide +kernel) (by decide +kernel) rfl rfl rfl rfl (Nat.le_of_ble_eq_true rfl) dX9_count_137 ?_
      clear hw
      intro rr u H locs hp hw
      refine hp.elim fun rv_12 zg0 => zg0.elim fun fcc_13 zg1 => zg1.elim fun zz0_14 zg2 => zg2.elim fun zz1_15 zg3 => zg3.elim fun zz2_16 zg4 => zg4.elim fun zz3_17 zg5 => zg5.elim fun ww_18 zg6 => zg6.elim fun aa_19 zg7 => zg7.elim fun fi2_20 zg8 => zg8.elim fun sd2_21 zg9 => zg9.elim fun zee1 zg10 => zg10.elim fun zee2 zg11 => zg11.elim fun hq137_0 hq137_1 => ?_
      clear hp zg0 zg1 zg2 zg3 zg4 zg5 zg6 zg7 zg8 zg9 zg10 zg11
      subst zee1
      subst zee2
      replace hw : zz_w G A s [(pa0, .inr (3, [.ref pl0, .int (nI pn), .int (nI pm)])), (t0, .inr (8, [.ref t1, .ref t2, .ref t3, .int (nI tm)])), (t1, .inl (G.2 0, 20, .inl tp)), (t2, .inl (G.2 0, 20, .inl tw)), (t3, .inl (G.2 2, 20, .inl ts)), (hd0, .inl (G.2 2, 3, .inl hf)), (ob0, .inr (9, [.ref ut, .int uf1, .ref h1, .int uf3, .ref sc, .ref dr0, .ref k0, .ref my0, .ref c0, .ref ga, .ref pa0, .ref t0, .ref sl0, .ref hd0])), (sc, .inr (5, [.ref s1, .ref s2, .ref s3, .ref s4, .ref s5, .ref s6, .ref s7, .ref s8, .ref s9, .int (nI pp), .int (nI pq), .int i3, .int i4])), (s3, .inl (G.2 0, 7, .inl m3)), (s4, .inl (G.2 0, 7, .inl m4)), (s6, .inl (G.2 0, 6, .inl m6)), (s7, .inl (G.2 0, 6, .inl m7)), (s9, .inl (G.2 0, 9, .inl fcc_13)), (s8, .inl (G.2 4, 4, .inr (.inr (.inr (.inr (va_up (va_up (va_up (va_up (fun _ => none) 0 (some w0)) 1 (some w1)) 2 (some w2)) 3 (some w3))))))), (w0, .inr (2, [.ref x0, .ref x1, .ref x2, .int (nI n0), .int (nI u0)])), (x0, .inl (G.2 0, 400, .inl f0)), (x1, .inl (G.2 0, 14, .inl g0)), (x2, .inl (G.2 0, 32, .inl zz0_14)), (w1, .inr (2, [.ref x3, .ref x4, .ref x5, .int (nI n1), .int (nI u1)])), (x3, .inl (G.2 0, 400, .inl f1)), (x4, .inl (G.2 0, 14, .inl g1)), (x5, .inl (G.2 0, 32, .inl zz1_15)), (w2, .inr (2, [.ref x6, .ref x7, .ref x8, .int (nI n2), .int (nI u2)])), (x6, .inl (G.2 0, 400, .inl f2)), (x7, .inl (G.2 0, 14, .inl g2)), (x8, .inl (G.2 0, 32, .inl zz2_16)), (w3, .inr (2, [.ref x9, .ref x10, .ref x11, .int (nI n3), .int (nI u3)])), (x9, .inl (G.2 0, 400, .inl f3)), (x10, .inl (G.2 0, 14, .inl g3)), (x11, .inl (G.2 0, 32, .inl zz3_17)), (s5, .inl (G.2 0, 6, .inl m5)), (k0, .inr (6, [.ref b1, .ref b2, .ref b3, .ref b4, .int o1, .int o2, .int o3])), (b1, .inl (G.2 0, 7, .inl e1)), (b2, .inl (G.2 0, 6, .inl e2)), (b3, .inl (G.2 0, 7, .inl e3)), (b4, .inl (G.2 0, 42, .inl e4)), (c0, .inr (0, [.ref a1, .ref a2, .int fi2_20, .int sd2_21])), (a1, .inl (G.2 0, 6, .inl ww_18)), (a2, .inl (G.2 0, 7, .inl aa_19))] H _ := hw
      refine W.eq (g2 := F0 m 140 ls [.int rv_12]) rfl ?_
      exact hret _ _ _ _ _ _ ⟨rv_12, fcc_13, zz0_14, zz1_15, zz2_16, zz3_17, ww_18, aa_19, fi2_20, sd2_21, rfl, rfl, (by first | assumption | exact Or.inl rfl | exact Or.inr rfl | omega), (by first | assumption | exact Or.inl rfl | exact Or.inr rfl | omega)⟩ (hw.sub [6, 7, 8, 9, 10, 11, 12, 13, 14, 15, 16, 17, 18, 19, 20, 21, 22, 23, 24, 25, 26, 27, 28, 29, 30, 31, 32, 33, 34, 35, 36, 37, 38, 0, 1, 2, 3, 4, 5] (by decide +kernel) rfl) rfl dX9_count_140
    · skip
      refine lv_tableIn (off := 134) (tgt := 135) hx hb dX9_count_1 (by rw [qw1]; decide) (by rw [qw1]; decide) (by rw [qw1]; rfl) (by decide) ?_
      refine lv_aload_n hx hb dX9_count_135 rfl (lv_at hl 0 rfl) ?_
      refine lv_iload_n hx hb dX9_count_136 rfl (lv_at hl 1 rfl) ?_
      refine zz_callV (qb := 0) (As := [.int ar1]) (rest := []) (wr := [(pa0, .inr (3, [.ref pl0, .int (nI pn), .int (nI pm)])), (t0, .inr (8, [.ref t1, .ref t2, .ref t3, .int (nI tm)])), (t1, .inl (G.2 0, 20, .inl tp)), (t2, .inl (G.2 0, 20, .inl tw)), (t3, .inl (G.2 2, 20, .inl ts)), (hd0, .inl (G.2 2, 3, .inl hf))]) S hw hl.1 lX9_310 (c_g_countOfCast l G ob0 ut uf1 h1 uf3 sc dr0 k0 my0 c0 ga pa0 t0 sl0 hd0 s1 s2 s3 s4 s5 s6 s7 s8 s9 w0 w1 w2 w3 x0 x1 x2 x3 x4 x5 x6 x7 x8 x9 x10 x11 pp pq i3 i4 m3 m4 m6 m7 fc f0 g0 n0 u0 z0_ f1 g1 n1 u1 z1_ f2 g2 n2 u2 z2_ f3 g3 n3 u3 z3_ m5 b1 b2 b3 b4 e1 e2 e3 e4 o1 o2 o3 a1 a2 wf af fi sd ar1 (by first | assumption | omega | exact Or.inr ⟨_, by omega, rfl⟩ | (unfold zz_sok; decide) | decide | exact (fun j hj => (hv7 j hj).1)) (by first | assumption | omega | exact Or.inr ⟨_, by omega, rfl⟩ | (unfold zz_sok; decide) | decide | exact (fun j hj => (hv7 j hj).1)) (by first | assumption | omega | exact Or.inr ⟨_, by omega, rfl⟩ | (unfold zz_sok; decide) | decide | exact (fun j hj => (hv7 j hj).1)) (by first | assumption | omega | exact Or.inr ⟨_, by omega, rfl⟩ | (unfold zz_sok; decide) | decide | exact (fun j hj => (hv7 j hj).1)) (by first | assumption | omega | exact Or.inr ⟨_, by omega, rfl⟩ | (unfold zz_sok; decide) | decide | exact (fun j hj => (hv7 j hj).1)) (by first | assumption | omega | exact Or.inr ⟨_, by omega, rfl⟩ | (unfold zz_sok; decide) | decide | exact (fun j hj => (hv7 j hj).1)) (by first | assumption | omega | exact Or.inr ⟨_, by omega, rfl⟩ | (unfold zz_sok; decide) | decide | exact (fun j hj => (hv7 j hj).1)) (by first | assumption | omega | exact Or.inr ⟨_, by omega, rfl⟩ | (unfold zz_sok; decide) | decide | exact (fun j hj => (hv7 j hj).1))) ⟨Nat.le_of_ble_eq_true rfl, Nat.le_of_ble_eq_true rfl⟩ ⟨Nat.le_of_ble_eq_true rfl, Nat.le_of_ble_eq_true rfl⟩ [0, 1, 2, 3, 4, 5, 6, 7, 8, 9, 10, 11, 12, 13, 14, 15, 16, 17, 18, 19, 20, 21, 22, 23, 24, 25, 26, 27, 28, 29, 30, 31, 32] [33, 34, 35, 36, 37, 38] (by decide +kernel) rfl rfl (by decide +kernel) (by decide +kernel) rfl rfl rfl rfl (Nat.le_of_ble_eq_true rfl) dX9_count_137 ?_
      clear hw
      intro rr u H locs hp hw
      refine hp.elim fun rv_22 zg0 => zg0.elim fun fcc_23 zg1 => zg1.elim fun zz0_24 zg2 => zg2.elim fun zz1_25 zg3 => zg3.elim fun zz2_26 zg4 => zg4.elim fun zz3_27 zg5 => zg5.elim fun ww_28 zg6 => zg6.elim fun aa_29 zg7 => zg7.elim fun fi2_30 zg8 => zg8.elim fun sd2_31 zg9 => zg9.elim fun zee1 zg10 => zg10.elim fun zee2 zg11 => zg11.elim fun hq137_0 hq137_1 => ?_
      clear hp zg0 zg1 zg2 zg3 zg4 zg5 zg6 zg7 zg8 zg9 zg10 zg11
      subst zee1
      subst zee2
      replace hw : zz_w G A s [(pa0, .inr (3, [.ref pl0, .int (nI pn), .int (nI pm)])), (t0, .inr (8, [.ref t1, .ref t2, .ref t3, .int (nI tm)])), (t1, .inl (G.2 0, 20, .inl tp)), (t2, .inl (G.2 0, 20, .inl tw)), (t3, .inl (G.2 2, 20, .inl ts)), (hd0, .inl (G.2 2, 3, .inl hf)), (ob0, .inr (9, [.ref ut, .int uf1, .ref h1, .int uf3, .ref sc, .ref dr0, .ref k0, .ref my0, .ref c0, .ref ga, .ref pa0, .ref t0, .ref sl0, .ref hd0])), (sc, .inr (5, [.ref s1, .ref s2, .ref s3, .ref s4, .ref s5, .ref s6, .ref s7, .ref s8, .ref s9, .int (nI pp), .int (nI pq), .int i3, .int i4])), (s3, .inl (G.2 0, 7, .inl m3)), (s4, .inl (G.2 0, 7, .inl m4)), (s6, .inl (G.2 0, 6, .inl m6)), (s7, .inl (G.2 0, 6, .inl m7)), (s9, .inl (G.2 0, 9, .inl fcc_23)), (s8, .inl (G.2 4, 4, .inr (.inr (.inr (.inr (va_up (va_up (va_up (va_up (fun _ => none) 0 (some w0)) 1 (some w1)) 2 (some w2)) 3 (some w3))))))), (w0, .inr (2, [.ref x0, .ref x1, .ref x2, .int (nI n0), .int (nI u0)])), (x0, .inl (G.2 0, 400, .inl f0)), (x1, .inl (G.2 0, 14, .inl g0)), (x2, .inl (G.2 0, 32, .inl zz0_24)), (w1, .inr (2, [.ref x3, .ref x4, .ref x5, .int (nI n1), .int (nI u1)])), (x3, .inl (G.2 0, 400, .inl f1)), (x4, .inl (G.2 0, 14, .inl g1)), (x5, .inl (G.2 0, 32, .inl zz1_25)), (w2, .inr (2, [.ref x6, .ref x7, .ref x8, .int (nI n2), .int (nI u2)])), (x6, .inl (G.2 0, 400, .inl f2)), (x7, .inl (G.2 0, 14, .inl g2)), (x8, .inl (G.2 0, 32, .inl zz2_26)), (w3, .inr (2, [.ref x9, .ref x10, .ref x11, .int (nI n3), .int (nI u3)])), (x9, .inl (G.2 0, 400, .inl f3)), (x10, .inl (G.2 0, 14, .inl g3)), (x11, .inl (G.2 0, 32, .inl zz3_27)), (s5, .inl (G.2 0, 6, .inl m5)), (k0, .inr (6, [.ref b1, .ref b2, .ref b3, .ref b4, .int o1, .int o2, .int o3])), (b1, .inl (G.2 0, 7, .inl e1)), (b2, .inl (G.2 0, 6, .inl e2)), (b3, .inl (G.2 0, 7, .inl e3)), (b4, .inl (G.2 0, 42, .inl e4)), (c0, .inr (0, [.ref a1, .ref a2, .int fi2_30, .int sd2_31])), (a1, .inl (G.2 0, 6, .inl ww_28)), (a2, .inl (G.2 0, 7, .inl aa_29))] H _ := hw
      refine W.eq (g2 := F0 m 140 ls [.int rv_22]) rfl ?_
      exact hret _ _ _ _ _ _ ⟨rv_22, fcc_23, zz0_24, zz1_25, zz2_26, zz3_27, ww_28, aa_29, fi2_30, sd2_31, rfl, rfl, (by first | assumption | exact Or.inl rfl | exact Or.inr rfl | omega), (by first | assumption | exact Or.inl rfl | exact Or.inr rfl | omega)⟩ (hw.sub [6, 7, 8, 9, 10, 11, 12, 13, 14, 15, 16, 17, 18, 19, 20, 21, 22, 23, 24, 25, 26, 27, 28, 29, 30, 31, 32, 33, 34, 35, 36, 37, 38, 0, 1, 2, 3, 4, 5] (by decide +kernel) rfl) rfl dX9_count_140
    · skip
      refine lv_tableIn (off := 87) (tgt := 88) hx hb dX9_count_1 (by rw [qw1]; decide) (by rw [qw1]; decide) (by rw [qw1]; rfl) (by decide) ?_
      refine lv_aload_n hx hb dX9_count_88 rfl (lv_at hl 0 rfl) ?_
      refine zz_callV (qb := 0) (As := []) (rest := []) (wr := [(s3, .inl (G.2 0, 7, .inl m3)), (s4, .inl (G.2 0, 7, .inl m4)), (s6, .inl (G.2 0, 6, .inl m6)), (s7, .inl (G.2 0, 6, .inl m7)), (s9, .inl (G.2 0, 9, .inl fc)), (s8, .inl (G.2 4, 4, .inr (.inr (.inr (.inr (va_up (va_up (va_up (va_up (fun _ => none) 0 (some w0)) 1 (some w1)) 2 (some w2)) 3 (some w3))))))), (w0, .inr (2, [.ref x0, .ref x1, .ref x2, .int (nI n0), .int (nI u0)])), (x0, .inl (G.2 0, 400, .inl f0)), (x1, .inl (G.2 0, 14, .inl g0)), (x2, .inl (G.2 0, 32, .inl z0_)), (w1, .inr (2, [.ref x3, .ref x4, .ref x5, .int (nI n1), .int (nI u1)])), (x3, .inl (G.2 0, 400, .inl f1)), (x4, .inl (G.2 0, 14, .inl g1)), (x5, .inl (G.2 0, 32, .inl z1_)), (w2, .inr (2, [.ref x6, .ref x7, .ref x8, .int (nI n2), .int (nI u2)])), (x6, .inl (G.2 0, 400, .inl f2)), (x7, .inl (G.2 0, 14, .inl g2)), (x8, .inl (G.2 0, 32, .inl z2_)), (w3, .inr (2, [.ref x9, .ref x10, .ref x11, .int (nI n3), .int (nI u3)])), (x9, .inl (G.2 0, 400, .inl f3)), (x10, .inl (G.2 0, 14, .inl g3)), (x11, .inl (G.2 0, 32, .inl z3_)), (s5, .inl (G.2 0, 6, .inl m5)), (c0, .inr (0, [.ref a1, .ref a2, .int fi, .int sd])), (a1, .inl (G.2 0, 6, .inl wf)), (a2, .inl (G.2 0, 7, .inl af)), (pa0, .inr (3, [.ref pl0, .int (nI pn), .int (nI pm)])), (t0, .inr (8, [.ref t1, .ref t2, .ref t3, .int (nI tm)])), (t1, .inl (G.2 0, 20, .inl tp)), (t2, .inl (G.2 0, 20, .inl tw)), (t3, .inl (G.2 2, 20, .inl ts)), (hd0, .inl (G.2 2, 3, .inl hf))]) S hw hl.1 lX9_300 (c_g_marksOfAll l G ob0 ut uf1 h1 uf3 sc dr0 k0 my0 c0 ga pa0 t0 sl0 hd0 s1 s2 s3 s4 s5 s6 s7 s8 s9 pp pq i3 i4 b1 b2 b3 b4 e1 e2 e3 e4 o1 o2 o3 (by first | assumption | omega | exact Or.inr ⟨_, by omega, rfl⟩ | (unfold zz_sok; decide) | decide | exact (fun j hj => (hv7 j hj).1)) (by first | assumption | omega | exact Or.inr ⟨_, by omega, rfl⟩ | (unfold zz_sok; decide) | decide | exact (fun j hj => (hv7 j hj).1))) ⟨Nat.le_of_ble_eq_true rfl, Nat.le_of_ble_eq_true rfl⟩ ⟨Nat.le_of_ble_eq_true rfl, Nat.le_of_ble_eq_true rfl⟩ [0, 1, 25, 26, 27, 28, 29] [2, 3, 4, 5, 6, 7, 8, 9, 10, 11, 12, 13, 14, 15, 16, 17, 18, 19, 20, 21, 22, 23, 24, 30, 31, 32, 33, 34, 35, 36, 37, 38] (by decide +kernel) rfl rfl (by decide +kernel) (by decide +kernel) rfl rfl rfl rfl (Nat.le_of_ble_eq_true rfl) dX9_count_89 ?_
      clear hw
      intro rr u H locs hp hw
      refine hp.elim fun rv_32 zg0 => zg0.elim fun zee1 zee2 => ?_
      clear hp zg0
      subst zee1
      subst zee2
      replace hw : zz_w G A s [(s3, .inl (G.2 0, 7, .inl m3)), (s4, .inl (G.2 0, 7, .inl m4)), (s6, .inl (G.2 0, 6, .inl m6)), (s7, .inl (G.2 0, 6, .inl m7)), (s9, .inl (G.2 0, 9, .inl fc)), (s8, .inl (G.2 4, 4, .inr (.inr (.inr (.inr (va_up (va_up (va_up (va_up (fun _ => none) 0 (some w0)) 1 (some w1)) 2 (some w2)) 3 (some w3))))))), (w0, .inr (2, [.ref x0, .ref x1, .ref x2, .int (nI n0), .int (nI u0)])), (x0, .inl (G.2 0, 400, .inl f0)), (x1, .inl (G.2 0, 14, .inl g0)), (x2, .inl (G.2 0, 32, .inl z0_)), (w1, .inr (2, [.ref x3, .ref x4, .ref x5, .int (nI n1), .int (nI u1)])), (x3, .inl (G.2 0, 400, .inl f1)), (x4, .inl (G.2 0, 14, .inl g1)), (x5, .inl (G.2 0, 32, .inl z1_)), (w2, .inr (2, [.ref x6, .ref x7, .ref x8, .int (nI n2), .int (nI u2)])), (x6, .inl (G.2 0, 400, .inl f2)), (x7, .inl (G.2 0, 14, .inl g2)), (x8, .inl (G.2 0, 32, .inl z2_)), (w3, .inr (2, [.ref x9, .ref x10, .ref x11, .int (nI n3), .int (nI u3)])), (x9, .inl (G.2 0, 400, .inl f3)), (x10, .inl (G.2 0, 14, .inl g3)), (x11, .inl (G.2 0, 32, .inl z3_)), (s5, .inl (G.2 0, 6, .inl m5)), (c0, .inr (0, [.ref a1, .ref a2, .int fi, .int sd])), (a1, .inl (G.2 0, 6, .inl wf)), (a2, .inl (G.2 0, 7, .inl af)), (pa0, .inr (3, [.ref pl0, .int (nI pn), .int (nI pm)])), (t0, .inr (8, [.ref t1, .ref t2, .ref t3, .int (nI tm)])), (t1, .inl (G.2 0, 20, .inl tp)), (t2, .inl (G.2 0, 20, .inl tw)), (t3, .inl (G.2 2, 20, .inl ts)), (hd0, .inl (G.2 2, 3, .inl hf)), (ob0, .inr (9, [.ref ut, .int uf1, .ref h1, .int uf3, .ref sc, .ref dr0, .ref k0, .ref my0, .ref c0, .ref ga, .ref pa0, .ref t0, .ref sl0, .ref hd0])), (sc, .inr (5, [.ref s1, .ref s2, .ref s3, .ref s4, .ref s5, .ref s6, .ref s7, .ref s8, .ref s9, .int (nI pp), .int (nI pq), .int i3, .int i4])), (k0, .inr (6, [.ref b1, .ref b2, .ref b3, .ref b4, .int o1, .int o2, .int o3])), (b1, .inl (G.2 0, 7, .inl e1)), (b2, .inl (G.2 0, 6, .inl e2)), (b3, .inl (G.2 0, 7, .inl e3)), (b4, .inl (G.2 0, 42, .inl e4))] H _ := hw
      refine W.eq (g2 := F0 m 92 ls [.int rv_32]) rfl ?_
      exact hret _ _ _ _ _ _ ⟨rv_32, fc, z0_, z1_, z2_, z3_, wf, af, fi, sd, rfl, rfl, (by first | assumption | exact Or.inl rfl | exact Or.inr rfl | omega), (by first | assumption | exact Or.inl rfl | exact Or.inr rfl | omega)⟩ (hw.sub [32, 33, 0, 1, 2, 3, 4, 5, 6, 7, 8, 9, 10, 11, 12, 13, 14, 15, 16, 17, 18, 19, 20, 21, 22, 34, 35, 36, 37, 38, 23, 24, 25, 26, 27, 28, 29, 30, 31] (by decide +kernel) rfl) rfl dX9_count_92
    · skip
      refine lv_tableIn (off := 92) (tgt := 93) hx hb dX9_count_1 (by rw [qw1]; decide) (by rw [qw1]; decide) (by rw [qw1]; rfl) (by decide) ?_
      refine lv_aload_n hx hb dX9_count_93 rfl (lv_at hl 0 rfl) ?_
      refine zz_get (v := .ref k0) S hw fgX9_40 0 rfl rfl dX9_count_94 ?_
      refine zz_get (v := .int o1) S hw fgX9_187 25 rfl rfl dX9_count_97 ?_
      exact hret _ _ _ _ _ _ ⟨o1, fc, z0_, z1_, z2_, z3_, wf, af, fi, sd, rfl, rfl, (by first | assumption | exact Or.inl rfl | exact Or.inr rfl | omega), (by first | assumption | exact Or.inl rfl | exact Or.inr rfl | omega)⟩ hw rfl dX9_count_100
    · skip
      refine lv_tableIn (off := 100) (tgt := 101) hx hb dX9_count_1 (by rw [qw1]; decide) (by rw [qw1]; decide) (by rw [qw1]; rfl) (by decide) ?_
      refine lv_aload_n hx hb dX9_count_101 rfl (lv_at hl 0 rfl) ?_
      refine zz_get (v := .ref k0) S hw fgX9_40 0 rfl rfl dX9_count_102 ?_
      refine zz_get (v := .int o3) S hw fgX9_303 25 rfl rfl dX9_count_105 ?_
      exact hret _ _ _ _ _ _ ⟨o3, fc, z0_, z1_, z2_, z3_, wf, af, fi, sd, rfl, rfl, (by first | assumption | exact Or.inl rfl | exact Or.inr rfl | omega), (by first | assumption | exact Or.inl rfl | exact Or.inr rfl | omega)⟩ hw rfl dX9_count_108
    · skip
      refine lv_tableIn (off := 108) (tgt := 109) hx hb dX9_count_1 (by rw [qw1]; decide) (by rw [qw1]; decide) (by rw [qw1]; rfl) (by decide) ?_
      refine lv_aload_n hx hb dX9_count_109 rfl (lv_at hl 0 rfl) ?_
      refine W.eq (g2 := F0 m 110 ls [.ref ob0]) rfl ?_
      refine zz_get (v := .int uf1) S hw fgX9_13 0 rfl rfl dX9_count_110 ?_
      exact hret _ _ _ _ _ _ ⟨uf1, fc, z0_, z1_, z2_, z3_, wf, af, fi, sd, rfl, rfl, (by first | assumption | exact Or.inl rfl | exact Or.inr rfl | omega), (by first | assumption | exact Or.inl rfl | exact Or.inr rfl | omega)⟩ hw rfl dX9_count_113
    · skip
      refine lv_tableIn (off := 113) (tgt := 114) hx hb dX9_count_1 (by rw [qw1]; decide) (by rw [qw1]; decide) (by rw [qw1]; rfl) (by decide) ?_
      refine lv_aload_n hx hb dX9_count_114 rfl (lv_at hl 0 rfl) ?_
      refine zz_get (v := .ref pa0) S hw fgX9_64 0 rfl rfl dX9_count_115 ?_
      refine zz_get (v := .int (nI pm)) S hw fgX9_306 33 rfl rfl dX9_count_118 ?_
      exact hret _ _ _ _ _ _ ⟨(nI pm), fc, z0_, z1_, z2_, z3_, wf, af, fi, sd, rfl, rfl, (by first | assumption | exact Or.inl rfl | exact Or.inr rfl | omega), (by first | assumption | exact Or.inl rfl | exact Or.inr rfl | omega)⟩ hw rfl dX9_count_121
    · skip
      refine lv_tableIn (off := 121) (tgt := 122) hx hb dX9_count_1 (by rw [qw1]; decide) (by rw [qw1]; decide) (by rw [qw1]; rfl) (by decide) ?_
      refine lv_aload_n hx hb dX9_count_122 rfl (lv_at hl 0 rfl) ?_
      refine zz_get (v := .ref t0) S hw fgX9_71 0 rfl rfl dX9_count_123 ?_
      refine zz_get (v := .int (nI tm)) S hw fgX9_278 34 rfl rfl dX9_count_126 ?_
      exact hret _ _ _ _ _ _ ⟨(nI tm), fc, z0_, z1_, z2_, z3_, wf, af, fi, sd, rfl, rfl, (by first | assumption | exact Or.inl rfl | exact Or.inr rfl | omega), (by first | assumption | exact Or.inl rfl | exact Or.inr rfl | omega)⟩ hw rfl dX9_count_129
    · skip
      refine lv_tableIn (off := 129) (tgt := 130) hx hb dX9_count_1 (by rw [qw1]; decide) (by rw [qw1]; decide) (by rw [qw1]; rfl) (by decide) ?_
      refine lv_aload_n hx hb dX9_count_130 rfl (lv_at hl 0 rfl) ?_
      refine zz_callV (qb := 0) (As := []) (rest := []) (wr := [(sc, .inr (5, [.ref s1, .ref s2, .ref s3, .ref s4, .ref s5, .ref s6, .ref s7, .ref s8, .ref s9, .int (nI pp), .int (nI pq), .int i3, .int i4])), (s3, .inl (G.2 0, 7, .inl m3)), (s4, .inl (G.2 0, 7, .inl m4)), (s6, .inl (G.2 0, 6, .inl m6)), (s7, .inl (G.2 0, 6, .inl m7)), (s9, .inl (G.2 0, 9, .inl fc)), (s8, .inl (G.2 4, 4, .inr (.inr (.inr (.inr (va_up (va_up (va_up (va_up (fun _ => none) 0 (some w0)) 1 (some w1)) 2 (some w2)) 3 (some w3))))))), (w0, .inr (2, [.ref x0, .ref x1, .ref x2, .int (nI n0), .int (nI u0)])), (x0, .inl (G.2 0, 400, .inl f0)), (x1, .inl (G.2 0, 14, .inl g0)), (x2, .inl (G.2 0, 32, .inl z0_)), (w1, .inr (2, [.ref x3, .ref x4, .ref x5, .int (nI n1), .int (nI u1)])), (x3, .inl (G.2 0, 400, .inl f1)), (x4, .inl (G.2 0, 14, .inl g1)), (x5, .inl (G.2 0, 32, .inl z1_)), (w2, .inr (2, [.ref x6, .ref x7, .ref x8, .int (nI n2), .int (nI u2)])), (x6, .inl (G.2 0, 400, .inl f2)), (x7, .inl (G.2 0, 14, .inl g2)), (x8, .inl (G.2 0, 32, .inl z2_)), (w3, .inr (2, [.ref x9, .ref x10, .ref x11, .int (nI n3), .int (nI u3)])), (x9, .inl (G.2 0, 400, .inl f3)), (x10, .inl (G.2 0, 14, .inl g3)), (x11, .inl (G.2 0, 32, .inl z3_)), (s5, .inl (G.2 0, 6, .inl m5)), (k0, .inr (6, [.ref b1, .ref b2, .ref b3, .ref b4, .int o1, .int o2, .int o3])), (b1, .inl (G.2 0, 7, .inl e1)), (b2, .inl (G.2 0, 6, .inl e2)), (b3, .inl (G.2 0, 7, .inl e3)), (b4, .inl (G.2 0, 42, .inl e4)), (c0, .inr (0, [.ref a1, .ref a2, .int fi, .int sd])), (a1, .inl (G.2 0, 6, .inl wf)), (a2, .inl (G.2 0, 7, .inl af)), (pa0, .inr (3, [.ref pl0, .int (nI pn), .int (nI pm)])), (t0, .inr (8, [.ref t1, .ref t2, .ref t3, .int (nI tm)])), (t1, .inl (G.2 0, 20, .inl tp)), (t2, .inl (G.2 0, 20, .inl tw)), (t3, .inl (G.2 2, 20, .inl ts))]) S hw hl.1 lX9_307 (c_g_slotsHeld l G ob0 ut uf1 h1 uf3 sc dr0 k0 my0 c0 ga pa0 t0 sl0 hd0 hf) ⟨Nat.le_of_ble_eq_true rfl, Nat.le_of_ble_eq_true rfl⟩ ⟨Nat.le_of_ble_eq_true rfl, Nat.le_of_ble_eq_true rfl⟩ [0, 38] [1, 2, 3, 4, 5, 6, 7, 8, 9, 10, 11, 12, 13, 14, 15, 16, 17, 18, 19, 20, 21, 22, 23, 24, 25, 26, 27, 28, 29, 30, 31, 32, 33, 34, 35, 36, 37] (by decide +kernel) rfl rfl (by decide +kernel) (by decide +kernel) rfl rfl rfl rfl (Nat.le_of_ble_eq_true rfl) dX9_count_131 ?_
      clear hw
      intro rr u H locs hp hw
      refine hp.elim fun rv_33 zg0 => zg0.elim fun zee1 zee2 => ?_
      clear hp zg0
      subst zee1
      subst zee2
      replace hw : zz_w G A s [(sc, .inr (5, [.ref s1, .ref s2, .ref s3, .ref s4, .ref s5, .ref s6, .ref s7, .ref s8, .ref s9, .int (nI pp), .int (nI pq), .int i3, .int i4])), (s3, .inl (G.2 0, 7, .inl m3)), (s4, .inl (G.2 0, 7, .inl m4)), (s6, .inl (G.2 0, 6, .inl m6)), (s7, .inl (G.2 0, 6, .inl m7)), (s9, .inl (G.2 0, 9, .inl fc)), (s8, .inl (G.2 4, 4, .inr (.inr (.inr (.inr (va_up (va_up (va_up (va_up (fun _ => none) 0 (some w0)) 1 (some w1)) 2 (some w2)) 3 (some w3))))))), (w0, .inr (2, [.ref x0, .ref x1, .ref x2, .int (nI n0), .int (nI u0)])), (x0, .inl (G.2 0, 400, .inl f0)), (x1, .inl (G.2 0, 14, .inl g0)), (x2, .inl (G.2 0, 32, .inl z0_)), (w1, .inr (2, [.ref x3, .ref x4, .ref x5, .int (nI n1), .int (nI u1)])), (x3, .inl (G.2 0, 400, .inl f1)), (x4, .inl (G.2 0, 14, .inl g1)), (x5, .inl (G.2 0, 32, .inl z1_)), (w2, .inr (2, [.ref x6, .ref x7, .ref x8, .int (nI n2), .int (nI u2)])), (x6, .inl (G.2 0, 400, .inl f2)), (x7, .inl (G.2 0, 14, .inl g2)), (x8, .inl (G.2 0, 32, .inl z2_)), (w3, .inr (2, [.ref x9, .ref x10, .ref x11, .int (nI n3), .int (nI u3)])), (x9, .inl (G.2 0, 400, .inl f3)), (x10, .inl (G.2 0, 14, .inl g3)), (x11, .inl (G.2 0, 32, .inl z3_)), (s5, .inl (G.2 0, 6, .inl m5)), (k0, .inr (6, [.ref b1, .ref b2, .ref b3, .ref b4, .int o1, .int o2, .int o3])), (b1, .inl (G.2 0, 7, .inl e1)), (b2, .inl (G.2 0, 6, .inl e2)), (b3, .inl (G.2 0, 7, .inl e3)), (b4, .inl (G.2 0, 42, .inl e4)), (c0, .inr (0, [.ref a1, .ref a2, .int fi, .int sd])), (a1, .inl (G.2 0, 6, .inl wf)), (a2, .inl (G.2 0, 7, .inl af)), (pa0, .inr (3, [.ref pl0, .int (nI pn), .int (nI pm)])), (t0, .inr (8, [.ref t1, .ref t2, .ref t3, .int (nI tm)])), (t1, .inl (G.2 0, 20, .inl tp)), (t2, .inl (G.2 0, 20, .inl tw)), (t3, .inl (G.2 2, 20, .inl ts)), (ob0, .inr (9, [.ref ut, .int uf1, .ref h1, .int uf3, .ref sc, .ref dr0, .ref k0, .ref my0, .ref c0, .ref ga, .ref pa0, .ref t0, .ref sl0, .ref hd0])), (hd0, .inl (G.2 2, 3, .inl hf))] H _ := hw
      refine W.eq (g2 := F0 m 134 ls [.int rv_33]) rfl ?_
      exact hret _ _ _ _ _ _ ⟨rv_33, fc, z0_, z1_, z2_, z3_, wf, af, fi, sd, rfl, rfl, (by first | assumption | exact Or.inl rfl | exact Or.inr rfl | omega), (by first | assumption | exact Or.inl rfl | exact Or.inr rfl | omega)⟩ (hw.sub [37, 0, 1, 2, 3, 4, 5, 6, 7, 8, 9, 10, 11, 12, 13, 14, 15, 16, 17, 18, 19, 20, 21, 22, 23, 24, 25, 26, 27, 28, 29, 30, 31, 32, 33, 34, 35, 36, 38] (by decide +kernel) rfl) rfl dX9_count_134
