theorem kd_ncX10_crowd : kd_ck 146113312317843849051845674664729051702420012944117882484766667220354119689709919323466271927647708932055209030611566316234359979556994255766477401817397454521782269639315573518748722479045802850444448155895508821331508720536849501263954911973398883101354200530956819300573202557886156684452891435331721609311152290973868317368124187 138 cX10_crowd.data.toList 0 = true := by decide +kernel
theorem dX10_crowd_0 : decode cX10_crowd 0 = .ok (.iload_n 1, 1) := kd_dk0 kd_o27 kd_ncX10_crowd rfl
theorem dX10_crowd_1 : decode cX10_crowd 1 = .ok (.iconst 0, 1) := kd_dk0 kd_o3 kd_ncX10_crowd rfl
theorem dX10_crowd_2 : decode cX10_crowd 2 = .ok (.iconst 1, 1) := kd_dk0 kd_o4 kd_ncX10_crowd rfl
theorem dX10_crowd_3 : decode cX10_crowd 3 = .ok (.invokestatic 313, 3) := kd_dk2 kd_o184 kd_ncX10_crowd rfl
theorem dX10_crowd_6 : decode cX10_crowd 6 = .ok (.ifCond .ne 5, 3) := kd_dj2 kd_o154 (w := 5) kd_ncX10_crowd rfl rfl
theorem dX10_crowd_9 : decode cX10_crowd 9 = .ok (.iconst (-1), 1) := kd_dk0 kd_o2 kd_ncX10_crowd rfl
theorem dX10_crowd_10 : decode cX10_crowd 10 = .ok (.ireturn, 1) := kd_dk0 kd_o172 kd_ncX10_crowd rfl
theorem dX10_crowd_11 : decode cX10_crowd 11 = .ok (.iconst 0, 1) := kd_dk0 kd_o3 kd_ncX10_crowd rfl
theorem dX10_crowd_12 : decode cX10_crowd 12 = .ok (.istore_n 2, 1) := kd_dk0 kd_o61 kd_ncX10_crowd rfl
theorem dX10_crowd_13 : decode cX10_crowd 13 = .ok (.iconst 0, 1) := kd_dk0 kd_o3 kd_ncX10_crowd rfl
theorem dX10_crowd_14 : decode cX10_crowd 14 = .ok (.istore_n 3, 1) := kd_dk0 kd_o62 kd_ncX10_crowd rfl
theorem dX10_crowd_15 : decode cX10_crowd 15 = .ok (.iconst 0, 1) := kd_dk0 kd_o3 kd_ncX10_crowd rfl
theorem dX10_crowd_16 : decode cX10_crowd 16 = .ok (.istore 4, 2) := kd_dk1 kd_o54 kd_ncX10_crowd rfl
theorem dX10_crowd_18 : decode cX10_crowd 18 = .ok (.iload 4, 2) := kd_dk1 kd_o21 kd_ncX10_crowd rfl
theorem dX10_crowd_20 : decode cX10_crowd 20 = .ok (.bipush 24, 2) := kd_dj1 kd_o16 (w := 24) kd_ncX10_crowd rfl rfl
theorem dX10_crowd_22 : decode cX10_crowd 22 = .ok (.if_icmp .ge 106, 3) := kd_dj2 kd_o162 (w := 106) kd_ncX10_crowd rfl rfl
theorem dX10_crowd_25 : decode cX10_crowd 25 = .ok (.iconst 0, 1) := kd_dk0 kd_o3 kd_ncX10_crowd rfl
theorem dX10_crowd_26 : decode cX10_crowd 26 = .ok (.istore 5, 2) := kd_dk1 kd_o54 kd_ncX10_crowd rfl
theorem dX10_crowd_28 : decode cX10_crowd 28 = .ok (.iconst 0, 1) := kd_dk0 kd_o3 kd_ncX10_crowd rfl
theorem dX10_crowd_29 : decode cX10_crowd 29 = .ok (.istore 6, 2) := kd_dk1 kd_o54 kd_ncX10_crowd rfl
theorem dX10_crowd_31 : decode cX10_crowd 31 = .ok (.iload 6, 2) := kd_dk1 kd_o21 kd_ncX10_crowd rfl
theorem dX10_crowd_33 : decode cX10_crowd 33 = .ok (.aload_n 0, 1) := kd_dk0 kd_o42 kd_ncX10_crowd rfl
theorem dX10_crowd_34 : decode cX10_crowd 34 = .ok (.getfield 43, 3) := kd_dk2 kd_o180 kd_ncX10_crowd rfl
theorem dX10_crowd_37 : decode cX10_crowd 37 = .ok (.aload_n 0, 1) := kd_dk0 kd_o42 kd_ncX10_crowd rfl
theorem dX10_crowd_38 : decode cX10_crowd 38 = .ok (.getfield 236, 3) := kd_dk2 kd_o180 kd_ncX10_crowd rfl
theorem dX10_crowd_41 : decode cX10_crowd 41 = .ok (.iaload, 1) := kd_dk0 kd_o46 kd_ncX10_crowd rfl
theorem dX10_crowd_42 : decode cX10_crowd 42 = .ok (.if_icmp .ge 24, 3) := kd_dj2 kd_o162 (w := 24) kd_ncX10_crowd rfl rfl
theorem dX10_crowd_45 : decode cX10_crowd 45 = .ok (.aload_n 0, 1) := kd_dk0 kd_o42 kd_ncX10_crowd rfl
theorem dX10_crowd_46 : decode cX10_crowd 46 = .ok (.getfield 110, 3) := kd_dk2 kd_o180 kd_ncX10_crowd rfl
theorem dX10_crowd_49 : decode cX10_crowd 49 = .ok (.iload 6, 2) := kd_dk1 kd_o21 kd_ncX10_crowd rfl
theorem dX10_crowd_51 : decode cX10_crowd 51 = .ok (.iaload, 1) := kd_dk0 kd_o46 kd_ncX10_crowd rfl
theorem dX10_crowd_52 : decode cX10_crowd 52 = .ok (.iload 4, 2) := kd_dk1 kd_o21 kd_ncX10_crowd rfl
theorem dX10_crowd_54 : decode cX10_crowd 54 = .ok (.if_icmp .ne 6, 3) := kd_dj2 kd_o160 (w := 6) kd_ncX10_crowd rfl rfl
theorem dX10_crowd_57 : decode cX10_crowd 57 = .ok (.iinc 5 1, 3) := kd_dji kd_o132 (w := 1) kd_ncX10_crowd rfl rfl
theorem dX10_crowd_60 : decode cX10_crowd 60 = .ok (.iinc 6 1, 3) := kd_dji kd_o132 (w := 1) kd_ncX10_crowd rfl rfl
theorem dX10_crowd_63 : decode cX10_crowd 63 = .ok (.goto (-32), 3) := kd_dj2 kd_o167 (w := 65504) kd_ncX10_crowd rfl rfl
theorem dX10_crowd_66 : decode cX10_crowd 66 = .ok (.iconst 0, 1) := kd_dk0 kd_o3 kd_ncX10_crowd rfl
theorem dX10_crowd_67 : decode cX10_crowd 67 = .ok (.istore 6, 2) := kd_dk1 kd_o54 kd_ncX10_crowd rfl
theorem dX10_crowd_69 : decode cX10_crowd 69 = .ok (.iload 6, 2) := kd_dk1 kd_o21 kd_ncX10_crowd rfl
theorem dX10_crowd_71 : decode cX10_crowd 71 = .ok (.aload_n 0, 1) := kd_dk0 kd_o42 kd_ncX10_crowd rfl
theorem dX10_crowd_72 : decode cX10_crowd 72 = .ok (.getfield 55, 3) := kd_dk2 kd_o180 kd_ncX10_crowd rfl
theorem dX10_crowd_75 : decode cX10_crowd 75 = .ok (.aload_n 0, 1) := kd_dk0 kd_o42 kd_ncX10_crowd rfl
theorem dX10_crowd_76 : decode cX10_crowd 76 = .ok (.getfield 236, 3) := kd_dk2 kd_o180 kd_ncX10_crowd rfl
theorem dX10_crowd_79 : decode cX10_crowd 79 = .ok (.iaload, 1) := kd_dk0 kd_o46 kd_ncX10_crowd rfl
theorem dX10_crowd_80 : decode cX10_crowd 80 = .ok (.if_icmp .ge 27, 3) := kd_dj2 kd_o162 (w := 27) kd_ncX10_crowd rfl rfl
theorem dX10_crowd_83 : decode cX10_crowd 83 = .ok (.aload_n 0, 1) := kd_dk0 kd_o42 kd_ncX10_crowd rfl
theorem dX10_crowd_84 : decode cX10_crowd 84 = .ok (.getfield 110, 3) := kd_dk2 kd_o180 kd_ncX10_crowd rfl
theorem dX10_crowd_87 : decode cX10_crowd 87 = .ok (.bipush 21, 2) := kd_dj1 kd_o16 (w := 21) kd_ncX10_crowd rfl rfl
theorem dX10_crowd_89 : decode cX10_crowd 89 = .ok (.iload 6, 2) := kd_dk1 kd_o21 kd_ncX10_crowd rfl
theorem dX10_crowd_91 : decode cX10_crowd 91 = .ok (.iadd, 1) := kd_dk0 kd_o96 kd_ncX10_crowd rfl
theorem dX10_crowd_92 : decode cX10_crowd 92 = .ok (.iaload, 1) := kd_dk0 kd_o46 kd_ncX10_crowd rfl
theorem dX10_crowd_93 : decode cX10_crowd 93 = .ok (.iload 4, 2) := kd_dk1 kd_o21 kd_ncX10_crowd rfl
theorem dX10_crowd_95 : decode cX10_crowd 95 = .ok (.if_icmp .ne 6, 3) := kd_dj2 kd_o160 (w := 6) kd_ncX10_crowd rfl rfl
theorem dX10_crowd_98 : decode cX10_crowd 98 = .ok (.iinc 5 1, 3) := kd_dji kd_o132 (w := 1) kd_ncX10_crowd rfl rfl
theorem dX10_crowd_101 : decode cX10_crowd 101 = .ok (.iinc 6 1, 3) := kd_dji kd_o132 (w := 1) kd_ncX10_crowd rfl rfl
theorem dX10_crowd_104 : decode cX10_crowd 104 = .ok (.goto (-35), 3) := kd_dj2 kd_o167 (w := 65501) kd_ncX10_crowd rfl rfl
theorem dX10_crowd_107 : decode cX10_crowd 107 = .ok (.iload 5, 2) := kd_dk1 kd_o21 kd_ncX10_crowd rfl
theorem dX10_crowd_109 : decode cX10_crowd 109 = .ok (.iload_n 3, 1) := kd_dk0 kd_o29 kd_ncX10_crowd rfl
theorem dX10_crowd_110 : decode cX10_crowd 110 = .ok (.if_icmp .gt 6, 3) := kd_dj2 kd_o163 (w := 6) kd_ncX10_crowd rfl rfl
theorem dX10_crowd_113 : decode cX10_crowd 113 = .ok (.goto 9, 3) := kd_dj2 kd_o167 (w := 9) kd_ncX10_crowd rfl rfl
theorem dX10_crowd_116 : decode cX10_crowd 116 = .ok (.iload 4, 2) := kd_dk1 kd_o21 kd_ncX10_crowd rfl
theorem dX10_crowd_118 : decode cX10_crowd 118 = .ok (.istore_n 2, 1) := kd_dk0 kd_o61 kd_ncX10_crowd rfl
theorem dX10_crowd_119 : decode cX10_crowd 119 = .ok (.iload 5, 2) := kd_dk1 kd_o21 kd_ncX10_crowd rfl
theorem dX10_crowd_121 : decode cX10_crowd 121 = .ok (.istore_n 3, 1) := kd_dk0 kd_o62 kd_ncX10_crowd rfl
theorem dX10_crowd_122 : decode cX10_crowd 122 = .ok (.iinc 4 1, 3) := kd_dji kd_o132 (w := 1) kd_ncX10_crowd rfl rfl
theorem dX10_crowd_125 : decode cX10_crowd 125 = .ok (.goto (-107), 3) := kd_dj2 kd_o167 (w := 65429) kd_ncX10_crowd rfl rfl
theorem dX10_crowd_128 : decode cX10_crowd 128 = .ok (.iload_n 1, 1) := kd_dk0 kd_o27 kd_ncX10_crowd rfl
theorem dX10_crowd_129 : decode cX10_crowd 129 = .ok (.ifCond .ne 7, 3) := kd_dj2 kd_o154 (w := 7) kd_ncX10_crowd rfl rfl
theorem dX10_crowd_132 : decode cX10_crowd 132 = .ok (.iload_n 2, 1) := kd_dk0 kd_o28 kd_ncX10_crowd rfl
theorem dX10_crowd_133 : decode cX10_crowd 133 = .ok (.goto 4, 3) := kd_dj2 kd_o167 (w := 4) kd_ncX10_crowd rfl rfl
theorem dX10_crowd_136 : decode cX10_crowd 136 = .ok (.iload_n 3, 1) := kd_dk0 kd_o29 kd_ncX10_crowd rfl
theorem dX10_crowd_137 : decode cX10_crowd 137 = .ok (.ireturn, 1) := kd_dk0 kd_o172 kd_ncX10_crowd rfl
set_option maxHeartbeats 8000000 in
set_option maxRecDepth 100000 in
theorem c_x_crowd (l : Launch) (G : zz_G) (r : Nat → Nat) (j0 : Int32) (j2 : Int32) (j4 : Int32) (j10 : Int32) (j11 : Int32) (j12 : Int32) (j13 : Int32) (j14 : Int32) (j15 : Int32) (j16 : Int32) (j17 : Int32) (j19 : Int32) (j20 : Int32) (j34 : Int32) (j40 : Int32) (j44 : Int32) (j47 : Int32) (j50 : Int32) (j51 : Int32) (j56 : Int32) (j61 : Int32) (lv : Nat) (pp : Nat) (pq : Nat) (c22 : Nat → Int32) (c26 : Nat → Int32) (c48 : Nat → Int32) (ar1 : Int32) (hlv : lv ≤ 1) (hpe : c22 lv = nI pp) (hpp : pp ≤ 7) (hpa : c26 lv = nI pq) (hpq : pq ≤ 6) : zz_M l G mX10_crowd 1 0 0 [.ref (r 0), .int ar1] [((r 0), .inr (10, (zz_mo r [(0, j0), (2, j2), (4, j4), (10, j10), (11, j11), (12, j12), (13, j13), (14, j14), (15, j15), (16, j16), (17, j17), (18, (nI lv)), (19, j19), (20, j20), (34, j34), (40, j40), (44, j44), (47, j47), (50, j50), (51, j51), (56, j56), (61, j61)]))), ((r 22), .inl (G.2 0, 2, .inl c22)), ((r 26), .inl (G.2 0, 2, .inl c26)), ((r 48), .inl (G.2 0, 71, .inl c48))] (fun rr u => ∃ (rv : Int32), rr = some (.int rv) ∧ u = [((r 0), .inr (10, (zz_mo r [(0, j0), (2, j2), (4, j4), (10, j10), (11, j11), (12, j12), (13, j13), (14, j14), (15, j15), (16, j16), (17, j17), (18, (nI lv)), (19, j19), (20, j20), (34, j34), (40, j40), (44, j44), (47, j47), (50, j50), (51, j51), (56, j56), (61, j61)]))), ((r 22), .inl (G.2 0, 2, .inl c22)), ((r 26), .inl (G.2 0, 2, .inl c26)), ((r 48), .inl (G.2 0, 71, .inl c48))] ∧ (zA (zz_In 2 ar1) (rv = zP ar1 (zB (0, 0) (fun h => (zS (fun a => zC1 (c48 a = nI h)) pp + zS (fun p => zC1 (c48 (21 + p) = nI h)) pq)) 24)) rv (-1))) := by
  refine zz_enteri (by decide +kernel) (Nat.le_of_ble_eq_true rfl) ?_
  intro p e s m args below meth c A Q ls S hnm hret hw hl
  have hl : lv_has ls 7 [(0, .ref (r 0)), (1, .int ar1)] := hl
  have hx := S.1
  have hb := S.2.1
  refine lv_iload_n hx hb dX10_crowd_0 rfl (lv_at hl 1 rfl) ?_
  refine lv_iconst (v := 0) hx hb dX10_crowd_1 (by decide) ?_
  refine lv_iconst (v := 1) hx hb dX10_crowd_2 (by decide) ?_
  refine zz_callS (As := [.int ar1, .int 0, .int 1]) (rest := []) (wr := [((r 0), .inr (10, (zz_mo r [(0, j0), (2, j2), (4, j4), (10, j10), (11, j11), (12, j12), (13, j13), (14, j14), (15, j15), (16, j16), (17, j17), (18, (nI lv)), (19, j19), (20, j20), (34, j34), (40, j40), (44, j44), (47, j47), (50, j50), (51, j51), (56, j56), (61, j61)]))), ((r 22), .inl (G.2 0, 2, .inl c22)), ((r 26), .inl (G.2 0, 2, .inl c26)), ((r 48), .inl (G.2 0, 71, .inl c48))]) S hw hl.1 lX10_313 (c_x_in l G ar1 0 1) ⟨Nat.le_of_ble_eq_true rfl, Nat.le_of_ble_eq_true rfl⟩ ⟨Nat.le_of_ble_eq_true rfl, Nat.le_of_ble_eq_true rfl⟩ [] [0, 1, 2, 3] (by decide) rfl rfl (by decide) (by decide) rfl rfl (Nat.le_of_ble_eq_true rfl) dX10_crowd_3 ?_
  clear hw
  intro rr u H locs hp hw
  refine hp.elim fun rv_1 zg0 => zg0.elim fun zee1 zg1 => zg1.elim fun zee2 zg2 => zg2.elim fun hq3_0 zg3 => zg3.elim fun hq3_1 hq3_2 => ?_
  clear hp zg0 zg1 zg2 zg3
  subst zee1
  subst zee2
  replace hw : zz_w G A s [((r 0), .inr (10, (zz_mo r [(0, j0), (2, j2), (4, j4), (10, j10), (11, j11), (12, j12), (13, j13), (14, j14), (15, j15), (16, j16), (17, j17), (18, (nI lv)), (19, j19), (20, j20), (34, j34), (40, j40), (44, j44), (47, j47), (50, j50), (51, j51), (56, j56), (61, j61)]))), ((r 22), .inl (G.2 0, 2, .inl c22)), ((r 26), .inl (G.2 0, 2, .inl c26)), ((r 48), .inl (G.2 0, 71, .inl c48))] H _ := hw
  refine W.eq (g2 := F0 m 6 ls [.int rv_1]) rfl ?_
  refine lv_if_ne (tgt := 11) hx hb dX10_crowd_6 (by decide) (fun c6_2 => ?_) (fun c6_2 => ?_)
  · skip
    have hq3_0i := hq3_0.resolve_left c6_2
    obtain ⟨vq3, hvq3, rfl⟩ : ∃ k : Nat, k ≤ 1 ∧ ar1 = nI k := zz_rng (zz_lo0 hq3_0i.1) hq3_0i.2 (by omega)
    refine lv_iconst (v := 0) hx hb dX10_crowd_11 (by decide) ?_
    refine lv_istore_n (lv' := [(2, .int 0), (0, .ref (r 0)), (1, .int (nI vq3))]) hx hb dX10_crowd_12 rfl hl (by decide) rfl (fun ls hl => ?_)
    refine lv_iconst (v := 0) hx hb dX10_crowd_13 (by decide) ?_
    refine lv_istore_n (lv' := [(3, .int 0), (2, .int 0), (0, .ref (r 0)), (1, .int (nI vq3))]) hx hb dX10_crowd_14 rfl hl (by decide) rfl (fun ls hl => ?_)
    refine lv_iconst (v := 0) hx hb dX10_crowd_15 (by decide) ?_
    refine lv_istore (lv' := [(4, .int 0), (3, .int 0), (2, .int 0), (0, .ref (r 0)), (1, .int (nI vq3))]) hx hb dX10_crowd_16 hl (by decide) rfl (fun ls hl => ?_)
    have lp18_172 : ∀ (vn5 vi4 : Nat) (vy114 : Int32) (vy115 : Int32) (H : Heap) (locs : List Loc) (ls : Array Slot), vi4 ≤ 24 → 24 < vi4 + vn5 → (vy115, vy114) = zB (0, 0) (fun h => (zS (fun a => zC1 (c48 a = nI h)) pp + zS (fun p => zC1 (c48 (21 + p) = nI h)) pq)) vi4 → zz_w G A s [((r 0), .inr (10, (zz_mo r [(0, j0), (2, j2), (4, j4), (10, j10), (11, j11), (12, j12), (13, j13), (14, j14), (15, j15), (16, j16), (17, j17), (18, (nI lv)), (19, j19), (20, j20), (34, j34), (40, j40), (44, j44), (47, j47), (50, j50), (51, j51), (56, j56), (61, j61)]))), ((r 22), .inl (G.2 0, 2, .inl c22)), ((r 26), .inl (G.2 0, 2, .inl c26)), ((r 48), .inl (G.2 0, 71, .inl c48))] H locs → lv_has ls 7 [(4, .int (nI vi4)), (3, .int vy114), (2, .int vy115), (0, .ref (r 0)), (1, .int (nI vq3))] → W p l e (zz_rm 1 0 0) s m args below meth c H locs (0) (0) Q (F0 m 18 ls []) := by
      intro vn5
      induction vn5 with
      | zero => intro vi4 vy114 vy115 H locs ls hi1 hi2; exact absurd hi2 (by omega)
      | succ vn5 ih18 =>
        intro vi4 vy114 vy115 H locs ls hi18a hi18b hv18_171 hw hl
        refine lv_iload hx hb dX10_crowd_18 (lv_at hl 0 rfl) ?_
        refine lv_bipush (v := 24) hx hb dX10_crowd_20 (by decide) ?_
        refine lv_icmp_ge (tgt := 128) hx hb dX10_crowd_22 (by decide) (fun c22_173 => ?_) (fun c22_173 => ?_)
        · skip
          have c22_173n : 24 ≤ vi4 := (zz_le (a := 24) (b := vi4) rfl rfl (by omega) (by omega)).mp c22_173
          refine lv_iload_n hx hb dX10_crowd_128 rfl (lv_at hl 4 rfl) ?_
          refine lv_if_ne (tgt := 136) hx hb dX10_crowd_129 (by decide) (fun c129_174 => ?_) (fun c129_174 => ?_)
          · skip
            have c129_174n : ¬ (vq3 = 0) := fun z => c129_174 ((zz_eq (a := vq3) (b := 0) rfl rfl (by omega) (by omega)).mpr z)
            refine lv_iload_n hx hb dX10_crowd_136 rfl (lv_at hl 1 rfl) ?_
            refine W.eq (g2 := F0 m 137 ls [.int vy114]) rfl ?_
            exact hret _ _ _ _ _ _ ⟨vy114, rfl, rfl, (by first | exact zA0 (zz_innI (n := 1) (by omega) hq3_1 (by assumption)) | exact zA1 ⟨_, by omega, rfl⟩ (zP_0 (zB_e hv18_171 (by omega)) (by assumption)) | exact zA1 ⟨_, by omega, rfl⟩ (zP_1 (zB_e hv18_171 (by omega)) (by assumption)))⟩ hw rfl dX10_crowd_137
          · skip
            have c129_174n : vq3 = 0 := (zz_eq (a := vq3) (b := 0) rfl rfl (by omega) (by omega)).mp c129_174
            refine lv_iload_n hx hb dX10_crowd_132 rfl (lv_at hl 2 rfl) ?_
            refine lv_goto (tgt := 137) hx hb dX10_crowd_133 (by decide) ?_
            exact hret _ _ _ _ _ _ ⟨vy115, rfl, rfl, (by first | exact zA0 (zz_innI (n := 1) (by omega) hq3_1 (by assumption)) | exact zA1 ⟨_, by omega, rfl⟩ (zP_0 (zB_e hv18_171 (by omega)) (by assumption)) | exact zA1 ⟨_, by omega, rfl⟩ (zP_1 (zB_e hv18_171 (by omega)) (by assumption)))⟩ hw rfl dX10_crowd_137
        · skip
          have c22_173n : ¬ (24 ≤ vi4) := fun z => c22_173 ((zz_le (a := 24) (b := vi4) rfl rfl (by omega) (by omega)).mpr z)
          refine lv_iconst (v := 0) hx hb dX10_crowd_25 (by decide) ?_
          refine lv_istore (lv' := [(5, .int 0), (4, .int (nI vi4)), (3, .int vy114), (2, .int vy115), (0, .ref (r 0)), (1, .int (nI vq3))]) hx hb dX10_crowd_26 hl (by decide) rfl (fun ls hl => ?_)
          refine lv_iconst (v := 0) hx hb dX10_crowd_28 (by decide) ?_
          refine lv_istore (lv' := [(6, .int 0), (5, .int 0), (4, .int (nI vi4)), (3, .int vy114), (2, .int vy115), (0, .ref (r 0)), (1, .int (nI vq3))]) hx hb dX10_crowd_29 hl (by decide) rfl (fun ls hl => ?_)
          have lp31_211 : ∀ (vn176 vi175 : Nat) (vy193 : Int32) (H : Heap) (locs : List Loc) (ls : Array Slot), vi175 ≤ pp → pp < vi175 + vn176 → vy193 = zS (fun a => zC1 (c48 a = (nI vi4))) vi175 → zz_w G A s [((r 0), .inr (10, (zz_mo r [(0, j0), (2, j2), (4, j4), (10, j10), (11, j11), (12, j12), (13, j13), (14, j14), (15, j15), (16, j16), (17, j17), (18, (nI lv)), (19, j19), (20, j20), (34, j34), (40, j40), (44, j44), (47, j47), (50, j50), (51, j51), (56, j56), (61, j61)]))), ((r 22), .inl (G.2 0, 2, .inl c22)), ((r 26), .inl (G.2 0, 2, .inl c26)), ((r 48), .inl (G.2 0, 71, .inl c48))] H locs → lv_has ls 7 [(6, .int (nI vi175)), (5, .int vy193), (4, .int (nI vi4)), (3, .int vy114), (2, .int vy115), (0, .ref (r 0)), (1, .int (nI vq3))] → W p l e (zz_rm 1 0 0) s m args below meth c H locs (0) (0) Q (F0 m 31 ls []) := by
            intro vn176
            induction vn176 with
            | zero => intro vi175 vy193 H locs ls hi1 hi2; exact absurd hi2 (by omega)
            | succ vn176 ih31 =>
              intro vi175 vy193 H locs ls hi31a hi31b hv31_210 hw hl
              refine lv_iload hx hb dX10_crowd_31 (lv_at hl 0 rfl) ?_
              refine lv_aload_n hx hb dX10_crowd_33 rfl (lv_at hl 5 rfl) ?_
              refine zz_get (v := .ref (r 22)) S hw fgX10_43 0 rfl rfl dX10_crowd_34 ?_
              refine lv_aload_n hx hb dX10_crowd_37 rfl (lv_at hl 5 rfl) ?_
              refine zz_get (v := .int (nI lv)) S hw fgX10_236 0 rfl rfl dX10_crowd_38 ?_
              refine zz_iald (v := (nI pp)) S hw 1 rfl (vp_in_nI (n := lv) (by omega) (by decide)) (by rw [show ((nI lv) : Int32).toNatClampNeg = lv from nI_clamp (n := lv) (by omega)]; exact hpe) dX10_crowd_41 ?_
              refine lv_icmp_ge (tgt := 66) hx hb dX10_crowd_42 (by decide) (fun c42_212 => ?_) (fun c42_212 => ?_)
              · skip
                have c42_212n : pp ≤ vi175 := (zz_le (a := pp) (b := vi175) rfl rfl (by omega) (by omega)).mp c42_212
                refine lv_iconst (v := 0) hx hb dX10_crowd_66 (by decide) ?_
                refine lv_istore (lv' := [(6, .int 0), (5, .int vy193), (4, .int (nI vi4)), (3, .int vy114), (2, .int vy115), (0, .ref (r 0)), (1, .int (nI vq3))]) hx hb dX10_crowd_67 hl (by decide) rfl (fun ls hl => ?_)
                refine W.eq (g2 := F0 m 69 ls []) rfl ?_
                have lp69_223 : ∀ (vn214 vi213 : Nat) (vy218 : Int32) (H : Heap) (locs : List Loc) (ls : Array Slot), vi213 ≤ pq → pq < vi213 + vn214 → vy218 = zS (fun a => zC1 (c48 a = (nI vi4))) pp + zS (fun p => zC1 (c48 (21 + p) = (nI vi4))) vi213 → zz_w G A s [((r 0), .inr (10, (zz_mo r [(0, j0), (2, j2), (4, j4), (10, j10), (11, j11), (12, j12), (13, j13), (14, j14), (15, j15), (16, j16), (17, j17), (18, (nI lv)), (19, j19), (20, j20), (34, j34), (40, j40), (44, j44), (47, j47), (50, j50), (51, j51), (56, j56), (61, j61)]))), ((r 22), .inl (G.2 0, 2, .inl c22)), ((r 26), .inl (G.2 0, 2, .inl c26)), ((r 48), .inl (G.2 0, 71, .inl c48))] H locs → lv_has ls 7 [(6, .int (nI vi213)), (5, .int vy218), (4, .int (nI vi4)), (3, .int vy114), (2, .int vy115), (0, .ref (r 0)), (1, .int (nI vq3))] → W p l e (zz_rm 1 0 0) s m args below meth c H locs (0) (0) Q (F0 m 69 ls []) := by
                  intro vn214
                  induction vn214 with
                  | zero => intro vi213 vy218 H locs ls hi1 hi2; exact absurd hi2 (by omega)
                  | succ vn214 ih69 =>
                    intro vi213 vy218 H locs ls hi69a hi69b hv69_222 hw hl
                    refine lv_iload hx hb dX10_crowd_69 (lv_at hl 0 rfl) ?_
                    refine lv_aload_n hx hb dX10_crowd_71 rfl (lv_at hl 5 rfl) ?_
                    refine zz_get (v := .ref (r 26)) S hw fgX10_55 0 rfl rfl dX10_crowd_72 ?_
                    refine lv_aload_n hx hb dX10_crowd_75 rfl (lv_at hl 5 rfl) ?_
                    refine zz_get (v := .int (nI lv)) S hw fgX10_236 0 rfl rfl dX10_crowd_76 ?_
                    refine zz_iald (v := (nI pq)) S hw 2 rfl (vp_in_nI (n := lv) (by omega) (by decide)) (by rw [show ((nI lv) : Int32).toNatClampNeg = lv from nI_clamp (n := lv) (by omega)]; exact hpa) dX10_crowd_79 ?_
                    refine lv_icmp_ge (tgt := 107) hx hb dX10_crowd_80 (by decide) (fun c80_224 => ?_) (fun c80_224 => ?_)
                    · skip
                      have c80_224n : pq ≤ vi213 := (zz_le (a := pq) (b := vi213) rfl rfl (by omega) (by omega)).mp c80_224
                      refine lv_iload hx hb dX10_crowd_107 (lv_at hl 1 rfl) ?_
                      refine lv_iload_n hx hb dX10_crowd_109 rfl (lv_at hl 3 rfl) ?_
                      refine lv_icmp_gt (tgt := 116) hx hb dX10_crowd_110 (by decide) (fun c110_225 => ?_) (fun c110_225 => ?_)
                      · skip
                        refine lv_iload hx hb dX10_crowd_116 (lv_at hl 2 rfl) ?_
                        refine lv_istore_n (lv' := [(2, .int (nI vi4)), (6, .int (nI vi213)), (5, .int vy218), (4, .int (nI vi4)), (3, .int vy114), (0, .ref (r 0)), (1, .int (nI vq3))]) hx hb dX10_crowd_118 rfl hl (by decide) rfl (fun ls hl => ?_)
                        refine lv_iload hx hb dX10_crowd_119 (lv_at hl 2 rfl) ?_
                        refine lv_istore_n (lv' := [(3, .int vy218), (2, .int (nI vi4)), (6, .int (nI vi213)), (5, .int vy218), (4, .int (nI vi4)), (0, .ref (r 0)), (1, .int (nI vq3))]) hx hb dX10_crowd_121 rfl hl (by decide) rfl (fun ls hl => ?_)
                        refine lv_iinc (v := (nI (vi4 + 1))) (lv' := [(4, .int (nI (vi4 + 1))), (3, .int vy218), (2, .int (nI vi4)), (6, .int (nI vi213)), (5, .int vy218), (0, .ref (r 0)), (1, .int (nI vq3))]) hx hb dX10_crowd_122 hl (k := 4) rfl (nI_add _ 1) (by decide) rfl (fun ls hl => ?_)
                        refine lv_goto (tgt := 18) hx hb dX10_crowd_125 (by decide) ?_
                        refine W.eq (g2 := F0 m 18 ls []) rfl ?_
                        exact ih18 (vi4 + 1) vy218 (nI vi4) _ _ _ (by omega) (by omega) (by first | exact zB_y hv18_171 (zS_e2 hv69_222 (by omega)) (by first | assumption | exact Int32.not_le.mp (by assumption)) | exact zB_n hv18_171 (zS_e2 hv69_222 (by omega)) (by first | assumption | exact Int32.not_lt.mpr (by assumption))) hw (lv_sub hl [0, 1, 2, 5, 6] rfl)
                      · skip
                        refine lv_goto (tgt := 122) hx hb dX10_crowd_113 (by decide) ?_
                        refine lv_iinc (v := (nI (vi4 + 1))) (lv' := [(4, .int (nI (vi4 + 1))), (6, .int (nI vi213)), (5, .int vy218), (3, .int vy114), (2, .int vy115), (0, .ref (r 0)), (1, .int (nI vq3))]) hx hb dX10_crowd_122 hl (k := 2) rfl (nI_add _ 1) (by decide) rfl (fun ls hl => ?_)
                        refine lv_goto (tgt := 18) hx hb dX10_crowd_125 (by decide) ?_
                        exact ih18 (vi4 + 1) vy114 vy115 _ _ _ (by omega) (by omega) (by first | exact zB_y hv18_171 (zS_e2 hv69_222 (by omega)) (by first | assumption | exact Int32.not_le.mp (by assumption)) | exact zB_n hv18_171 (zS_e2 hv69_222 (by omega)) (by first | assumption | exact Int32.not_lt.mpr (by assumption))) hw (lv_sub hl [0, 3, 4, 5, 6] rfl)
                    · skip
                      have c80_224n : ¬ (pq ≤ vi213) := fun z => c80_224 ((zz_le (a := pq) (b := vi213) rfl rfl (by omega) (by omega)).mpr z)
                      refine lv_aload_n hx hb dX10_crowd_83 rfl (lv_at hl 5 rfl) ?_
                      refine zz_get (v := .ref (r 48)) S hw fgX10_110 0 rfl rfl dX10_crowd_84 ?_
                      refine lv_bipush (v := 21) hx hb dX10_crowd_87 (by decide) ?_
                      refine lv_iload hx hb dX10_crowd_89 (lv_at hl 0 rfl) ?_
                      refine lv_iadd hx hb dX10_crowd_91 ?_
                      refine zz_topi (y := (nI (21 + vi213))) (nI_add _ _) ?_
                      refine zz_iald (v := (c48 (21 + vi213))) S hw 3 rfl (vp_in_nI (n := (21 + vi213)) (by omega) (by decide)) (congrArg c48 (nI_clamp (n := (21 + vi213)) (by omega))) dX10_crowd_92 ?_
                      refine lv_iload hx hb dX10_crowd_93 (lv_at hl 2 rfl) ?_
                      refine lv_icmp_ne (tgt := 101) hx hb dX10_crowd_95 (by decide) (fun c95_226 => ?_) (fun c95_226 => ?_)
                      · skip
                        refine lv_iinc (v := (nI (vi213 + 1))) (lv' := [(6, .int (nI (vi213 + 1))), (5, .int vy218), (4, .int (nI vi4)), (3, .int vy114), (2, .int vy115), (0, .ref (r 0)), (1, .int (nI vq3))]) hx hb dX10_crowd_101 hl (k := 0) rfl (nI_add _ 1) (by decide) rfl (fun ls hl => ?_)
                        refine lv_goto (tgt := 69) hx hb dX10_crowd_104 (by decide) ?_
                        exact ih69 (vi213 + 1) vy218 _ _ _ (by omega) (by omega) (by first | exact zS_12 hv69_222 (zC_1 (by assumption)) | exact zS_02 hv69_222 (zC_0 (by assumption))) hw (lv_sub hl [0, 1, 2, 3, 4, 5, 6] rfl)
                      · skip
                        refine lv_iinc (v := (vy218 + 1)) (lv' := [(5, .int (vy218 + 1)), (6, .int (nI vi213)), (4, .int (nI vi4)), (3, .int vy114), (2, .int vy115), (0, .ref (r 0)), (1, .int (nI vq3))]) hx hb dX10_crowd_98 hl (k := 1) rfl (rfl) (by decide) rfl (fun ls hl => ?_)
                        refine lv_iinc (v := (nI (vi213 + 1))) (lv' := [(6, .int (nI (vi213 + 1))), (5, .int (vy218 + 1)), (4, .int (nI vi4)), (3, .int vy114), (2, .int vy115), (0, .ref (r 0)), (1, .int (nI vq3))]) hx hb dX10_crowd_101 hl (k := 1) rfl (nI_add _ 1) (by decide) rfl (fun ls hl => ?_)
                        refine W.eq (g2 := F0 m 104 ls []) rfl ?_
                        refine lv_goto (tgt := 69) hx hb dX10_crowd_104 (by decide) ?_
                        exact ih69 (vi213 + 1) (vy218 + 1) _ _ _ (by omega) (by omega) (by first | exact zS_12 hv69_222 (zC_1 (by assumption)) | exact zS_02 hv69_222 (zC_0 (by assumption))) hw (lv_sub hl [0, 1, 2, 3, 4, 5, 6] rfl)
                exact lp69_223 (pq + 1 - 0) 0 vy193 _ _ _ (by omega) (by omega) (zS_i2 hv31_210 (by omega)) hw (lv_sub hl [0, 1, 2, 3, 4, 5, 6] rfl)
              · skip
                have c42_212n : ¬ (pp ≤ vi175) := fun z => c42_212 ((zz_le (a := pp) (b := vi175) rfl rfl (by omega) (by omega)).mpr z)
                refine lv_aload_n hx hb dX10_crowd_45 rfl (lv_at hl 5 rfl) ?_
                refine zz_get (v := .ref (r 48)) S hw fgX10_110 0 rfl rfl dX10_crowd_46 ?_
                refine lv_iload hx hb dX10_crowd_49 (lv_at hl 0 rfl) ?_
                refine zz_iald (v := (c48 vi175)) S hw 3 rfl (vp_in_nI (n := vi175) (by omega) (by decide)) (congrArg c48 (nI_clamp (n := vi175) (by omega))) dX10_crowd_51 ?_
                refine lv_iload hx hb dX10_crowd_52 (lv_at hl 2 rfl) ?_
                refine lv_icmp_ne (tgt := 60) hx hb dX10_crowd_54 (by decide) (fun c54_227 => ?_) (fun c54_227 => ?_)
                · skip
                  refine lv_iinc (v := (nI (vi175 + 1))) (lv' := [(6, .int (nI (vi175 + 1))), (5, .int vy193), (4, .int (nI vi4)), (3, .int vy114), (2, .int vy115), (0, .ref (r 0)), (1, .int (nI vq3))]) hx hb dX10_crowd_60 hl (k := 0) rfl (nI_add _ 1) (by decide) rfl (fun ls hl => ?_)
                  refine lv_goto (tgt := 31) hx hb dX10_crowd_63 (by decide) ?_
                  exact ih31 (vi175 + 1) vy193 _ _ _ (by omega) (by omega) (by first | exact zS_1 hv31_210 (zC_1 (by assumption)) | exact zS_0 hv31_210 (zC_0 (by assumption))) hw (lv_sub hl [0, 1, 2, 3, 4, 5, 6] rfl)
                · skip
                  refine lv_iinc (v := (vy193 + 1)) (lv' := [(5, .int (vy193 + 1)), (6, .int (nI vi175)), (4, .int (nI vi4)), (3, .int vy114), (2, .int vy115), (0, .ref (r 0)), (1, .int (nI vq3))]) hx hb dX10_crowd_57 hl (k := 1) rfl (rfl) (by decide) rfl (fun ls hl => ?_)
                  refine lv_iinc (v := (nI (vi175 + 1))) (lv' := [(6, .int (nI (vi175 + 1))), (5, .int (vy193 + 1)), (4, .int (nI vi4)), (3, .int vy114), (2, .int vy115), (0, .ref (r 0)), (1, .int (nI vq3))]) hx hb dX10_crowd_60 hl (k := 1) rfl (nI_add _ 1) (by decide) rfl (fun ls hl => ?_)
                  refine lv_goto (tgt := 31) hx hb dX10_crowd_63 (by decide) ?_
                  exact ih31 (vi175 + 1) (vy193 + 1) _ _ _ (by omega) (by omega) (by first | exact zS_1 hv31_210 (zC_1 (by assumption)) | exact zS_0 hv31_210 (zC_0 (by assumption))) hw (lv_sub hl [0, 1, 2, 3, 4, 5, 6] rfl)
          exact lp31_211 (pp + 1 - 0) 0 0 _ _ _ (by omega) (by omega) rfl hw (lv_sub hl [0, 1, 2, 3, 4, 5, 6] rfl)
    exact lp18_172 (24 + 1 - 0) 0 0 0 _ _ _ (by omega) (by omega) rfl hw (lv_sub hl [0, 1, 2, 3, 4] rfl)
  · skip
    refine lv_iconst (v := (-1)) hx hb dX10_crowd_9 (by decide) ?_
    exact hret _ _ _ _ _ _ ⟨(-1), rfl, rfl, (by first | exact zA0 (zz_innI (n := 1) (by omega) hq3_1 (by assumption)) | exact zA1 ⟨_, by omega, rfl⟩ (zP_0 (zB_e hdry (by omega)) (by assumption)) | exact zA1 ⟨_, by omega, rfl⟩ (zP_1 (zB_e hdry (by omega)) (by assumption)))⟩ hw rfl dX10_crowd_10
theorem kd_ncX10_seenAs : kd_ck 894015665195488476617009601963930666 15 cX10_seenAs.data.toList 0 = true := by decide +kernel
theorem dX10_seenAs_0 : decode cX10_seenAs 0 = .ok (.aload_n 0, 1) := kd_dk0 kd_o42 kd_ncX10_seenAs rfl
theorem dX10_seenAs_1 : decode cX10_seenAs 1 = .ok (.getfield 110, 3) := kd_dk2 kd_o180 kd_ncX10_seenAs rfl
theorem dX10_seenAs_4 : decode cX10_seenAs 4 = .ok (.bipush 27, 2) := kd_dj1 kd_o16 (w := 27) kd_ncX10_seenAs rfl rfl
theorem dX10_seenAs_6 : decode cX10_seenAs 6 = .ok (.bipush 6, 2) := kd_dj1 kd_o16 (w := 6) kd_ncX10_seenAs rfl rfl
theorem dX10_seenAs_8 : decode cX10_seenAs 8 = .ok (.iload_n 1, 1) := kd_dk0 kd_o27 kd_ncX10_seenAs rfl
theorem dX10_seenAs_9 : decode cX10_seenAs 9 = .ok (.imul, 1) := kd_dk0 kd_o104 kd_ncX10_seenAs rfl
theorem dX10_seenAs_10 : decode cX10_seenAs 10 = .ok (.iadd, 1) := kd_dk0 kd_o96 kd_ncX10_seenAs rfl
theorem dX10_seenAs_11 : decode cX10_seenAs 11 = .ok (.iload_n 2, 1) := kd_dk0 kd_o28 kd_ncX10_seenAs rfl
theorem dX10_seenAs_12 : decode cX10_seenAs 12 = .ok (.iadd, 1) := kd_dk0 kd_o96 kd_ncX10_seenAs rfl
theorem dX10_seenAs_13 : decode cX10_seenAs 13 = .ok (.iaload, 1) := kd_dk0 kd_o46 kd_ncX10_seenAs rfl
theorem dX10_seenAs_14 : decode cX10_seenAs 14 = .ok (.ireturn, 1) := kd_dk0 kd_o172 kd_ncX10_seenAs rfl
set_option maxHeartbeats 8000000 in
set_option maxRecDepth 100000 in
theorem c_x_seenAs (l : Launch) (G : zz_G) (r : Nat → Nat) (j0 : Int32) (j2 : Int32) (j4 : Int32) (j10 : Int32) (j11 : Int32) (j12 : Int32) (j13 : Int32) (j14 : Int32) (j15 : Int32) (j16 : Int32) (j17 : Int32) (j18 : Int32) (j19 : Int32) (j20 : Int32) (j34 : Int32) (j40 : Int32) (j44 : Int32) (j47 : Int32) (j50 : Int32) (j51 : Int32) (j56 : Int32) (j61 : Int32) (c48 : Nat → Int32) (pe : Nat) (pa : Nat) (hpx : pe < 7) (hpy : pa < 6) : zz_M l G mX10_seenAs 0 0 0 [.ref (r 0), .int (nI pe), .int (nI pa)] [((r 0), .inr (10, (zz_mo r [(0, j0), (2, j2), (4, j4), (10, j10), (11, j11), (12, j12), (13, j13), (14, j14), (15, j15), (16, j16), (17, j17), (18, j18), (19, j19), (20, j20), (34, j34), (40, j40), (44, j44), (47, j47), (50, j50), (51, j51), (56, j56), (61, j61)]))), ((r 48), .inl (G.2 0, 71, .inl c48))] (fun rr u => ∃ (rv : Int32), rr = some (.int rv) ∧ u = [((r 0), .inr (10, (zz_mo r [(0, j0), (2, j2), (4, j4), (10, j10), (11, j11), (12, j12), (13, j13), (14, j14), (15, j15), (16, j16), (17, j17), (18, j18), (19, j19), (20, j20), (34, j34), (40, j40), (44, j44), (47, j47), (50, j50), (51, j51), (56, j56), (61, j61)]))), ((r 48), .inl (G.2 0, 71, .inl c48))] ∧ (rv = c48 (27 + 6 * pe + pa))) := by
  refine zz_enteri (by decide +kernel) (Nat.le_of_ble_eq_true rfl) ?_
  intro p e s m args below meth c A Q ls S hnm hret hw hl
  have hl : lv_has ls 3 [(0, .ref (r 0)), (1, .int (nI pe)), (2, .int (nI pa))] := hl
  have hx := S.1
  have hb := S.2.1
  refine lv_aload_n hx hb dX10_seenAs_0 rfl (lv_at hl 0 rfl) ?_
  refine zz_get (v := .ref (r 48)) S hw fgX10_110 0 rfl rfl dX10_seenAs_1 ?_
  refine lv_bipush (v := 27) hx hb dX10_seenAs_4 (by decide) ?_
  refine lv_bipush (v := 6) hx hb dX10_seenAs_6 (by decide) ?_
  refine lv_iload_n hx hb dX10_seenAs_8 rfl (lv_at hl 1 rfl) ?_
  refine lv_imul hx hb dX10_seenAs_9 ?_
  refine zz_topi (y := (nI (6 * pe))) (pk_mul _ _) ?_
  refine lv_iadd hx hb dX10_seenAs_10 ?_
  refine zz_topi (y := (nI (27 + (6 * pe)))) (nI_add _ _) ?_
  refine lv_iload_n hx hb dX10_seenAs_11 rfl (lv_at hl 2 rfl) ?_
  refine lv_iadd hx hb dX10_seenAs_12 ?_
  refine zz_topi (y := (nI ((27 + (6 * pe)) + pa))) (nI_add _ _) ?_
  refine zz_iald (v := (c48 ((27 + (6 * pe)) + pa))) S hw 1 rfl (vp_in_nI (n := ((27 + (6 * pe)) + pa)) (by omega) (by decide)) (congrArg c48 (nI_clamp (n := ((27 + (6 * pe)) + pa)) (by omega))) dX10_seenAs_13 ?_
  exact hret _ _ _ _ _ _ ⟨(c48 ((27 + (6 * pe)) + pa)), rfl, rfl, rfl⟩ hw rfl dX10_seenAs_14
theorem kd_ncX10_habit : kd_ck 952635162834592372659491315697965931860376906069209710335284678028723105000503349860271686779767456739641811557210502786551743574278475945778736742877622915911578920884905963931413542602072271084471694032718340182907690 91 cX10_habit.data.toList 0 = true := by decide +kernel
theorem dX10_habit_0 : decode cX10_habit 0 = .ok (.aload_n 0, 1) := kd_dk0 kd_o42 kd_ncX10_habit rfl
theorem dX10_habit_1 : decode cX10_habit 1 = .ok (.iload_n 1, 1) := kd_dk0 kd_o27 kd_ncX10_habit rfl
theorem dX10_habit_2 : decode cX10_habit 2 = .ok (.invokevirtual 373, 3) := kd_dk2 kd_o182 kd_ncX10_habit rfl
theorem dX10_habit_5 : decode cX10_habit 5 = .ok (.ifCond .eq 12, 3) := kd_dj2 kd_o153 (w := 12) kd_ncX10_habit rfl rfl
theorem dX10_habit_8 : decode cX10_habit 8 = .ok (.iload_n 2, 1) := kd_dk0 kd_o28 kd_ncX10_habit rfl
theorem dX10_habit_9 : decode cX10_habit 9 = .ok (.iconst 0, 1) := kd_dk0 kd_o3 kd_ncX10_habit rfl
theorem dX10_habit_10 : decode cX10_habit 10 = .ok (.iconst 1, 1) := kd_dk0 kd_o4 kd_ncX10_habit rfl
theorem dX10_habit_11 : decode cX10_habit 11 = .ok (.invokestatic 313, 3) := kd_dk2 kd_o184 kd_ncX10_habit rfl
theorem dX10_habit_14 : decode cX10_habit 14 = .ok (.ifCond .ne 5, 3) := kd_dj2 kd_o154 (w := 5) kd_ncX10_habit rfl rfl
theorem dX10_habit_17 : decode cX10_habit 17 = .ok (.iconst (-1), 1) := kd_dk0 kd_o2 kd_ncX10_habit rfl
theorem dX10_habit_18 : decode cX10_habit 18 = .ok (.ireturn, 1) := kd_dk0 kd_o172 kd_ncX10_habit rfl
theorem dX10_habit_19 : decode cX10_habit 19 = .ok (.bipush (-2), 2) := kd_dj1 kd_o16 (w := 254) kd_ncX10_habit rfl rfl
theorem dX10_habit_21 : decode cX10_habit 21 = .ok (.istore_n 3, 1) := kd_dk0 kd_o62 kd_ncX10_habit rfl
theorem dX10_habit_22 : decode cX10_habit 22 = .ok (.iconst 0, 1) := kd_dk0 kd_o3 kd_ncX10_habit rfl
theorem dX10_habit_23 : decode cX10_habit 23 = .ok (.istore 4, 2) := kd_dk1 kd_o54 kd_ncX10_habit rfl
theorem dX10_habit_25 : decode cX10_habit 25 = .ok (.iload 4, 2) := kd_dk1 kd_o21 kd_ncX10_habit rfl
theorem dX10_habit_27 : decode cX10_habit 27 = .ok (.aload_n 0, 1) := kd_dk0 kd_o42 kd_ncX10_habit rfl
theorem dX10_habit_28 : decode cX10_habit 28 = .ok (.getfield 55, 3) := kd_dk2 kd_o180 kd_ncX10_habit rfl
theorem dX10_habit_31 : decode cX10_habit 31 = .ok (.aload_n 0, 1) := kd_dk0 kd_o42 kd_ncX10_habit rfl
theorem dX10_habit_32 : decode cX10_habit 32 = .ok (.getfield 236, 3) := kd_dk2 kd_o180 kd_ncX10_habit rfl
theorem dX10_habit_35 : decode cX10_habit 35 = .ok (.iaload, 1) := kd_dk0 kd_o46 kd_ncX10_habit rfl
theorem dX10_habit_36 : decode cX10_habit 36 = .ok (.if_icmp .ge 36, 3) := kd_dj2 kd_o162 (w := 36) kd_ncX10_habit rfl rfl
theorem dX10_habit_39 : decode cX10_habit 39 = .ok (.aload_n 0, 1) := kd_dk0 kd_o42 kd_ncX10_habit rfl
theorem dX10_habit_40 : decode cX10_habit 40 = .ok (.iload_n 1, 1) := kd_dk0 kd_o27 kd_ncX10_habit rfl
theorem dX10_habit_41 : decode cX10_habit 41 = .ok (.iload 4, 2) := kd_dk1 kd_o21 kd_ncX10_habit rfl
theorem dX10_habit_43 : decode cX10_habit 43 = .ok (.invokevirtual 439, 3) := kd_dk2 kd_o182 kd_ncX10_habit rfl
theorem dX10_habit_46 : decode cX10_habit 46 = .ok (.iload_n 3, 1) := kd_dk0 kd_o29 kd_ncX10_habit rfl
theorem dX10_habit_47 : decode cX10_habit 47 = .ok (.ifCond .ge 7, 3) := kd_dj2 kd_o156 (w := 7) kd_ncX10_habit rfl rfl
theorem dX10_habit_50 : decode cX10_habit 50 = .ok (.iconst 0, 1) := kd_dk0 kd_o3 kd_ncX10_habit rfl
theorem dX10_habit_51 : decode cX10_habit 51 = .ok (.goto 9, 3) := kd_dj2 kd_o167 (w := 9) kd_ncX10_habit rfl rfl
theorem dX10_habit_54 : decode cX10_habit 54 = .ok (.aload_n 0, 1) := kd_dk0 kd_o42 kd_ncX10_habit rfl
theorem dX10_habit_55 : decode cX10_habit 55 = .ok (.iload_n 1, 1) := kd_dk0 kd_o27 kd_ncX10_habit rfl
theorem dX10_habit_56 : decode cX10_habit 56 = .ok (.iload_n 3, 1) := kd_dk0 kd_o29 kd_ncX10_habit rfl
theorem dX10_habit_57 : decode cX10_habit 57 = .ok (.invokevirtual 439, 3) := kd_dk2 kd_o182 kd_ncX10_habit rfl
theorem dX10_habit_60 : decode cX10_habit 60 = .ok (.if_icmp .le 6, 3) := kd_dj2 kd_o164 (w := 6) kd_ncX10_habit rfl rfl
theorem dX10_habit_63 : decode cX10_habit 63 = .ok (.iload 4, 2) := kd_dk1 kd_o21 kd_ncX10_habit rfl
theorem dX10_habit_65 : decode cX10_habit 65 = .ok (.istore_n 3, 1) := kd_dk0 kd_o62 kd_ncX10_habit rfl
theorem dX10_habit_66 : decode cX10_habit 66 = .ok (.iinc 4 1, 3) := kd_dji kd_o132 (w := 1) kd_ncX10_habit rfl rfl
theorem dX10_habit_69 : decode cX10_habit 69 = .ok (.goto (-44), 3) := kd_dj2 kd_o167 (w := 65492) kd_ncX10_habit rfl rfl
theorem dX10_habit_72 : decode cX10_habit 72 = .ok (.iload_n 3, 1) := kd_dk0 kd_o29 kd_ncX10_habit rfl
theorem dX10_habit_73 : decode cX10_habit 73 = .ok (.ifCond .lt 7, 3) := kd_dj2 kd_o155 (w := 7) kd_ncX10_habit rfl rfl
theorem dX10_habit_76 : decode cX10_habit 76 = .ok (.iload_n 2, 1) := kd_dk0 kd_o28 kd_ncX10_habit rfl
theorem dX10_habit_77 : decode cX10_habit 77 = .ok (.ifCond .ne 7, 3) := kd_dj2 kd_o154 (w := 7) kd_ncX10_habit rfl rfl
theorem dX10_habit_80 : decode cX10_habit 80 = .ok (.iload_n 3, 1) := kd_dk0 kd_o29 kd_ncX10_habit rfl
theorem dX10_habit_81 : decode cX10_habit 81 = .ok (.goto 9, 3) := kd_dj2 kd_o167 (w := 9) kd_ncX10_habit rfl rfl
theorem dX10_habit_84 : decode cX10_habit 84 = .ok (.aload_n 0, 1) := kd_dk0 kd_o42 kd_ncX10_habit rfl
theorem dX10_habit_85 : decode cX10_habit 85 = .ok (.iload_n 1, 1) := kd_dk0 kd_o27 kd_ncX10_habit rfl
theorem dX10_habit_86 : decode cX10_habit 86 = .ok (.iload_n 3, 1) := kd_dk0 kd_o29 kd_ncX10_habit rfl
theorem dX10_habit_87 : decode cX10_habit 87 = .ok (.invokevirtual 439, 3) := kd_dk2 kd_o182 kd_ncX10_habit rfl
theorem dX10_habit_90 : decode cX10_habit 90 = .ok (.ireturn, 1) := kd_dk0 kd_o172 kd_ncX10_habit rfl
set_option maxHeartbeats 8000000 in
set_option maxRecDepth 100000 in
theorem c_x_habit (l : Launch) (G : zz_G) (r : Nat → Nat) (j0 : Int32) (j2 : Int32) (j4 : Int32) (j10 : Int32) (j11 : Int32) (j12 : Int32) (j13 : Int32) (j14 : Int32) (j15 : Int32) (j16 : Int32) (j17 : Int32) (j19 : Int32) (j20 : Int32) (j34 : Int32) (j40 : Int32) (j44 : Int32) (j47 : Int32) (j50 : Int32) (j51 : Int32) (j56 : Int32) (j61 : Int32) (lv : Nat) (pp : Nat) (pq : Nat) (c22 : Nat → Int32) (c26 : Nat → Int32) (c48 : Nat → Int32) (ar1 : Int32) (ar2 : Int32) (hlv : lv ≤ 1) (hpe : c22 lv = nI pp) (hpp : pp ≤ 7) (hpa : c26 lv = nI pq) (hpq : pq ≤ 6) : zz_M l G mX10_habit 2 0 0 [.ref (r 0), .int ar1, .int ar2] [((r 0), .inr (10, (zz_mo r [(0, j0), (2, j2), (4, j4), (10, j10), (11, j11), (12, j12), (13, j13), (14, j14), (15, j15), (16, j16), (17, j17), (18, (nI lv)), (19, j19), (20, j20), (34, j34), (40, j40), (44, j44), (47, j47), (50, j50), (51, j51), (56, j56), (61, j61)]))), ((r 22), .inl (G.2 0, 2, .inl c22)), ((r 26), .inl (G.2 0, 2, .inl c26)), ((r 48), .inl (G.2 0, 71, .inl c48))] (fun rr u => ∃ (rv : Int32), rr = some (.int rv) ∧ u = [((r 0), .inr (10, (zz_mo r [(0, j0), (2, j2), (4, j4), (10, j10), (11, j11), (12, j12), (13, j13), (14, j14), (15, j15), (16, j16), (17, j17), (18, (nI lv)), (19, j19), (20, j20), (34, j34), (40, j40), (44, j44), (47, j47), (50, j50), (51, j51), (56, j56), (61, j61)]))), ((r 22), .inl (G.2 0, 2, .inl c22)), ((r 26), .inl (G.2 0, 2, .inl c26)), ((r 48), .inl (G.2 0, 71, .inl c48))] ∧ (zA (zz_In pp ar1 ∧ zz_In 2 ar2) (∃ a : Nat, a < pp ∧ ar1 = nI a ∧ rv = zP2 ar2 (zB (-2, 0) (fun p => c48 (27 + 6 * a + p)) pq)) rv (-1))) := by
  refine zz_enteri (by decide +kernel) (Nat.le_of_ble_eq_true rfl) ?_
  intro p e s m args below meth c A Q ls S hnm hret hw hl
  have hl : lv_has ls 5 [(0, .ref (r 0)), (1, .int ar1), (2, .int ar2)] := hl
  have hx := S.1
  have hb := S.2.1
  refine lv_aload_n hx hb dX10_habit_0 rfl (lv_at hl 0 rfl) ?_
  refine lv_iload_n hx hb dX10_habit_1 rfl (lv_at hl 1 rfl) ?_
  refine zz_callV (qb := 0) (As := [.int ar1]) (rest := []) (wr := [((r 26), .inl (G.2 0, 2, .inl c26)), ((r 48), .inl (G.2 0, 71, .inl c48))]) S hw hl.1 lX10_373 (c_x_isPerson l G r j0 j2 j4 j10 j11 j12 j13 j14 j15 j16 j17 j19 j20 j34 j40 j44 j47 j50 j51 j56 j61 lv pp c22 ar1 (by first | assumption | omega | exact Or.inr ⟨_, by omega, rfl⟩ | (unfold zz_sok; decide) | decide | exact (fun j hj => (hv7 j hj).1)) (by first | assumption | omega | exact Or.inr ⟨_, by omega, rfl⟩ | (unfold zz_sok; decide) | decide | exact (fun j hj => (hv7 j hj).1)) (by first | assumption | omega | exact Or.inr ⟨_, by omega, rfl⟩ | (unfold zz_sok; decide) | decide | exact (fun j hj => (hv7 j hj).1))) ⟨Nat.le_of_ble_eq_true rfl, Nat.le_of_ble_eq_true rfl⟩ ⟨Nat.le_of_ble_eq_true rfl, Nat.le_of_ble_eq_true rfl⟩ [0, 1] [2, 3] (by decide) rfl rfl (by decide) (by decide) rfl rfl rfl rfl (Nat.le_of_ble_eq_true rfl) dX10_habit_2 ?_
  clear hw
  intro rr u H locs hp hw
  refine hp.elim fun rv_1 zg0 => zg0.elim fun zee1 zg1 => zg1.elim fun zee2 zg2 => zg2.elim fun hq2_0 zg3 => zg3.elim fun hq2_1 hq2_2 => ?_
  clear hp zg0 zg1 zg2 zg3
  subst zee1
  subst zee2
  replace hw : zz_w G A s [((r 26), .inl (G.2 0, 2, .inl c26)), ((r 48), .inl (G.2 0, 71, .inl c48)), ((r 0), .inr (10, (zz_mo r [(0, j0), (2, j2), (4, j4), (10, j10), (11, j11), (12, j12), (13, j13), (14, j14), (15, j15), (16, j16), (17, j17), (18, (nI lv)), (19, j19), (20, j20), (34, j34), (40, j40), (44, j44), (47, j47), (50, j50), (51, j51), (56, j56), (61, j61)]))), ((r 22), .inl (G.2 0, 2, .inl c22))] H _ := hw
  refine W.eq (g2 := F0 m 5 ls [.int rv_1]) rfl ?_
  refine lv_if_eq (tgt := 17) hx hb dX10_habit_5 (by decide) (fun c5_2 => ?_) (fun c5_2 => ?_)
  · skip
    refine lv_iconst (v := (-1)) hx hb dX10_habit_17 (by decide) ?_
    exact hret _ _ _ _ _ _ ⟨(-1), rfl, rfl, (by first | exact zA0 (fun z => hq2_1 (by assumption) z.1) | exact zA0 (fun z => zz_innI (n := 1) (by omega) hq11_1 (by assumption) z.2) | exact zA1 ⟨⟨_, by assumption, rfl⟩, ⟨_, by omega, rfl⟩⟩ ⟨_, by assumption, rfl, zA_he2 hdry (by omega) (by omega) hq87_0 (by assumption)⟩ | exact zA1 ⟨⟨_, by assumption, rfl⟩, ⟨_, by omega, rfl⟩⟩ ⟨_, by assumption, rfl, zA_he hdry (by omega) (Or.inl (by assumption))⟩ | exact zA1 ⟨⟨_, by assumption, rfl⟩, ⟨_, by omega, rfl⟩⟩ ⟨_, by assumption, rfl, zA_he hdry (by omega) (Or.inr (by assumption))⟩)⟩ (hw.sub [2, 3, 0, 1] (by decide) rfl) rfl dX10_habit_18
  · skip
    obtain ⟨vq3, hvq3, rfl⟩ := hq2_0.resolve_left c5_2
    refine lv_iload_n hx hb dX10_habit_8 rfl (lv_at hl 2 rfl) ?_
    refine lv_iconst (v := 0) hx hb dX10_habit_9 (by decide) ?_
    refine lv_iconst (v := 1) hx hb dX10_habit_10 (by decide) ?_
    refine zz_callS (As := [.int ar2, .int 0, .int 1]) (rest := []) (wr := [((r 26), .inl (G.2 0, 2, .inl c26)), ((r 48), .inl (G.2 0, 71, .inl c48)), ((r 0), .inr (10, (zz_mo r [(0, j0), (2, j2), (4, j4), (10, j10), (11, j11), (12, j12), (13, j13), (14, j14), (15, j15), (16, j16), (17, j17), (18, (nI lv)), (19, j19), (20, j20), (34, j34), (40, j40), (44, j44), (47, j47), (50, j50), (51, j51), (56, j56), (61, j61)]))), ((r 22), .inl (G.2 0, 2, .inl c22))]) S hw hl.1 lX10_313 (c_x_in l G ar2 0 1) ⟨Nat.le_of_ble_eq_true rfl, Nat.le_of_ble_eq_true rfl⟩ ⟨Nat.le_of_ble_eq_true rfl, Nat.le_of_ble_eq_true rfl⟩ [] [0, 1, 2, 3] (by decide) rfl rfl (by decide) (by decide) rfl rfl (Nat.le_of_ble_eq_true rfl) dX10_habit_11 ?_
    clear hw
    intro rr u H locs hp hw
    refine hp.elim fun rv_4 zg0 => zg0.elim fun zee1 zg1 => zg1.elim fun zee2 zg2 => zg2.elim fun hq11_0 zg3 => zg3.elim fun hq11_1 hq11_2 => ?_
    clear hp zg0 zg1 zg2 zg3
    subst zee1
    subst zee2
    replace hw : zz_w G A s [((r 26), .inl (G.2 0, 2, .inl c26)), ((r 48), .inl (G.2 0, 71, .inl c48)), ((r 0), .inr (10, (zz_mo r [(0, j0), (2, j2), (4, j4), (10, j10), (11, j11), (12, j12), (13, j13), (14, j14), (15, j15), (16, j16), (17, j17), (18, (nI lv)), (19, j19), (20, j20), (34, j34), (40, j40), (44, j44), (47, j47), (50, j50), (51, j51), (56, j56), (61, j61)]))), ((r 22), .inl (G.2 0, 2, .inl c22))] H _ := hw
    refine W.eq (g2 := F0 m 14 ls [.int rv_4]) rfl ?_
    refine lv_if_ne (tgt := 19) hx hb dX10_habit_14 (by decide) (fun c14_5 => ?_) (fun c14_5 => ?_)
    · skip
      have hq11_0i := hq11_0.resolve_left c14_5
      obtain ⟨vq6, hvq6, rfl⟩ : ∃ k : Nat, k ≤ 1 ∧ ar2 = nI k := zz_rng (zz_lo0 hq11_0i.1) hq11_0i.2 (by omega)
      refine lv_bipush (v := (-2)) hx hb dX10_habit_19 (by decide) ?_
      refine lv_istore_n (lv' := [(3, .int (-2)), (0, .ref (r 0)), (1, .int (nI vq3)), (2, .int (nI vq6))]) hx hb dX10_habit_21 rfl hl (by decide) rfl (fun ls hl => ?_)
      refine lv_iconst (v := 0) hx hb dX10_habit_22 (by decide) ?_
      refine lv_istore (lv' := [(4, .int 0), (3, .int (-2)), (0, .ref (r 0)), (1, .int (nI vq3)), (2, .int (nI vq6))]) hx hb dX10_habit_23 hl (by decide) rfl (fun ls hl => ?_)
      have lp25_28 : ∀ (vn8 vi7 : Nat) (vy14 : Int32) (H : Heap) (locs : List Loc) (ls : Array Slot), vi7 ≤ pq → pq < vi7 + vn8 → zz_ok 6 vy14 → zA_hb (fun p => c48 (27 + 6 * vq3 + p)) vy14 vi7 → zz_w G A s [((r 26), .inl (G.2 0, 2, .inl c26)), ((r 48), .inl (G.2 0, 71, .inl c48)), ((r 0), .inr (10, (zz_mo r [(0, j0), (2, j2), (4, j4), (10, j10), (11, j11), (12, j12), (13, j13), (14, j14), (15, j15), (16, j16), (17, j17), (18, (nI lv)), (19, j19), (20, j20), (34, j34), (40, j40), (44, j44), (47, j47), (50, j50), (51, j51), (56, j56), (61, j61)]))), ((r 22), .inl (G.2 0, 2, .inl c22))] H locs → lv_has ls 5 [(4, .int (nI vi7)), (3, .int vy14), (0, .ref (r 0)), (1, .int (nI vq3)), (2, .int (nI vq6))] → W p l e (zz_rm 2 0 0) s m args below meth c H locs (0) (0) Q (F0 m 25 ls []) := by
        intro vn8
        induction vn8 with
        | zero => intro vi7 vy14 H locs ls hi1 hi2; exact absurd hi2 (by omega)
        | succ vn8 ih25 =>
          intro vi7 vy14 H locs ls hi25a hi25b hv25_26 hv25_27 hw hl
          refine lv_iload hx hb dX10_habit_25 (lv_at hl 0 rfl) ?_
          refine lv_aload_n hx hb dX10_habit_27 rfl (lv_at hl 2 rfl) ?_
          refine W.eq (g2 := F0 m 28 ls [.ref (r 0), .int (nI vi7)]) rfl ?_
          refine zz_get (v := .ref (r 26)) S hw fgX10_55 2 rfl rfl dX10_habit_28 ?_
          refine lv_aload_n hx hb dX10_habit_31 rfl (lv_at hl 2 rfl) ?_
          refine zz_get (v := .int (nI lv)) S hw fgX10_236 2 rfl rfl dX10_habit_32 ?_
          refine zz_iald (v := (nI pq)) S hw 0 rfl (vp_in_nI (n := lv) (by omega) (by decide)) (by rw [show ((nI lv) : Int32).toNatClampNeg = lv from nI_clamp (n := lv) (by omega)]; exact hpa) dX10_habit_35 ?_
          refine lv_icmp_ge (tgt := 72) hx hb dX10_habit_36 (by decide) (fun c36_29 => ?_) (fun c36_29 => ?_)
          · skip
            have c36_29n : pq ≤ vi7 := (zz_le (a := pq) (b := vi7) rfl rfl (by omega) (by omega)).mp c36_29
            refine lv_iload_n hx hb dX10_habit_72 rfl (lv_at hl 1 rfl) ?_
            refine lv_if_lt (tgt := 80) hx hb dX10_habit_73 (by decide) (fun c73_30 => ?_) (fun c73_30 => ?_)
            · skip
              refine lv_iload_n hx hb dX10_habit_80 rfl (lv_at hl 1 rfl) ?_
              refine lv_goto (tgt := 90) hx hb dX10_habit_81 (by decide) ?_
              exact hret _ _ _ _ _ _ ⟨vy14, rfl, rfl, (by first | exact zA0 (fun z => hq2_1 (by assumption) z.1) | exact zA0 (fun z => zz_innI (n := 1) (by omega) hq11_1 (by assumption) z.2) | exact zA1 ⟨⟨_, by assumption, rfl⟩, ⟨_, by omega, rfl⟩⟩ ⟨_, by assumption, rfl, zA_he2 hv25_27 (by omega) (by omega) hq87_0 (by assumption)⟩ | exact zA1 ⟨⟨_, by assumption, rfl⟩, ⟨_, by omega, rfl⟩⟩ ⟨_, by assumption, rfl, zA_he hv25_27 (by omega) (Or.inl (by assumption))⟩ | exact zA1 ⟨⟨_, by assumption, rfl⟩, ⟨_, by omega, rfl⟩⟩ ⟨_, by assumption, rfl, zA_he hv25_27 (by omega) (Or.inr (by assumption))⟩)⟩ (hw.sub [2, 3, 0, 1] (by decide) rfl) rfl dX10_habit_90
            · skip
              obtain ⟨vq31, hvq31, rfl⟩ := zz_okn (show zz_ok 6 vy14 from by assumption) c73_30
              refine lv_iload_n hx hb dX10_habit_76 rfl (lv_at hl 4 rfl) ?_
              refine lv_if_ne (tgt := 84) hx hb dX10_habit_77 (by decide) (fun c77_32 => ?_) (fun c77_32 => ?_)
              · skip
                have c77_32n : ¬ (vq6 = 0) := fun z => c77_32 ((zz_eq (a := vq6) (b := 0) rfl rfl (by omega) (by omega)).mpr z)
                refine lv_aload_n hx hb dX10_habit_84 rfl (lv_at hl 2 rfl) ?_
                refine lv_iload_n hx hb dX10_habit_85 rfl (lv_at hl 3 rfl) ?_
                refine lv_iload_n hx hb dX10_habit_86 rfl (lv_at hl 1 rfl) ?_
                refine zz_callV (qb := 2) (As := [.int (nI vq3), .int (nI vq31)]) (rest := []) (wr := [((r 26), .inl (G.2 0, 2, .inl c26)), ((r 22), .inl (G.2 0, 2, .inl c22))]) S hw hl.1 lX10_439 (c_x_seenAs l G r j0 j2 j4 j10 j11 j12 j13 j14 j15 j16 j17 (nI lv) j19 j20 j34 j40 j44 j47 j50 j51 j56 j61 c48 vq3 vq31 (by first | assumption | omega | exact Or.inr ⟨_, by omega, rfl⟩ | (unfold zz_sok; decide) | decide | exact (fun j hj => (hv7 j hj).1)) (by first | assumption | omega | exact Or.inr ⟨_, by omega, rfl⟩ | (unfold zz_sok; decide) | decide | exact (fun j hj => (hv7 j hj).1))) ⟨Nat.le_of_ble_eq_true rfl, Nat.le_of_ble_eq_true rfl⟩ ⟨Nat.le_of_ble_eq_true rfl, Nat.le_of_ble_eq_true rfl⟩ [2, 1] [0, 3] (by decide) rfl rfl (by decide) (by decide) rfl rfl rfl rfl (Nat.le_of_ble_eq_true rfl) dX10_habit_87 ?_
                clear hw
                intro rr u H locs hp hw
                refine hp.elim fun rv_33 zg0 => zg0.elim fun zee1 zg1 => zg1.elim fun zee2 hq87_0 => ?_
                clear hp zg0 zg1
                subst zee1
                subst zee2
                replace hw : zz_w G A s [((r 26), .inl (G.2 0, 2, .inl c26)), ((r 22), .inl (G.2 0, 2, .inl c22)), ((r 0), .inr (10, (zz_mo r [(0, j0), (2, j2), (4, j4), (10, j10), (11, j11), (12, j12), (13, j13), (14, j14), (15, j15), (16, j16), (17, j17), (18, (nI lv)), (19, j19), (20, j20), (34, j34), (40, j40), (44, j44), (47, j47), (50, j50), (51, j51), (56, j56), (61, j61)]))), ((r 48), .inl (G.2 0, 71, .inl c48))] H _ := hw
                refine W.eq (g2 := F0 m 90 ls [.int rv_33]) rfl ?_
                exact hret _ _ _ _ _ _ ⟨rv_33, rfl, rfl, (by first | exact zA0 (fun z => hq2_1 (by assumption) z.1) | exact zA0 (fun z => zz_innI (n := 1) (by omega) hq11_1 (by assumption) z.2) | exact zA1 ⟨⟨_, by assumption, rfl⟩, ⟨_, by omega, rfl⟩⟩ ⟨_, by assumption, rfl, zA_he2 hv25_27 (by omega) (by omega) hq87_0 (by assumption)⟩ | exact zA1 ⟨⟨_, by assumption, rfl⟩, ⟨_, by omega, rfl⟩⟩ ⟨_, by assumption, rfl, zA_he hv25_27 (by omega) (Or.inl (by assumption))⟩ | exact zA1 ⟨⟨_, by assumption, rfl⟩, ⟨_, by omega, rfl⟩⟩ ⟨_, by assumption, rfl, zA_he hv25_27 (by omega) (Or.inr (by assumption))⟩)⟩ (hw.sub [2, 1, 0, 3] (by decide) rfl) rfl dX10_habit_90
              · skip
                have c77_32n : vq6 = 0 := (zz_eq (a := vq6) (b := 0) rfl rfl (by omega) (by omega)).mp c77_32
                refine lv_iload_n hx hb dX10_habit_80 rfl (lv_at hl 1 rfl) ?_
                refine lv_goto (tgt := 90) hx hb dX10_habit_81 (by decide) ?_
                refine W.eq (g2 := F0 m 90 ls [.int (nI vq31)]) rfl ?_
                exact hret _ _ _ _ _ _ ⟨(nI vq31), rfl, rfl, (by first | exact zA0 (fun z => hq2_1 (by assumption) z.1) | exact zA0 (fun z => zz_innI (n := 1) (by omega) hq11_1 (by assumption) z.2) | exact zA1 ⟨⟨_, by assumption, rfl⟩, ⟨_, by omega, rfl⟩⟩ ⟨_, by assumption, rfl, zA_he2 hv25_27 (by omega) (by omega) hq87_0 (by assumption)⟩ | exact zA1 ⟨⟨_, by assumption, rfl⟩, ⟨_, by omega, rfl⟩⟩ ⟨_, by assumption, rfl, zA_he hv25_27 (by omega) (Or.inl (by assumption))⟩ | exact zA1 ⟨⟨_, by assumption, rfl⟩, ⟨_, by omega, rfl⟩⟩ ⟨_, by assumption, rfl, zA_he hv25_27 (by omega) (Or.inr (by assumption))⟩)⟩ (hw.sub [2, 3, 0, 1] (by decide) rfl) rfl dX10_habit_90
          · skip
            have c36_29n : ¬ (pq ≤ vi7) := fun z => c36_29 ((zz_le (a := pq) (b := vi7) rfl rfl (by omega) (by omega)).mpr z)
            refine lv_aload_n hx hb dX10_habit_39 rfl (lv_at hl 2 rfl) ?_
            refine lv_iload_n hx hb dX10_habit_40 rfl (lv_at hl 3 rfl) ?_
            refine lv_iload hx hb dX10_habit_41 (lv_at hl 0 rfl) ?_
            refine zz_callV (qb := 2) (As := [.int (nI vq3), .int (nI vi7)]) (rest := []) (wr := [((r 26), .inl (G.2 0, 2, .inl c26)), ((r 22), .inl (G.2 0, 2, .inl c22))]) S hw hl.1 lX10_439 (c_x_seenAs l G r j0 j2 j4 j10 j11 j12 j13 j14 j15 j16 j17 (nI lv) j19 j20 j34 j40 j44 j47 j50 j51 j56 j61 c48 vq3 vi7 (by first | assumption | omega | exact Or.inr ⟨_, by omega, rfl⟩ | (unfold zz_sok; decide) | decide | exact (fun j hj => (hv7 j hj).1)) (by first | assumption | omega | exact Or.inr ⟨_, by omega, rfl⟩ | (unfold zz_sok; decide) | decide | exact (fun j hj => (hv7 j hj).1))) ⟨Nat.le_of_ble_eq_true rfl, Nat.le_of_ble_eq_true rfl⟩ ⟨Nat.le_of_ble_eq_true rfl, Nat.le_of_ble_eq_true rfl⟩ [2, 1] [0, 3] (by decide) rfl rfl (by decide) (by decide) rfl rfl rfl rfl (Nat.le_of_ble_eq_true rfl) dX10_habit_43 ?_
            clear hw
            intro rr u H locs hp hw
            refine hp.elim fun rv_34 zg0 => zg0.elim fun zee1 zg1 => zg1.elim fun zee2 hq43_0 => ?_
            clear hp zg0 zg1
            subst zee1
            subst zee2
            replace hw : zz_w G A s [((r 26), .inl (G.2 0, 2, .inl c26)), ((r 22), .inl (G.2 0, 2, .inl c22)), ((r 0), .inr (10, (zz_mo r [(0, j0), (2, j2), (4, j4), (10, j10), (11, j11), (12, j12), (13, j13), (14, j14), (15, j15), (16, j16), (17, j17), (18, (nI lv)), (19, j19), (20, j20), (34, j34), (40, j40), (44, j44), (47, j47), (50, j50), (51, j51), (56, j56), (61, j61)]))), ((r 48), .inl (G.2 0, 71, .inl c48))] H _ := hw
            refine W.eq (g2 := F0 m 46 ls [.int rv_34]) rfl ?_
            refine lv_iload_n hx hb dX10_habit_46 rfl (lv_at hl 1 rfl) ?_
            refine lv_if_ge (tgt := 54) hx hb dX10_habit_47 (by decide) (fun c47_35 => ?_) (fun c47_35 => ?_)
            · skip
              obtain ⟨vq36, hvq36, rfl⟩ := zz_okn (show zz_ok 6 vy14 from by assumption) (Int32.not_lt.mpr c47_35)
              refine lv_aload_n hx hb dX10_habit_54 rfl (lv_at hl 2 rfl) ?_
              refine lv_iload_n hx hb dX10_habit_55 rfl (lv_at hl 3 rfl) ?_
              refine lv_iload_n hx hb dX10_habit_56 rfl (lv_at hl 1 rfl) ?_
              refine zz_callV (qb := 2) (As := [.int (nI vq3), .int (nI vq36)]) (rest := [.int rv_34]) (wr := [((r 26), .inl (G.2 0, 2, .inl c26)), ((r 22), .inl (G.2 0, 2, .inl c22))]) S hw hl.1 lX10_439 (c_x_seenAs l G r j0 j2 j4 j10 j11 j12 j13 j14 j15 j16 j17 (nI lv) j19 j20 j34 j40 j44 j47 j50 j51 j56 j61 c48 vq3 vq36 (by first | assumption | omega | exact Or.inr ⟨_, by omega, rfl⟩ | (unfold zz_sok; decide) | decide | exact (fun j hj => (hv7 j hj).1)) (by first | assumption | omega | exact Or.inr ⟨_, by omega, rfl⟩ | (unfold zz_sok; decide) | decide | exact (fun j hj => (hv7 j hj).1))) ⟨Nat.le_of_ble_eq_true rfl, Nat.le_of_ble_eq_true rfl⟩ ⟨Nat.le_of_ble_eq_true rfl, Nat.le_of_ble_eq_true rfl⟩ [2, 3] [0, 1] (by decide) rfl rfl (by decide) (by decide) rfl rfl rfl rfl (Nat.le_of_ble_eq_true rfl) dX10_habit_57 ?_
              clear hw
              intro rr u H locs hp hw
              refine hp.elim fun rv_37 zg0 => zg0.elim fun zee1 zg1 => zg1.elim fun zee2 hq57_0 => ?_
              clear hp zg0 zg1
              subst zee1
              subst zee2
              replace hw : zz_w G A s [((r 26), .inl (G.2 0, 2, .inl c26)), ((r 22), .inl (G.2 0, 2, .inl c22)), ((r 0), .inr (10, (zz_mo r [(0, j0), (2, j2), (4, j4), (10, j10), (11, j11), (12, j12), (13, j13), (14, j14), (15, j15), (16, j16), (17, j17), (18, (nI lv)), (19, j19), (20, j20), (34, j34), (40, j40), (44, j44), (47, j47), (50, j50), (51, j51), (56, j56), (61, j61)]))), ((r 48), .inl (G.2 0, 71, .inl c48))] H _ := hw
              refine W.eq (g2 := F0 m 60 ls [.int rv_37, .int rv_34]) rfl ?_
              refine lv_icmp_le (tgt := 66) hx hb dX10_habit_60 (by decide) (fun c60_38 => ?_) (fun c60_38 => ?_)
              · skip
                refine lv_iinc (v := (nI (vi7 + 1))) (lv' := [(4, .int (nI (vi7 + 1))), (3, .int (nI vq36)), (0, .ref (r 0)), (1, .int (nI vq3)), (2, .int (nI vq6))]) hx hb dX10_habit_66 hl (k := 0) rfl (nI_add _ 1) (by decide) rfl (fun ls hl => ?_)
                refine lv_goto (tgt := 25) hx hb dX10_habit_69 (by decide) ?_
                exact ih25 (vi7 + 1) (nI vq36) _ _ _ (by omega) (by omega) (by first | assumption | omega | exact Or.inl rfl | exact Or.inr ⟨_, by omega, rfl⟩ | exact zz_oku (by assumption) (by first | exact Or.inl rfl | exact Or.inr ⟨_, by omega, rfl⟩)) (by first | exact zA_hn hv25_27 (by first | assumption | exact Int32.not_le.mp (by assumption)) hq43_0 (by first | assumption | exact Int32.not_lt.mpr (by assumption)) | exact zA_hy hv25_27 (by first | assumption | exact Int32.not_le.mp (by assumption)) hq43_0 (by first | assumption | exact Int32.not_le.mp (by assumption)) (by omega) | exact zA_hn2 hv25_27 (by omega) hq57_0 hq43_0 (by first | assumption | exact Int32.not_lt.mpr (by assumption)) | exact zA_hy2 hv25_27 (by omega) hq57_0 hq43_0 (by first | assumption | exact Int32.not_le.mp (by assumption)) (by omega)) (hw.sub [0, 3, 2, 1] (by decide) rfl) (lv_sub hl [0, 1, 2, 3, 4] rfl)
              · skip
                refine lv_iload hx hb dX10_habit_63 (lv_at hl 0 rfl) ?_
                refine lv_istore_n (lv' := [(3, .int (nI vi7)), (4, .int (nI vi7)), (0, .ref (r 0)), (1, .int (nI vq3)), (2, .int (nI vq6))]) hx hb dX10_habit_65 rfl hl (by decide) rfl (fun ls hl => ?_)
                refine lv_iinc (v := (nI (vi7 + 1))) (lv' := [(4, .int (nI (vi7 + 1))), (3, .int (nI vi7)), (0, .ref (r 0)), (1, .int (nI vq3)), (2, .int (nI vq6))]) hx hb dX10_habit_66 hl (k := 1) rfl (nI_add _ 1) (by decide) rfl (fun ls hl => ?_)
                refine W.eq (g2 := F0 m 69 ls []) rfl ?_
                refine lv_goto (tgt := 25) hx hb dX10_habit_69 (by decide) ?_
                exact ih25 (vi7 + 1) (nI vi7) _ _ _ (by omega) (by omega) (by first | assumption | omega | exact Or.inl rfl | exact Or.inr ⟨_, by omega, rfl⟩ | exact zz_oku (by assumption) (by first | exact Or.inl rfl | exact Or.inr ⟨_, by omega, rfl⟩)) (by first | exact zA_hn hv25_27 (by first | assumption | exact Int32.not_le.mp (by assumption)) hq43_0 (by first | assumption | exact Int32.not_lt.mpr (by assumption)) | exact zA_hy hv25_27 (by first | assumption | exact Int32.not_le.mp (by assumption)) hq43_0 (by first | assumption | exact Int32.not_le.mp (by assumption)) (by omega) | exact zA_hn2 hv25_27 (by omega) hq57_0 hq43_0 (by first | assumption | exact Int32.not_lt.mpr (by assumption)) | exact zA_hy2 hv25_27 (by omega) hq57_0 hq43_0 (by first | assumption | exact Int32.not_le.mp (by assumption)) (by omega)) (hw.sub [0, 3, 2, 1] (by decide) rfl) (lv_sub hl [0, 1, 2, 3, 4] rfl)
            · skip
              refine lv_iconst (v := 0) hx hb dX10_habit_50 (by decide) ?_
              refine lv_goto (tgt := 60) hx hb dX10_habit_51 (by decide) ?_
              refine lv_icmp_le (tgt := 66) hx hb dX10_habit_60 (by decide) (fun c60_39 => ?_) (fun c60_39 => ?_)
              · skip
                refine lv_iinc (v := (nI (vi7 + 1))) (lv' := [(4, .int (nI (vi7 + 1))), (3, .int vy14), (0, .ref (r 0)), (1, .int (nI vq3)), (2, .int (nI vq6))]) hx hb dX10_habit_66 hl (k := 0) rfl (nI_add _ 1) (by decide) rfl (fun ls hl => ?_)
                refine lv_goto (tgt := 25) hx hb dX10_habit_69 (by decide) ?_
                exact ih25 (vi7 + 1) vy14 _ _ _ (by omega) (by omega) (by first | assumption | omega | exact Or.inl rfl | exact Or.inr ⟨_, by omega, rfl⟩ | exact zz_oku (by assumption) (by first | exact Or.inl rfl | exact Or.inr ⟨_, by omega, rfl⟩)) (by first | exact zA_hn hv25_27 (by first | assumption | exact Int32.not_le.mp (by assumption)) hq43_0 (by first | assumption | exact Int32.not_lt.mpr (by assumption)) | exact zA_hy hv25_27 (by first | assumption | exact Int32.not_le.mp (by assumption)) hq43_0 (by first | assumption | exact Int32.not_le.mp (by assumption)) (by omega) | exact zA_hn2 hv25_27 (by omega) hq57_0 hq43_0 (by first | assumption | exact Int32.not_lt.mpr (by assumption)) | exact zA_hy2 hv25_27 (by omega) hq57_0 hq43_0 (by first | assumption | exact Int32.not_le.mp (by assumption)) (by omega)) (hw.sub [0, 3, 2, 1] (by decide) rfl) (lv_sub hl [0, 1, 2, 3, 4] rfl)
              · skip
                refine lv_iload hx hb dX10_habit_63 (lv_at hl 0 rfl) ?_
                refine lv_istore_n (lv' := [(3, .int (nI vi7)), (4, .int (nI vi7)), (0, .ref (r 0)), (1, .int (nI vq3)), (2, .int (nI vq6))]) hx hb dX10_habit_65 rfl hl (by decide) rfl (fun ls hl => ?_)
                refine lv_iinc (v := (nI (vi7 + 1))) (lv' := [(4, .int (nI (vi7 + 1))), (3, .int (nI vi7)), (0, .ref (r 0)), (1, .int (nI vq3)), (2, .int (nI vq6))]) hx hb dX10_habit_66 hl (k := 1) rfl (nI_add _ 1) (by decide) rfl (fun ls hl => ?_)
                refine lv_goto (tgt := 25) hx hb dX10_habit_69 (by decide) ?_
                exact ih25 (vi7 + 1) (nI vi7) _ _ _ (by omega) (by omega) (by first | assumption | omega | exact Or.inl rfl | exact Or.inr ⟨_, by omega, rfl⟩ | exact zz_oku (by assumption) (by first | exact Or.inl rfl | exact Or.inr ⟨_, by omega, rfl⟩)) (by first | exact zA_hn hv25_27 (by first | assumption | exact Int32.not_le.mp (by assumption)) hq43_0 (by first | assumption | exact Int32.not_lt.mpr (by assumption)) | exact zA_hy hv25_27 (by first | assumption | exact Int32.not_le.mp (by assumption)) hq43_0 (by first | assumption | exact Int32.not_le.mp (by assumption)) (by omega) | exact zA_hn2 hv25_27 (by omega) hq57_0 hq43_0 (by first | assumption | exact Int32.not_lt.mpr (by assumption)) | exact zA_hy2 hv25_27 (by omega) hq57_0 hq43_0 (by first | assumption | exact Int32.not_le.mp (by assumption)) (by omega)) (hw.sub [0, 3, 2, 1] (by decide) rfl) (lv_sub hl [0, 1, 2, 3, 4] rfl)
      exact lp25_28 (pq + 1 - 0) 0 (-2) _ _ _ (by omega) (by omega) (by first | assumption | omega | exact Or.inl rfl | exact Or.inr ⟨_, by omega, rfl⟩ | exact zz_oku (by assumption) (by first | exact Or.inl rfl | exact Or.inr ⟨_, by omega, rfl⟩)) zA_h0 hw (lv_sub hl [0, 1, 2, 3, 4] rfl)
    · skip
      refine lv_iconst (v := (-1)) hx hb dX10_habit_17 (by decide) ?_
      exact hret _ _ _ _ _ _ ⟨(-1), rfl, rfl, (by first | exact zA0 (fun z => hq2_1 (by assumption) z.1) | exact zA0 (fun z => zz_innI (n := 1) (by omega) hq11_1 (by assumption) z.2) | exact zA1 ⟨⟨_, by assumption, rfl⟩, ⟨_, by omega, rfl⟩⟩ ⟨_, by assumption, rfl, zA_he2 hdry (by omega) (by omega) hq87_0 (by assumption)⟩ | exact zA1 ⟨⟨_, by assumption, rfl⟩, ⟨_, by omega, rfl⟩⟩ ⟨_, by assumption, rfl, zA_he hdry (by omega) (Or.inl (by assumption))⟩ | exact zA1 ⟨⟨_, by assumption, rfl⟩, ⟨_, by omega, rfl⟩⟩ ⟨_, by assumption, rfl, zA_he hdry (by omega) (Or.inr (by assumption))⟩)⟩ (hw.sub [2, 3, 0, 1] (by decide) rfl) rfl dX10_habit_18
theorem kd_ncX10_regular : kd_ck 952635162832033979839333625183694286466748913802144020009128234749128566063349482710718532558440131964343229888498379011135485337507249535738652759715727280396773386799274713165843591605237846295387244149967993487891242 91 cX10_regular.data.toList 0 = true := by decide +kernel
theorem dX10_regular_0 : decode cX10_regular 0 = .ok (.aload_n 0, 1) := kd_dk0 kd_o42 kd_ncX10_regular rfl
theorem dX10_regular_1 : decode cX10_regular 1 = .ok (.iload_n 1, 1) := kd_dk0 kd_o27 kd_ncX10_regular rfl
theorem dX10_regular_2 : decode cX10_regular 2 = .ok (.invokevirtual 382, 3) := kd_dk2 kd_o182 kd_ncX10_regular rfl
theorem dX10_regular_5 : decode cX10_regular 5 = .ok (.ifCond .eq 12, 3) := kd_dj2 kd_o153 (w := 12) kd_ncX10_regular rfl rfl
theorem dX10_regular_8 : decode cX10_regular 8 = .ok (.iload_n 2, 1) := kd_dk0 kd_o28 kd_ncX10_regular rfl
theorem dX10_regular_9 : decode cX10_regular 9 = .ok (.iconst 0, 1) := kd_dk0 kd_o3 kd_ncX10_regular rfl
theorem dX10_regular_10 : decode cX10_regular 10 = .ok (.iconst 1, 1) := kd_dk0 kd_o4 kd_ncX10_regular rfl
theorem dX10_regular_11 : decode cX10_regular 11 = .ok (.invokestatic 313, 3) := kd_dk2 kd_o184 kd_ncX10_regular rfl
theorem dX10_regular_14 : decode cX10_regular 14 = .ok (.ifCond .ne 5, 3) := kd_dj2 kd_o154 (w := 5) kd_ncX10_regular rfl rfl
theorem dX10_regular_17 : decode cX10_regular 17 = .ok (.iconst (-1), 1) := kd_dk0 kd_o2 kd_ncX10_regular rfl
theorem dX10_regular_18 : decode cX10_regular 18 = .ok (.ireturn, 1) := kd_dk0 kd_o172 kd_ncX10_regular rfl
theorem dX10_regular_19 : decode cX10_regular 19 = .ok (.bipush (-2), 2) := kd_dj1 kd_o16 (w := 254) kd_ncX10_regular rfl rfl
theorem dX10_regular_21 : decode cX10_regular 21 = .ok (.istore_n 3, 1) := kd_dk0 kd_o62 kd_ncX10_regular rfl
theorem dX10_regular_22 : decode cX10_regular 22 = .ok (.iconst 0, 1) := kd_dk0 kd_o3 kd_ncX10_regular rfl
theorem dX10_regular_23 : decode cX10_regular 23 = .ok (.istore 4, 2) := kd_dk1 kd_o54 kd_ncX10_regular rfl
theorem dX10_regular_25 : decode cX10_regular 25 = .ok (.iload 4, 2) := kd_dk1 kd_o21 kd_ncX10_regular rfl
theorem dX10_regular_27 : decode cX10_regular 27 = .ok (.aload_n 0, 1) := kd_dk0 kd_o42 kd_ncX10_regular rfl
theorem dX10_regular_28 : decode cX10_regular 28 = .ok (.getfield 43, 3) := kd_dk2 kd_o180 kd_ncX10_regular rfl
theorem dX10_regular_31 : decode cX10_regular 31 = .ok (.aload_n 0, 1) := kd_dk0 kd_o42 kd_ncX10_regular rfl
theorem dX10_regular_32 : decode cX10_regular 32 = .ok (.getfield 236, 3) := kd_dk2 kd_o180 kd_ncX10_regular rfl
theorem dX10_regular_35 : decode cX10_regular 35 = .ok (.iaload, 1) := kd_dk0 kd_o46 kd_ncX10_regular rfl
theorem dX10_regular_36 : decode cX10_regular 36 = .ok (.if_icmp .ge 36, 3) := kd_dj2 kd_o162 (w := 36) kd_ncX10_regular rfl rfl
theorem dX10_regular_39 : decode cX10_regular 39 = .ok (.aload_n 0, 1) := kd_dk0 kd_o42 kd_ncX10_regular rfl
theorem dX10_regular_40 : decode cX10_regular 40 = .ok (.iload 4, 2) := kd_dk1 kd_o21 kd_ncX10_regular rfl
theorem dX10_regular_42 : decode cX10_regular 42 = .ok (.iload_n 1, 1) := kd_dk0 kd_o27 kd_ncX10_regular rfl
theorem dX10_regular_43 : decode cX10_regular 43 = .ok (.invokevirtual 439, 3) := kd_dk2 kd_o182 kd_ncX10_regular rfl
theorem dX10_regular_46 : decode cX10_regular 46 = .ok (.iload_n 3, 1) := kd_dk0 kd_o29 kd_ncX10_regular rfl
theorem dX10_regular_47 : decode cX10_regular 47 = .ok (.ifCond .ge 7, 3) := kd_dj2 kd_o156 (w := 7) kd_ncX10_regular rfl rfl
theorem dX10_regular_50 : decode cX10_regular 50 = .ok (.iconst 0, 1) := kd_dk0 kd_o3 kd_ncX10_regular rfl
theorem dX10_regular_51 : decode cX10_regular 51 = .ok (.goto 9, 3) := kd_dj2 kd_o167 (w := 9) kd_ncX10_regular rfl rfl
theorem dX10_regular_54 : decode cX10_regular 54 = .ok (.aload_n 0, 1) := kd_dk0 kd_o42 kd_ncX10_regular rfl
theorem dX10_regular_55 : decode cX10_regular 55 = .ok (.iload_n 3, 1) := kd_dk0 kd_o29 kd_ncX10_regular rfl
theorem dX10_regular_56 : decode cX10_regular 56 = .ok (.iload_n 1, 1) := kd_dk0 kd_o27 kd_ncX10_regular rfl
theorem dX10_regular_57 : decode cX10_regular 57 = .ok (.invokevirtual 439, 3) := kd_dk2 kd_o182 kd_ncX10_regular rfl
theorem dX10_regular_60 : decode cX10_regular 60 = .ok (.if_icmp .le 6, 3) := kd_dj2 kd_o164 (w := 6) kd_ncX10_regular rfl rfl
theorem dX10_regular_63 : decode cX10_regular 63 = .ok (.iload 4, 2) := kd_dk1 kd_o21 kd_ncX10_regular rfl
theorem dX10_regular_65 : decode cX10_regular 65 = .ok (.istore_n 3, 1) := kd_dk0 kd_o62 kd_ncX10_regular rfl
theorem dX10_regular_66 : decode cX10_regular 66 = .ok (.iinc 4 1, 3) := kd_dji kd_o132 (w := 1) kd_ncX10_regular rfl rfl
theorem dX10_regular_69 : decode cX10_regular 69 = .ok (.goto (-44), 3) := kd_dj2 kd_o167 (w := 65492) kd_ncX10_regular rfl rfl
theorem dX10_regular_72 : decode cX10_regular 72 = .ok (.iload_n 3, 1) := kd_dk0 kd_o29 kd_ncX10_regular rfl
theorem dX10_regular_73 : decode cX10_regular 73 = .ok (.ifCond .lt 7, 3) := kd_dj2 kd_o155 (w := 7) kd_ncX10_regular rfl rfl
theorem dX10_regular_76 : decode cX10_regular 76 = .ok (.iload_n 2, 1) := kd_dk0 kd_o28 kd_ncX10_regular rfl
theorem dX10_regular_77 : decode cX10_regular 77 = .ok (.ifCond .ne 7, 3) := kd_dj2 kd_o154 (w := 7) kd_ncX10_regular rfl rfl
theorem dX10_regular_80 : decode cX10_regular 80 = .ok (.iload_n 3, 1) := kd_dk0 kd_o29 kd_ncX10_regular rfl
theorem dX10_regular_81 : decode cX10_regular 81 = .ok (.goto 9, 3) := kd_dj2 kd_o167 (w := 9) kd_ncX10_regular rfl rfl
theorem dX10_regular_84 : decode cX10_regular 84 = .ok (.aload_n 0, 1) := kd_dk0 kd_o42 kd_ncX10_regular rfl
theorem dX10_regular_85 : decode cX10_regular 85 = .ok (.iload_n 3, 1) := kd_dk0 kd_o29 kd_ncX10_regular rfl
theorem dX10_regular_86 : decode cX10_regular 86 = .ok (.iload_n 1, 1) := kd_dk0 kd_o27 kd_ncX10_regular rfl
theorem dX10_regular_87 : decode cX10_regular 87 = .ok (.invokevirtual 439, 3) := kd_dk2 kd_o182 kd_ncX10_regular rfl
theorem dX10_regular_90 : decode cX10_regular 90 = .ok (.ireturn, 1) := kd_dk0 kd_o172 kd_ncX10_regular rfl
set_option maxHeartbeats 8000000 in
set_option maxRecDepth 100000 in
theorem c_x_regular (l : Launch) (G : zz_G) (r : Nat → Nat) (j0 : Int32) (j2 : Int32) (j4 : Int32) (j10 : Int32) (j11 : Int32) (j12 : Int32) (j13 : Int32) (j14 : Int32) (j15 : Int32) (j16 : Int32) (j17 : Int32) (j19 : Int32) (j20 : Int32) (j34 : Int32) (j40 : Int32) (j44 : Int32) (j47 : Int32) (j50 : Int32) (j51 : Int32) (j56 : Int32) (j61 : Int32) (lv : Nat) (pp : Nat) (pq : Nat) (c22 : Nat → Int32) (c26 : Nat → Int32) (c48 : Nat → Int32) (ar1 : Int32) (ar2 : Int32) (hlv : lv ≤ 1) (hpe : c22 lv = nI pp) (hpp : pp ≤ 7) (hpa : c26 lv = nI pq) (hpq : pq ≤ 6) : zz_M l G mX10_regular 2 0 0 [.ref (r 0), .int ar1, .int ar2] [((r 0), .inr (10, (zz_mo r [(0, j0), (2, j2), (4, j4), (10, j10), (11, j11), (12, j12), (13, j13), (14, j14), (15, j15), (16, j16), (17, j17), (18, (nI lv)), (19, j19), (20, j20), (34, j34), (40, j40), (44, j44), (47, j47), (50, j50), (51, j51), (56, j56), (61, j61)]))), ((r 22), .inl (G.2 0, 2, .inl c22)), ((r 26), .inl (G.2 0, 2, .inl c26)), ((r 48), .inl (G.2 0, 71, .inl c48))] (fun rr u => ∃ (rv : Int32), rr = some (.int rv) ∧ u = [((r 0), .inr (10, (zz_mo r [(0, j0), (2, j2), (4, j4), (10, j10), (11, j11), (12, j12), (13, j13), (14, j14), (15, j15), (16, j16), (17, j17), (18, (nI lv)), (19, j19), (20, j20), (34, j34), (40, j40), (44, j44), (47, j47), (50, j50), (51, j51), (56, j56), (61, j61)]))), ((r 22), .inl (G.2 0, 2, .inl c22)), ((r 26), .inl (G.2 0, 2, .inl c26)), ((r 48), .inl (G.2 0, 71, .inl c48))] ∧ (zA (zz_In pq ar1 ∧ zz_In 2 ar2) (∃ a : Nat, a < pq ∧ ar1 = nI a ∧ rv = zP2 ar2 (zB (-2, 0) (fun p => c48 (27 + 6 * p + a)) pp)) rv (-1))) := by
  refine zz_enteri (by decide +kernel) (Nat.le_of_ble_eq_true rfl) ?_
  intro p e s m args below meth c A Q ls S hnm hret hw hl
  have hl : lv_has ls 5 [(0, .ref (r 0)), (1, .int ar1), (2, .int ar2)] := hl
  have hx := S.1
  have hb := S.2.1
  refine lv_aload_n hx hb dX10_regular_0 rfl (lv_at hl 0 rfl) ?_
  refine lv_iload_n hx hb dX10_regular_1 rfl (lv_at hl 1 rfl) ?_
  refine zz_callV (qb := 0) (As := [.int ar1]) (rest := []) (wr := [((r 22), .inl (G.2 0, 2, .inl c22)), ((r 48), .inl (G.2 0, 71, .inl c48))]) S hw hl.1 lX10_382 (c_x_isPart l G r j0 j2 j4 j10 j11 j12 j13 j14 j15 j16 j17 j19 j20 j34 j40 j44 j47 j50 j51 j56 j61 lv pq c26 ar1 (by first | assumption | omega | exact Or.inr ⟨_, by omega, rfl⟩ | (unfold zz_sok; decide) | decide | exact (fun j hj => (hv7 j hj).1)) (by first | assumption | omega | exact Or.inr ⟨_, by omega, rfl⟩ | (unfold zz_sok; decide) | decide | exact (fun j hj => (hv7 j hj).1)) (by first | assumption | omega | exact Or.inr ⟨_, by omega, rfl⟩ | (unfold zz_sok; decide) | decide | exact (fun j hj => (hv7 j hj).1))) ⟨Nat.le_of_ble_eq_true rfl, Nat.le_of_ble_eq_true rfl⟩ ⟨Nat.le_of_ble_eq_true rfl, Nat.le_of_ble_eq_true rfl⟩ [0, 2] [1, 3] (by decide) rfl rfl (by decide) (by decide) rfl rfl rfl rfl (Nat.le_of_ble_eq_true rfl) dX10_regular_2 ?_
  clear hw
  intro rr u H locs hp hw
  refine hp.elim fun rv_1 zg0 => zg0.elim fun zee1 zg1 => zg1.elim fun zee2 zg2 => zg2.elim fun hq2_0 zg3 => zg3.elim fun hq2_1 hq2_2 => ?_
  clear hp zg0 zg1 zg2 zg3
  subst zee1
  subst zee2
  replace hw : zz_w G A s [((r 22), .inl (G.2 0, 2, .inl c22)), ((r 48), .inl (G.2 0, 71, .inl c48)), ((r 0), .inr (10, (zz_mo r [(0, j0), (2, j2), (4, j4), (10, j10), (11, j11), (12, j12), (13, j13), (14, j14), (15, j15), (16, j16), (17, j17), (18, (nI lv)), (19, j19), (20, j20), (34, j34), (40, j40), (44, j44), (47, j47), (50, j50), (51, j51), (56, j56), (61, j61)]))), ((r 26), .inl (G.2 0, 2, .inl c26))] H _ := hw
  refine W.eq (g2 := F0 m 5 ls [.int rv_1]) rfl ?_
  refine lv_if_eq (tgt := 17) hx hb dX10_regular_5 (by decide) (fun c5_2 => ?_) (fun c5_2 => ?_)
  · skip
    refine lv_iconst (v := (-1)) hx hb dX10_regular_17 (by decide) ?_
    exact hret _ _ _ _ _ _ ⟨(-1), rfl, rfl, (by first | exact zA0 (fun z => hq2_1 (by assumption) z.1) | exact zA0 (fun z => zz_innI (n := 1) (by omega) hq11_1 (by assumption) z.2) | exact zA1 ⟨⟨_, by assumption, rfl⟩, ⟨_, by omega, rfl⟩⟩ ⟨_, by assumption, rfl, zA_he2 hdry (by omega) (by omega) hq87_0 (by assumption)⟩ | exact zA1 ⟨⟨_, by assumption, rfl⟩, ⟨_, by omega, rfl⟩⟩ ⟨_, by assumption, rfl, zA_he hdry (by omega) (Or.inl (by assumption))⟩ | exact zA1 ⟨⟨_, by assumption, rfl⟩, ⟨_, by omega, rfl⟩⟩ ⟨_, by assumption, rfl, zA_he hdry (by omega) (Or.inr (by assumption))⟩)⟩ (hw.sub [2, 0, 3, 1] (by decide) rfl) rfl dX10_regular_18
  · skip
    obtain ⟨vq3, hvq3, rfl⟩ := hq2_0.resolve_left c5_2
    refine lv_iload_n hx hb dX10_regular_8 rfl (lv_at hl 2 rfl) ?_
    refine lv_iconst (v := 0) hx hb dX10_regular_9 (by decide) ?_
    refine lv_iconst (v := 1) hx hb dX10_regular_10 (by decide) ?_
    refine zz_callS (As := [.int ar2, .int 0, .int 1]) (rest := []) (wr := [((r 22), .inl (G.2 0, 2, .inl c22)), ((r 48), .inl (G.2 0, 71, .inl c48)), ((r 0), .inr (10, (zz_mo r [(0, j0), (2, j2), (4, j4), (10, j10), (11, j11), (12, j12), (13, j13), (14, j14), (15, j15), (16, j16), (17, j17), (18, (nI lv)), (19, j19), (20, j20), (34, j34), (40, j40), (44, j44), (47, j47), (50, j50), (51, j51), (56, j56), (61, j61)]))), ((r 26), .inl (G.2 0, 2, .inl c26))]) S hw hl.1 lX10_313 (c_x_in l G ar2 0 1) ⟨Nat.le_of_ble_eq_true rfl, Nat.le_of_ble_eq_true rfl⟩ ⟨Nat.le_of_ble_eq_true rfl, Nat.le_of_ble_eq_true rfl⟩ [] [0, 1, 2, 3] (by decide) rfl rfl (by decide) (by decide) rfl rfl (Nat.le_of_ble_eq_true rfl) dX10_regular_11 ?_
    clear hw
    intro rr u H locs hp hw
    refine hp.elim fun rv_4 zg0 => zg0.elim fun zee1 zg1 => zg1.elim fun zee2 zg2 => zg2.elim fun hq11_0 zg3 => zg3.elim fun hq11_1 hq11_2 => ?_
    clear hp zg0 zg1 zg2 zg3
    subst zee1
    subst zee2
    replace hw : zz_w G A s [((r 22), .inl (G.2 0, 2, .inl c22)), ((r 48), .inl (G.2 0, 71, .inl c48)), ((r 0), .inr (10, (zz_mo r [(0, j0), (2, j2), (4, j4), (10, j10), (11, j11), (12, j12), (13, j13), (14, j14), (15, j15), (16, j16), (17, j17), (18, (nI lv)), (19, j19), (20, j20), (34, j34), (40, j40), (44, j44), (47, j47), (50, j50), (51, j51), (56, j56), (61, j61)]))), ((r 26), .inl (G.2 0, 2, .inl c26))] H _ := hw
    refine W.eq (g2 := F0 m 14 ls [.int rv_4]) rfl ?_
    refine lv_if_ne (tgt := 19) hx hb dX10_regular_14 (by decide) (fun c14_5 => ?_) (fun c14_5 => ?_)
    · skip
      have hq11_0i := hq11_0.resolve_left c14_5
      obtain ⟨vq6, hvq6, rfl⟩ : ∃ k : Nat, k ≤ 1 ∧ ar2 = nI k := zz_rng (zz_lo0 hq11_0i.1) hq11_0i.2 (by omega)
      refine lv_bipush (v := (-2)) hx hb dX10_regular_19 (by decide) ?_
      refine lv_istore_n (lv' := [(3, .int (-2)), (0, .ref (r 0)), (1, .int (nI vq3)), (2, .int (nI vq6))]) hx hb dX10_regular_21 rfl hl (by decide) rfl (fun ls hl => ?_)
      refine lv_iconst (v := 0) hx hb dX10_regular_22 (by decide) ?_
      refine lv_istore (lv' := [(4, .int 0), (3, .int (-2)), (0, .ref (r 0)), (1, .int (nI vq3)), (2, .int (nI vq6))]) hx hb dX10_regular_23 hl (by decide) rfl (fun ls hl => ?_)
      have lp25_28 : ∀ (vn8 vi7 : Nat) (vy14 : Int32) (H : Heap) (locs : List Loc) (ls : Array Slot), vi7 ≤ pp → pp < vi7 + vn8 → zz_ok 7 vy14 → zA_hb (fun p => c48 (27 + 6 * p + vq3)) vy14 vi7 → zz_w G A s [((r 22), .inl (G.2 0, 2, .inl c22)), ((r 48), .inl (G.2 0, 71, .inl c48)), ((r 0), .inr (10, (zz_mo r [(0, j0), (2, j2), (4, j4), (10, j10), (11, j11), (12, j12), (13, j13), (14, j14), (15, j15), (16, j16), (17, j17), (18, (nI lv)), (19, j19), (20, j20), (34, j34), (40, j40), (44, j44), (47, j47), (50, j50), (51, j51), (56, j56), (61, j61)]))), ((r 26), .inl (G.2 0, 2, .inl c26))] H locs → lv_has ls 5 [(4, .int (nI vi7)), (3, .int vy14), (0, .ref (r 0)), (1, .int (nI vq3)), (2, .int (nI vq6))] → W p l e (zz_rm 2 0 0) s m args below meth c H locs (0) (0) Q (F0 m 25 ls []) := by
        intro vn8
        induction vn8 with
        | zero => intro vi7 vy14 H locs ls hi1 hi2; exact absurd hi2 (by omega)
        | succ vn8 ih25 =>
          intro vi7 vy14 H locs ls hi25a hi25b hv25_26 hv25_27 hw hl
          refine lv_iload hx hb dX10_regular_25 (lv_at hl 0 rfl) ?_
          refine lv_aload_n hx hb dX10_regular_27 rfl (lv_at hl 2 rfl) ?_
          refine W.eq (g2 := F0 m 28 ls [.ref (r 0), .int (nI vi7)]) rfl ?_
          refine zz_get (v := .ref (r 22)) S hw fgX10_43 2 rfl rfl dX10_regular_28 ?_
          refine lv_aload_n hx hb dX10_regular_31 rfl (lv_at hl 2 rfl) ?_
          refine zz_get (v := .int (nI lv)) S hw fgX10_236 2 rfl rfl dX10_regular_32 ?_
          refine zz_iald (v := (nI pp)) S hw 0 rfl (vp_in_nI (n := lv) (by omega) (by decide)) (by rw [show ((nI lv) : Int32).toNatClampNeg = lv from nI_clamp (n := lv) (by omega)]; exact hpe) dX10_regular_35 ?_
          refine lv_icmp_ge (tgt := 72) hx hb dX10_regular_36 (by decide) (fun c36_29 => ?_) (fun c36_29 => ?_)
          · skip
            have c36_29n : pp ≤ vi7 := (zz_le (a := pp) (b := vi7) rfl rfl (by omega) (by omega)).mp c36_29
            refine lv_iload_n hx hb dX10_regular_72 rfl (lv_at hl 1 rfl) ?_
            refine lv_if_lt (tgt := 80) hx hb dX10_regular_73 (by decide) (fun c73_30 => ?_) (fun c73_30 => ?_)
            · skip
              refine lv_iload_n hx hb dX10_regular_80 rfl (lv_at hl 1 rfl) ?_
              refine lv_goto (tgt := 90) hx hb dX10_regular_81 (by decide) ?_
              exact hret _ _ _ _ _ _ ⟨vy14, rfl, rfl, (by first | exact zA0 (fun z => hq2_1 (by assumption) z.1) | exact zA0 (fun z => zz_innI (n := 1) (by omega) hq11_1 (by assumption) z.2) | exact zA1 ⟨⟨_, by assumption, rfl⟩, ⟨_, by omega, rfl⟩⟩ ⟨_, by assumption, rfl, zA_he2 hv25_27 (by omega) (by omega) hq87_0 (by assumption)⟩ | exact zA1 ⟨⟨_, by assumption, rfl⟩, ⟨_, by omega, rfl⟩⟩ ⟨_, by assumption, rfl, zA_he hv25_27 (by omega) (Or.inl (by assumption))⟩ | exact zA1 ⟨⟨_, by assumption, rfl⟩, ⟨_, by omega, rfl⟩⟩ ⟨_, by assumption, rfl, zA_he hv25_27 (by omega) (Or.inr (by assumption))⟩)⟩ (hw.sub [2, 0, 3, 1] (by decide) rfl) rfl dX10_regular_90
            · skip
              obtain ⟨vq31, hvq31, rfl⟩ := zz_okn (show zz_ok 7 vy14 from by assumption) c73_30
              refine lv_iload_n hx hb dX10_regular_76 rfl (lv_at hl 4 rfl) ?_
              refine lv_if_ne (tgt := 84) hx hb dX10_regular_77 (by decide) (fun c77_32 => ?_) (fun c77_32 => ?_)
              · skip
                have c77_32n : ¬ (vq6 = 0) := fun z => c77_32 ((zz_eq (a := vq6) (b := 0) rfl rfl (by omega) (by omega)).mpr z)
                refine lv_aload_n hx hb dX10_regular_84 rfl (lv_at hl 2 rfl) ?_
                refine lv_iload_n hx hb dX10_regular_85 rfl (lv_at hl 1 rfl) ?_
                refine lv_iload_n hx hb dX10_regular_86 rfl (lv_at hl 3 rfl) ?_
                refine zz_callV (qb := 2) (As := [.int (nI vq31), .int (nI vq3)]) (rest := []) (wr := [((r 22), .inl (G.2 0, 2, .inl c22)), ((r 26), .inl (G.2 0, 2, .inl c26))]) S hw hl.1 lX10_439 (c_x_seenAs l G r j0 j2 j4 j10 j11 j12 j13 j14 j15 j16 j17 (nI lv) j19 j20 j34 j40 j44 j47 j50 j51 j56 j61 c48 vq31 vq3 (by first | assumption | omega | exact Or.inr ⟨_, by omega, rfl⟩ | (unfold zz_sok; decide) | decide | exact (fun j hj => (hv7 j hj).1)) (by first | assumption | omega | exact Or.inr ⟨_, by omega, rfl⟩ | (unfold zz_sok; decide) | decide | exact (fun j hj => (hv7 j hj).1))) ⟨Nat.le_of_ble_eq_true rfl, Nat.le_of_ble_eq_true rfl⟩ ⟨Nat.le_of_ble_eq_true rfl, Nat.le_of_ble_eq_true rfl⟩ [2, 1] [0, 3] (by decide) rfl rfl (by decide) (by decide) rfl rfl rfl rfl (Nat.le_of_ble_eq_true rfl) dX10_regular_87 ?_
                clear hw
                intro rr u H locs hp hw
                refine hp.elim fun rv_33 zg0 => zg0.elim fun zee1 zg1 => zg1.elim fun zee2 hq87_0 => ?_
                clear hp zg0 zg1
                subst zee1
                subst zee2
                replace hw : zz_w G A s [((r 22), .inl (G.2 0, 2, .inl c22)), ((r 26), .inl (G.2 0, 2, .inl c26)), ((r 0), .inr (10, (zz_mo r [(0, j0), (2, j2), (4, j4), (10, j10), (11, j11), (12, j12), (13, j13), (14, j14), (15, j15), (16, j16), (17, j17), (18, (nI lv)), (19, j19), (20, j20), (34, j34), (40, j40), (44, j44), (47, j47), (50, j50), (51, j51), (56, j56), (61, j61)]))), ((r 48), .inl (G.2 0, 71, .inl c48))] H _ := hw
                refine W.eq (g2 := F0 m 90 ls [.int rv_33]) rfl ?_
                exact hret _ _ _ _ _ _ ⟨rv_33, rfl, rfl, (by first | exact zA0 (fun z => hq2_1 (by assumption) z.1) | exact zA0 (fun z => zz_innI (n := 1) (by omega) hq11_1 (by assumption) z.2) | exact zA1 ⟨⟨_, by assumption, rfl⟩, ⟨_, by omega, rfl⟩⟩ ⟨_, by assumption, rfl, zA_he2 hv25_27 (by omega) (by omega) hq87_0 (by assumption)⟩ | exact zA1 ⟨⟨_, by assumption, rfl⟩, ⟨_, by omega, rfl⟩⟩ ⟨_, by assumption, rfl, zA_he hv25_27 (by omega) (Or.inl (by assumption))⟩ | exact zA1 ⟨⟨_, by assumption, rfl⟩, ⟨_, by omega, rfl⟩⟩ ⟨_, by assumption, rfl, zA_he hv25_27 (by omega) (Or.inr (by assumption))⟩)⟩ (hw.sub [2, 0, 1, 3] (by decide) rfl) rfl dX10_regular_90
              · skip
                have c77_32n : vq6 = 0 := (zz_eq (a := vq6) (b := 0) rfl rfl (by omega) (by omega)).mp c77_32
                refine lv_iload_n hx hb dX10_regular_80 rfl (lv_at hl 1 rfl) ?_
                refine lv_goto (tgt := 90) hx hb dX10_regular_81 (by decide) ?_
                refine W.eq (g2 := F0 m 90 ls [.int (nI vq31)]) rfl ?_
                exact hret _ _ _ _ _ _ ⟨(nI vq31), rfl, rfl, (by first | exact zA0 (fun z => hq2_1 (by assumption) z.1) | exact zA0 (fun z => zz_innI (n := 1) (by omega) hq11_1 (by assumption) z.2) | exact zA1 ⟨⟨_, by assumption, rfl⟩, ⟨_, by omega, rfl⟩⟩ ⟨_, by assumption, rfl, zA_he2 hv25_27 (by omega) (by omega) hq87_0 (by assumption)⟩ | exact zA1 ⟨⟨_, by assumption, rfl⟩, ⟨_, by omega, rfl⟩⟩ ⟨_, by assumption, rfl, zA_he hv25_27 (by omega) (Or.inl (by assumption))⟩ | exact zA1 ⟨⟨_, by assumption, rfl⟩, ⟨_, by omega, rfl⟩⟩ ⟨_, by assumption, rfl, zA_he hv25_27 (by omega) (Or.inr (by assumption))⟩)⟩ (hw.sub [2, 0, 3, 1] (by decide) rfl) rfl dX10_regular_90
          · skip
            have c36_29n : ¬ (pp ≤ vi7) := fun z => c36_29 ((zz_le (a := pp) (b := vi7) rfl rfl (by omega) (by omega)).mpr z)
            refine lv_aload_n hx hb dX10_regular_39 rfl (lv_at hl 2 rfl) ?_
            refine lv_iload hx hb dX10_regular_40 (lv_at hl 0 rfl) ?_
            refine lv_iload_n hx hb dX10_regular_42 rfl (lv_at hl 3 rfl) ?_
            refine zz_callV (qb := 2) (As := [.int (nI vi7), .int (nI vq3)]) (rest := []) (wr := [((r 22), .inl (G.2 0, 2, .inl c22)), ((r 26), .inl (G.2 0, 2, .inl c26))]) S hw hl.1 lX10_439 (c_x_seenAs l G r j0 j2 j4 j10 j11 j12 j13 j14 j15 j16 j17 (nI lv) j19 j20 j34 j40 j44 j47 j50 j51 j56 j61 c48 vi7 vq3 (by first | assumption | omega | exact Or.inr ⟨_, by omega, rfl⟩ | (unfold zz_sok; decide) | decide | exact (fun j hj => (hv7 j hj).1)) (by first | assumption | omega | exact Or.inr ⟨_, by omega, rfl⟩ | (unfold zz_sok; decide) | decide | exact (fun j hj => (hv7 j hj).1))) ⟨Nat.le_of_ble_eq_true rfl, Nat.le_of_ble_eq_true rfl⟩ ⟨Nat.le_of_ble_eq_true rfl, Nat.le_of_ble_eq_true rfl⟩ [2, 1] [0, 3] (by decide) rfl rfl (by decide) (by decide) rfl rfl rfl rfl (Nat.le_of_ble_eq_true rfl) dX10_regular_43 ?_
            clear hw
            intro rr u H locs hp hw
            refine hp.elim fun rv_34 zg0 => zg0.elim fun zee1 zg1 => zg1.elim fun zee2 hq43_0 => ?_
            clear hp zg0 zg1
            subst zee1
            subst zee2
            replace hw : zz_w G A s [((r 22), .inl (G.2 0, 2, .inl c22)), ((r 26), .inl (G.2 0, 2, .inl c26)), ((r 0), .inr (10, (zz_mo r [(0, j0), (2, j2), (4, j4), (10, j10), (11, j11), (12, j12), (13, j13), (14, j14), (15, j15), (16, j16), (17, j17), (18, (nI lv)), (19, j19), (20, j20), (34, j34), (40, j40), (44, j44), (47, j47), (50, j50), (51, j51), (56, j56), (61, j61)]))), ((r 48), .inl (G.2 0, 71, .inl c48))] H _ := hw
            refine W.eq (g2 := F0 m 46 ls [.int rv_34]) rfl ?_
            refine lv_iload_n hx hb dX10_regular_46 rfl (lv_at hl 1 rfl) ?_
            refine lv_if_ge (tgt := 54) hx hb dX10_regular_47 (by decide) (fun c47_35 => ?_) (fun c47_35 => ?_)
            · skip
              obtain ⟨vq36, hvq36, rfl⟩ := zz_okn (show zz_ok 7 vy14 from by assumption) (Int32.not_lt.mpr c47_35)
              refine lv_aload_n hx hb dX10_regular_54 rfl (lv_at hl 2 rfl) ?_
              refine lv_iload_n hx hb dX10_regular_55 rfl (lv_at hl 1 rfl) ?_
              refine lv_iload_n hx hb dX10_regular_56 rfl (lv_at hl 3 rfl) ?_
              refine zz_callV (qb := 2) (As := [.int (nI vq36), .int (nI vq3)]) (rest := [.int rv_34]) (wr := [((r 22), .inl (G.2 0, 2, .inl c22)), ((r 26), .inl (G.2 0, 2, .inl c26))]) S hw hl.1 lX10_439 (c_x_seenAs l G r j0 j2 j4 j10 j11 j12 j13 j14 j15 j16 j17 (nI lv) j19 j20 j34 j40 j44 j47 j50 j51 j56 j61 c48 vq36 vq3 (by first | assumption | omega | exact Or.inr ⟨_, by omega, rfl⟩ | (unfold zz_sok; decide) | decide | exact (fun j hj => (hv7 j hj).1)) (by first | assumption | omega | exact Or.inr ⟨_, by omega, rfl⟩ | (unfold zz_sok; decide) | decide | exact (fun j hj => (hv7 j hj).1))) ⟨Nat.le_of_ble_eq_true rfl, Nat.le_of_ble_eq_true rfl⟩ ⟨Nat.le_of_ble_eq_true rfl, Nat.le_of_ble_eq_true rfl⟩ [2, 3] [0, 1] (by decide) rfl rfl (by decide) (by decide) rfl rfl rfl rfl (Nat.le_of_ble_eq_true rfl) dX10_regular_57 ?_
              clear hw
              intro rr u H locs hp hw
              refine hp.elim fun rv_37 zg0 => zg0.elim fun zee1 zg1 => zg1.elim fun zee2 hq57_0 => ?_
              clear hp zg0 zg1
              subst zee1
              subst zee2
              replace hw : zz_w G A s [((r 22), .inl (G.2 0, 2, .inl c22)), ((r 26), .inl (G.2 0, 2, .inl c26)), ((r 0), .inr (10, (zz_mo r [(0, j0), (2, j2), (4, j4), (10, j10), (11, j11), (12, j12), (13, j13), (14, j14), (15, j15), (16, j16), (17, j17), (18, (nI lv)), (19, j19), (20, j20), (34, j34), (40, j40), (44, j44), (47, j47), (50, j50), (51, j51), (56, j56), (61, j61)]))), ((r 48), .inl (G.2 0, 71, .inl c48))] H _ := hw
              refine W.eq (g2 := F0 m 60 ls [.int rv_37, .int rv_34]) rfl ?_
              refine lv_icmp_le (tgt := 66) hx hb dX10_regular_60 (by decide) (fun c60_38 => ?_) (fun c60_38 => ?_)
              · skip
                refine lv_iinc (v := (nI (vi7 + 1))) (lv' := [(4, .int (nI (vi7 + 1))), (3, .int (nI vq36)), (0, .ref (r 0)), (1, .int (nI vq3)), (2, .int (nI vq6))]) hx hb dX10_regular_66 hl (k := 0) rfl (nI_add _ 1) (by decide) rfl (fun ls hl => ?_)
                refine lv_goto (tgt := 25) hx hb dX10_regular_69 (by decide) ?_
                exact ih25 (vi7 + 1) (nI vq36) _ _ _ (by omega) (by omega) (by first | assumption | omega | exact Or.inl rfl | exact Or.inr ⟨_, by omega, rfl⟩ | exact zz_oku (by assumption) (by first | exact Or.inl rfl | exact Or.inr ⟨_, by omega, rfl⟩)) (by first | exact zA_hn hv25_27 (by first | assumption | exact Int32.not_le.mp (by assumption)) hq43_0 (by first | assumption | exact Int32.not_lt.mpr (by assumption)) | exact zA_hy hv25_27 (by first | assumption | exact Int32.not_le.mp (by assumption)) hq43_0 (by first | assumption | exact Int32.not_le.mp (by assumption)) (by omega) | exact zA_hn2 hv25_27 (by omega) hq57_0 hq43_0 (by first | assumption | exact Int32.not_lt.mpr (by assumption)) | exact zA_hy2 hv25_27 (by omega) hq57_0 hq43_0 (by first | assumption | exact Int32.not_le.mp (by assumption)) (by omega)) (hw.sub [0, 3, 2, 1] (by decide) rfl) (lv_sub hl [0, 1, 2, 3, 4] rfl)
              · skip
                refine lv_iload hx hb dX10_regular_63 (lv_at hl 0 rfl) ?_
                refine lv_istore_n (lv' := [(3, .int (nI vi7)), (4, .int (nI vi7)), (0, .ref (r 0)), (1, .int (nI vq3)), (2, .int (nI vq6))]) hx hb dX10_regular_65 rfl hl (by decide) rfl (fun ls hl => ?_)
                refine lv_iinc (v := (nI (vi7 + 1))) (lv' := [(4, .int (nI (vi7 + 1))), (3, .int (nI vi7)), (0, .ref (r 0)), (1, .int (nI vq3)), (2, .int (nI vq6))]) hx hb dX10_regular_66 hl (k := 1) rfl (nI_add _ 1) (by decide) rfl (fun ls hl => ?_)
                refine W.eq (g2 := F0 m 69 ls []) rfl ?_
                refine lv_goto (tgt := 25) hx hb dX10_regular_69 (by decide) ?_
                exact ih25 (vi7 + 1) (nI vi7) _ _ _ (by omega) (by omega) (by first | assumption | omega | exact Or.inl rfl | exact Or.inr ⟨_, by omega, rfl⟩ | exact zz_oku (by assumption) (by first | exact Or.inl rfl | exact Or.inr ⟨_, by omega, rfl⟩)) (by first | exact zA_hn hv25_27 (by first | assumption | exact Int32.not_le.mp (by assumption)) hq43_0 (by first | assumption | exact Int32.not_lt.mpr (by assumption)) | exact zA_hy hv25_27 (by first | assumption | exact Int32.not_le.mp (by assumption)) hq43_0 (by first | assumption | exact Int32.not_le.mp (by assumption)) (by omega) | exact zA_hn2 hv25_27 (by omega) hq57_0 hq43_0 (by first | assumption | exact Int32.not_lt.mpr (by assumption)) | exact zA_hy2 hv25_27 (by omega) hq57_0 hq43_0 (by first | assumption | exact Int32.not_le.mp (by assumption)) (by omega)) (hw.sub [0, 3, 2, 1] (by decide) rfl) (lv_sub hl [0, 1, 2, 3, 4] rfl)
            · skip
              refine lv_iconst (v := 0) hx hb dX10_regular_50 (by decide) ?_
              refine lv_goto (tgt := 60) hx hb dX10_regular_51 (by decide) ?_
              refine lv_icmp_le (tgt := 66) hx hb dX10_regular_60 (by decide) (fun c60_39 => ?_) (fun c60_39 => ?_)
              · skip
                refine lv_iinc (v := (nI (vi7 + 1))) (lv' := [(4, .int (nI (vi7 + 1))), (3, .int vy14), (0, .ref (r 0)), (1, .int (nI vq3)), (2, .int (nI vq6))]) hx hb dX10_regular_66 hl (k := 0) rfl (nI_add _ 1) (by decide) rfl (fun ls hl => ?_)
                refine lv_goto (tgt := 25) hx hb dX10_regular_69 (by decide) ?_
                exact ih25 (vi7 + 1) vy14 _ _ _ (by omega) (by omega) (by first | assumption | omega | exact Or.inl rfl | exact Or.inr ⟨_, by omega, rfl⟩ | exact zz_oku (by assumption) (by first | exact Or.inl rfl | exact Or.inr ⟨_, by omega, rfl⟩)) (by first | exact zA_hn hv25_27 (by first | assumption | exact Int32.not_le.mp (by assumption)) hq43_0 (by first | assumption | exact Int32.not_lt.mpr (by assumption)) | exact zA_hy hv25_27 (by first | assumption | exact Int32.not_le.mp (by assumption)) hq43_0 (by first | assumption | exact Int32.not_le.mp (by assumption)) (by omega) | exact zA_hn2 hv25_27 (by omega) hq57_0 hq43_0 (by first | assumption | exact Int32.not_lt.mpr (by assumption)) | exact zA_hy2 hv25_27 (by omega) hq57_0 hq43_0 (by first | assumption | exact Int32.not_le.mp (by assumption)) (by omega)) (hw.sub [0, 3, 2, 1] (by decide) rfl) (lv_sub hl [0, 1, 2, 3, 4] rfl)
              · skip
                refine lv_iload hx hb dX10_regular_63 (lv_at hl 0 rfl) ?_
                refine lv_istore_n (lv' := [(3, .int (nI vi7)), (4, .int (nI vi7)), (0, .ref (r 0)), (1, .int (nI vq3)), (2, .int (nI vq6))]) hx hb dX10_regular_65 rfl hl (by decide) rfl (fun ls hl => ?_)
                refine lv_iinc (v := (nI (vi7 + 1))) (lv' := [(4, .int (nI (vi7 + 1))), (3, .int (nI vi7)), (0, .ref (r 0)), (1, .int (nI vq3)), (2, .int (nI vq6))]) hx hb dX10_regular_66 hl (k := 1) rfl (nI_add _ 1) (by decide) rfl (fun ls hl => ?_)
                refine lv_goto (tgt := 25) hx hb dX10_regular_69 (by decide) ?_
                exact ih25 (vi7 + 1) (nI vi7) _ _ _ (by omega) (by omega) (by first | assumption | omega | exact Or.inl rfl | exact Or.inr ⟨_, by omega, rfl⟩ | exact zz_oku (by assumption) (by first | exact Or.inl rfl | exact Or.inr ⟨_, by omega, rfl⟩)) (by first | exact zA_hn hv25_27 (by first | assumption | exact Int32.not_le.mp (by assumption)) hq43_0 (by first | assumption | exact Int32.not_lt.mpr (by assumption)) | exact zA_hy hv25_27 (by first | assumption | exact Int32.not_le.mp (by assumption)) hq43_0 (by first | assumption | exact Int32.not_le.mp (by assumption)) (by omega) | exact zA_hn2 hv25_27 (by omega) hq57_0 hq43_0 (by first | assumption | exact Int32.not_lt.mpr (by assumption)) | exact zA_hy2 hv25_27 (by omega) hq57_0 hq43_0 (by first | assumption | exact Int32.not_le.mp (by assumption)) (by omega)) (hw.sub [0, 3, 2, 1] (by decide) rfl) (lv_sub hl [0, 1, 2, 3, 4] rfl)
      exact lp25_28 (pp + 1 - 0) 0 (-2) _ _ _ (by omega) (by omega) (by first | assumption | omega | exact Or.inl rfl | exact Or.inr ⟨_, by omega, rfl⟩ | exact zz_oku (by assumption) (by first | exact Or.inl rfl | exact Or.inr ⟨_, by omega, rfl⟩)) zA_h0 hw (lv_sub hl [0, 1, 2, 3, 4] rfl)
    · skip
      refine lv_iconst (v := (-1)) hx hb dX10_regular_17 (by decide) ?_
      exact hret _ _ _ _ _ _ ⟨(-1), rfl, rfl, (by first | exact zA0 (fun z => hq2_1 (by assumption) z.1) | exact zA0 (fun z => zz_innI (n := 1) (by omega) hq11_1 (by assumption) z.2) | exact zA1 ⟨⟨_, by assumption, rfl⟩, ⟨_, by omega, rfl⟩⟩ ⟨_, by assumption, rfl, zA_he2 hdry (by omega) (by omega) hq87_0 (by assumption)⟩ | exact zA1 ⟨⟨_, by assumption, rfl⟩, ⟨_, by omega, rfl⟩⟩ ⟨_, by assumption, rfl, zA_he hdry (by omega) (Or.inl (by assumption))⟩ | exact zA1 ⟨⟨_, by assumption, rfl⟩, ⟨_, by omega, rfl⟩⟩ ⟨_, by assumption, rfl, zA_he hdry (by omega) (Or.inr (by assumption))⟩)⟩ (hw.sub [2, 0, 3, 1] (by decide) rfl) rfl dX10_regular_18
theorem kd_ncX10_isChanged : kd_ck 9905683788197153666665890159546900849247563592386669557910968081735759660765833695718431922584784570793670424918413565261988583507229674688102657877578312901650496515 69 cX10_isChanged.data.toList 0 = true := by decide +kernel
theorem dX10_isChanged_0 : decode cX10_isChanged 0 = .ok (.iconst 0, 1) := kd_dk0 kd_o3 kd_ncX10_isChanged rfl
theorem dX10_isChanged_1 : decode cX10_isChanged 1 = .ok (.istore_n 1, 1) := kd_dk0 kd_o60 kd_ncX10_isChanged rfl
theorem dX10_isChanged_2 : decode cX10_isChanged 2 = .ok (.iload_n 1, 1) := kd_dk0 kd_o27 kd_ncX10_isChanged rfl
theorem dX10_isChanged_3 : decode cX10_isChanged 3 = .ok (.bipush 6, 2) := kd_dj1 kd_o16 (w := 6) kd_ncX10_isChanged rfl rfl
theorem dX10_isChanged_5 : decode cX10_isChanged 5 = .ok (.if_icmp .ge 24, 3) := kd_dj2 kd_o162 (w := 24) kd_ncX10_isChanged rfl rfl
theorem dX10_isChanged_8 : decode cX10_isChanged 8 = .ok (.aload_n 0, 1) := kd_dk0 kd_o42 kd_ncX10_isChanged rfl
theorem dX10_isChanged_9 : decode cX10_isChanged 9 = .ok (.getfield 137, 3) := kd_dk2 kd_o180 kd_ncX10_isChanged rfl
theorem dX10_isChanged_12 : decode cX10_isChanged 12 = .ok (.iload_n 1, 1) := kd_dk0 kd_o27 kd_ncX10_isChanged rfl
theorem dX10_isChanged_13 : decode cX10_isChanged 13 = .ok (.aload_n 0, 1) := kd_dk0 kd_o42 kd_ncX10_isChanged rfl
theorem dX10_isChanged_14 : decode cX10_isChanged 14 = .ok (.getfield 113, 3) := kd_dk2 kd_o180 kd_ncX10_isChanged rfl
theorem dX10_isChanged_17 : decode cX10_isChanged 17 = .ok (.bipush 21, 2) := kd_dj1 kd_o16 (w := 21) kd_ncX10_isChanged rfl rfl
theorem dX10_isChanged_19 : decode cX10_isChanged 19 = .ok (.iload_n 1, 1) := kd_dk0 kd_o27 kd_ncX10_isChanged rfl
theorem dX10_isChanged_20 : decode cX10_isChanged 20 = .ok (.iadd, 1) := kd_dk0 kd_o96 kd_ncX10_isChanged rfl
theorem dX10_isChanged_21 : decode cX10_isChanged 21 = .ok (.iaload, 1) := kd_dk0 kd_o46 kd_ncX10_isChanged rfl
theorem dX10_isChanged_22 : decode cX10_isChanged 22 = .ok (.iastore, 1) := kd_dk0 kd_o79 kd_ncX10_isChanged rfl
theorem dX10_isChanged_23 : decode cX10_isChanged 23 = .ok (.iinc 1 1, 3) := kd_dji kd_o132 (w := 1) kd_ncX10_isChanged rfl rfl
theorem dX10_isChanged_26 : decode cX10_isChanged 26 = .ok (.goto (-24), 3) := kd_dj2 kd_o167 (w := 65512) kd_ncX10_isChanged rfl rfl
theorem dX10_isChanged_29 : decode cX10_isChanged 29 = .ok (.aload_n 0, 1) := kd_dk0 kd_o42 kd_ncX10_isChanged rfl
theorem dX10_isChanged_30 : decode cX10_isChanged 30 = .ok (.invokevirtual 370, 3) := kd_dk2 kd_o182 kd_ncX10_isChanged rfl
theorem dX10_isChanged_33 : decode cX10_isChanged 33 = .ok (.iconst 0, 1) := kd_dk0 kd_o3 kd_ncX10_isChanged rfl
theorem dX10_isChanged_34 : decode cX10_isChanged 34 = .ok (.istore_n 1, 1) := kd_dk0 kd_o60 kd_ncX10_isChanged rfl
theorem dX10_isChanged_35 : decode cX10_isChanged 35 = .ok (.iload_n 1, 1) := kd_dk0 kd_o27 kd_ncX10_isChanged rfl
theorem dX10_isChanged_36 : decode cX10_isChanged 36 = .ok (.bipush 6, 2) := kd_dj1 kd_o16 (w := 6) kd_ncX10_isChanged rfl rfl
theorem dX10_isChanged_38 : decode cX10_isChanged 38 = .ok (.if_icmp .ge 29, 3) := kd_dj2 kd_o162 (w := 29) kd_ncX10_isChanged rfl rfl
theorem dX10_isChanged_41 : decode cX10_isChanged 41 = .ok (.aload_n 0, 1) := kd_dk0 kd_o42 kd_ncX10_isChanged rfl
theorem dX10_isChanged_42 : decode cX10_isChanged 42 = .ok (.getfield 137, 3) := kd_dk2 kd_o180 kd_ncX10_isChanged rfl
theorem dX10_isChanged_45 : decode cX10_isChanged 45 = .ok (.iload_n 1, 1) := kd_dk0 kd_o27 kd_ncX10_isChanged rfl
theorem dX10_isChanged_46 : decode cX10_isChanged 46 = .ok (.iaload, 1) := kd_dk0 kd_o46 kd_ncX10_isChanged rfl
theorem dX10_isChanged_47 : decode cX10_isChanged 47 = .ok (.aload_n 0, 1) := kd_dk0 kd_o42 kd_ncX10_isChanged rfl
theorem dX10_isChanged_48 : decode cX10_isChanged 48 = .ok (.getfield 113, 3) := kd_dk2 kd_o180 kd_ncX10_isChanged rfl
theorem dX10_isChanged_51 : decode cX10_isChanged 51 = .ok (.bipush 21, 2) := kd_dj1 kd_o16 (w := 21) kd_ncX10_isChanged rfl rfl
theorem dX10_isChanged_53 : decode cX10_isChanged 53 = .ok (.iload_n 1, 1) := kd_dk0 kd_o27 kd_ncX10_isChanged rfl
theorem dX10_isChanged_54 : decode cX10_isChanged 54 = .ok (.iadd, 1) := kd_dk0 kd_o96 kd_ncX10_isChanged rfl
theorem dX10_isChanged_55 : decode cX10_isChanged 55 = .ok (.iaload, 1) := kd_dk0 kd_o46 kd_ncX10_isChanged rfl
theorem dX10_isChanged_56 : decode cX10_isChanged 56 = .ok (.if_icmp .eq 5, 3) := kd_dj2 kd_o159 (w := 5) kd_ncX10_isChanged rfl rfl
theorem dX10_isChanged_59 : decode cX10_isChanged 59 = .ok (.iconst 1, 1) := kd_dk0 kd_o4 kd_ncX10_isChanged rfl
theorem dX10_isChanged_60 : decode cX10_isChanged 60 = .ok (.ireturn, 1) := kd_dk0 kd_o172 kd_ncX10_isChanged rfl
theorem dX10_isChanged_61 : decode cX10_isChanged 61 = .ok (.iinc 1 1, 3) := kd_dji kd_o132 (w := 1) kd_ncX10_isChanged rfl rfl
theorem dX10_isChanged_64 : decode cX10_isChanged 64 = .ok (.goto (-29), 3) := kd_dj2 kd_o167 (w := 65507) kd_ncX10_isChanged rfl rfl
theorem dX10_isChanged_67 : decode cX10_isChanged 67 = .ok (.iconst 0, 1) := kd_dk0 kd_o3 kd_ncX10_isChanged rfl
theorem dX10_isChanged_68 : decode cX10_isChanged 68 = .ok (.ireturn, 1) := kd_dk0 kd_o172 kd_ncX10_isChanged rfl
set_option maxHeartbeats 8000000 in
set_option maxRecDepth 100000 in
theorem c_x_isChanged (l : Launch) (G : zz_G) (r : Nat → Nat) (j0 : Int32) (j2 : Int32) (j4 : Int32) (j10 : Int32) (j11 : Int32) (j12 : Int32) (j13 : Int32) (j14 : Int32) (j15 : Int32) (j16 : Int32) (j17 : Int32) (j19 : Int32) (j20 : Int32) (j34 : Int32) (j40 : Int32) (j44 : Int32) (j47 : Int32) (j50 : Int32) (j51 : Int32) (j56 : Int32) (j61 : Int32) (lv : Nat) (pp : Nat) (pq : Nat) (c22 : Nat → Int32) (c24 : Nat → Int32) (c25 : Nat → Int32) (c26 : Nat → Int32) (c28 : Nat → Int32) (c29 : Nat → Int32) (c30 : Nat → Int32) (c32 : Nat → Int32) (c33 : Nat → Int32) (c35 : Nat → Int32) (c36 : Nat → Int32) (c37 : Nat → Int32) (c38 : Nat → Int32) (c39 : Nat → Int32) (c41 : Nat → Int32) (c42 : Nat → Int32) (c45 : Nat → Int32) (c46 : Nat → Int32) (c49 : Nat → Int32) (c52 : Nat → Int32) (c53 : Nat → Int32) (c54 : Nat → Int32) (c55 : Nat → Int32) (c60 : Nat → Int32) (hlv : lv ≤ 1) (hpe : c22 lv = nI pp) (hpp : pp ≤ 7) (hpa : c26 lv = nI pq) (hpq : pq ≤ 6) (hlw : zz_LW 2 0 0 c32 c33 c35 c36 c37 c38 c39 c41 c42) (hca : ∀ j, j < 6 → zz_ok 7 (c52 j)) : zz_M l G mX10_isChanged 6 0 0 [.ref (r 0)] [((r 0), .inr (10, (zz_mo r [(0, j0), (2, j2), (4, j4), (10, j10), (11, j11), (12, j12), (13, j13), (14, j14), (15, j15), (16, j16), (17, j17), (18, (nI lv)), (19, j19), (20, j20), (34, j34), (40, j40), (44, j44), (47, j47), (50, j50), (51, j51), (56, j56), (61, j61)]))), ((r 22), .inl (G.2 0, 2, .inl c22)), ((r 24), .inl (G.2 0, 14, .inl c24)), ((r 25), .inl (G.2 0, 14, .inl c25)), ((r 26), .inl (G.2 0, 2, .inl c26)), ((r 28), .inl (G.2 0, 12, .inl c28)), ((r 29), .inl (G.2 0, 12, .inl c29)), ((r 30), .inl (G.2 0, 2, .inl c30)), ((r 32), .inl (G.2 0, 8, .inl c32)), ((r 33), .inl (G.2 0, 8, .inl c33)), ((r 35), .inl (G.2 2, 260, .inl c35)), ((r 36), .inl (G.2 0, 260, .inl c36)), ((r 37), .inl (G.2 0, 260, .inl c37)), ((r 38), .inl (G.2 0, 260, .inl c38)), ((r 39), .inl (G.2 0, 260, .inl c39)), ((r 41), .inl (G.2 0, 840, .inl c41)), ((r 42), .inl (G.2 0, 840, .inl c42)), ((r 45), .inl (G.2 0, 9, .inl c45)), ((r 46), .inl (G.2 0, 400, .inl c46)), ((r 49), .inl (G.2 0, 71, .inl c49)), ((r 52), .inl (G.2 0, 6, .inl c52)), ((r 53), .inl (G.2 2, 6, .inl c53)), ((r 54), .inl (G.2 2, 6, .inl c54)), ((r 55), .inl (G.2 0, 6, .inl c55)), ((r 60), .inl (G.2 0, 6, .inl c60))] (fun rr u => ∃ (rv : Int32), ∃ (k47 : Int32), ∃ (d45 : Nat → Int32), ∃ (d46 : Nat → Int32), ∃ (d49 : Nat → Int32), ∃ (d52 : Nat → Int32), ∃ (d53 : Nat → Int32), ∃ (d54 : Nat → Int32), ∃ (d55 : Nat → Int32), ∃ (d60 : Nat → Int32), rr = some (.int rv) ∧ u = [((r 0), .inr (10, (zz_mo r [(0, j0), (2, j2), (4, j4), (10, j10), (11, j11), (12, j12), (13, j13), (14, j14), (15, j15), (16, j16), (17, j17), (18, (nI lv)), (19, j19), (20, j20), (34, j34), (40, j40), (44, j44), (47, k47), (50, j50), (51, j51), (56, j56), (61, j61)]))), ((r 22), .inl (G.2 0, 2, .inl c22)), ((r 24), .inl (G.2 0, 14, .inl c24)), ((r 25), .inl (G.2 0, 14, .inl c25)), ((r 26), .inl (G.2 0, 2, .inl c26)), ((r 28), .inl (G.2 0, 12, .inl c28)), ((r 29), .inl (G.2 0, 12, .inl c29)), ((r 30), .inl (G.2 0, 2, .inl c30)), ((r 32), .inl (G.2 0, 8, .inl c32)), ((r 33), .inl (G.2 0, 8, .inl c33)), ((r 35), .inl (G.2 2, 260, .inl c35)), ((r 36), .inl (G.2 0, 260, .inl c36)), ((r 37), .inl (G.2 0, 260, .inl c37)), ((r 38), .inl (G.2 0, 260, .inl c38)), ((r 39), .inl (G.2 0, 260, .inl c39)), ((r 41), .inl (G.2 0, 840, .inl c41)), ((r 42), .inl (G.2 0, 840, .inl c42)), ((r 45), .inl (G.2 0, 9, .inl d45)), ((r 46), .inl (G.2 0, 400, .inl d46)), ((r 49), .inl (G.2 0, 71, .inl d49)), ((r 52), .inl (G.2 0, 6, .inl d52)), ((r 53), .inl (G.2 2, 6, .inl d53)), ((r 54), .inl (G.2 2, 6, .inl d54)), ((r 55), .inl (G.2 0, 6, .inl d55)), ((r 60), .inl (G.2 0, 6, .inl d60))] ∧ (zr_ic (zr_HD lv c32 c33 c35 c36 c37 c38 c39 c41 c42 (c30 lv)) lv c24 c28 c25 c29 (c30 lv) j50 j51 pp pq c49 d49 rv) ∧ (∀ j, j < 6 → zz_ok 7 (d52 j)) ∧ (rv = 0 ∨ rv = 1)) := by
  refine zz_enteri (by decide +kernel) (Nat.le_of_ble_eq_true rfl) ?_
  intro p e s m args below meth c A Q ls S hnm hret hw hl
  have hl : lv_has ls 2 [(0, .ref (r 0))] := hl
  have hx := S.1
  have hb := S.2.1
  refine lv_iconst (v := 0) hx hb dX10_isChanged_0 (by decide) ?_
  refine lv_istore_n (lv' := [(1, .int 0), (0, .ref (r 0))]) hx hb dX10_isChanged_1 rfl hl (by decide) rfl (fun ls hl => ?_)
  have lp2_39 : ∀ (vn2 vi1 : Nat) (vF20 : Nat → Int32) (H : Heap) (locs : List Loc) (ls : Array Slot), vi1 ≤ 6 → 6 < vi1 + vn2 → zy_q vi1 (fun j => c49 (21 + j)) vF20 → zz_w G A s [((r 0), .inr (10, (zz_mo r [(0, j0), (2, j2), (4, j4), (10, j10), (11, j11), (12, j12), (13, j13), (14, j14), (15, j15), (16, j16), (17, j17), (18, (nI lv)), (19, j19), (20, j20), (34, j34), (40, j40), (44, j44), (47, j47), (50, j50), (51, j51), (56, j56), (61, j61)]))), ((r 22), .inl (G.2 0, 2, .inl c22)), ((r 24), .inl (G.2 0, 14, .inl c24)), ((r 25), .inl (G.2 0, 14, .inl c25)), ((r 26), .inl (G.2 0, 2, .inl c26)), ((r 28), .inl (G.2 0, 12, .inl c28)), ((r 29), .inl (G.2 0, 12, .inl c29)), ((r 30), .inl (G.2 0, 2, .inl c30)), ((r 32), .inl (G.2 0, 8, .inl c32)), ((r 33), .inl (G.2 0, 8, .inl c33)), ((r 35), .inl (G.2 2, 260, .inl c35)), ((r 36), .inl (G.2 0, 260, .inl c36)), ((r 37), .inl (G.2 0, 260, .inl c37)), ((r 38), .inl (G.2 0, 260, .inl c38)), ((r 39), .inl (G.2 0, 260, .inl c39)), ((r 41), .inl (G.2 0, 840, .inl c41)), ((r 42), .inl (G.2 0, 840, .inl c42)), ((r 45), .inl (G.2 0, 9, .inl c45)), ((r 46), .inl (G.2 0, 400, .inl c46)), ((r 49), .inl (G.2 0, 71, .inl c49)), ((r 52), .inl (G.2 0, 6, .inl c52)), ((r 53), .inl (G.2 2, 6, .inl c53)), ((r 54), .inl (G.2 2, 6, .inl c54)), ((r 55), .inl (G.2 0, 6, .inl c55)), ((r 60), .inl (G.2 0, 6, .inl vF20))] H locs → lv_has ls 2 [(1, .int (nI vi1)), (0, .ref (r 0))] → W p l e (zz_rm 6 0 0) s m args below meth c H locs (0) (0) Q (F0 m 2 ls []) := by
    intro vn2
    induction vn2 with
    | zero => intro vi1 vF20 H locs ls hi1 hi2; exact absurd hi2 (by omega)
    | succ vn2 ih2 =>
      intro vi1 vF20 H locs ls hi2a hi2b hv2_38 hw hl
      refine lv_iload_n hx hb dX10_isChanged_2 rfl (lv_at hl 0 rfl) ?_
      refine lv_bipush (v := 6) hx hb dX10_isChanged_3 (by decide) ?_
      refine lv_icmp_ge (tgt := 29) hx hb dX10_isChanged_5 (by decide) (fun c5_40 => ?_) (fun c5_40 => ?_)
      · skip
        have c5_40n : 6 ≤ vi1 := (zz_le (a := 6) (b := vi1) rfl rfl (by omega) (by omega)).mp c5_40
        refine lv_aload_n hx hb dX10_isChanged_29 rfl (lv_at hl 1 rfl) ?_
        refine zz_callV (qb := 0) (As := []) (rest := []) (wr := [((r 60), .inl (G.2 0, 6, .inl vF20))]) S hw hl.1 lX10_370 (c_x_dayGoes l G r j0 j2 j4 j10 j11 j12 j13 j14 j15 j16 j17 j19 j20 j34 j40 j44 j47 j50 j51 j56 j61 lv pp pq c22 c24 c25 c26 c28 c29 c30 c32 c33 c35 c36 c37 c38 c39 c41 c42 c45 c46 c49 c52 c53 c54 c55 (by first | assumption | omega | exact Or.inr ⟨_, by omega, rfl⟩ | (unfold zz_sok; decide) | decide | exact (fun j hj => (hv7 j hj).1)) (by first | assumption | omega | exact Or.inr ⟨_, by omega, rfl⟩ | (unfold zz_sok; decide) | decide | exact (fun j hj => (hv7 j hj).1)) (by first | assumption | omega | exact Or.inr ⟨_, by omega, rfl⟩ | (unfold zz_sok; decide) | decide | exact (fun j hj => (hv7 j hj).1)) (by first | assumption | omega | exact Or.inr ⟨_, by omega, rfl⟩ | (unfold zz_sok; decide) | decide | exact (fun j hj => (hv7 j hj).1)) (by first | assumption | omega | exact Or.inr ⟨_, by omega, rfl⟩ | (unfold zz_sok; decide) | decide | exact (fun j hj => (hv7 j hj).1)) (by first | assumption | omega | exact Or.inr ⟨_, by omega, rfl⟩ | (unfold zz_sok; decide) | decide | exact (fun j hj => (hv7 j hj).1)) (by first | assumption | omega | exact Or.inr ⟨_, by omega, rfl⟩ | (unfold zz_sok; decide) | decide | exact (fun j hj => (hv7 j hj).1))) ⟨Nat.le_of_ble_eq_true rfl, Nat.le_of_ble_eq_true rfl⟩ ⟨Nat.le_of_ble_eq_true rfl, Nat.le_of_ble_eq_true rfl⟩ [0, 1, 2, 3, 4, 5, 6, 7, 8, 9, 10, 11, 12, 13, 14, 15, 16, 17, 18, 19, 20, 21, 22, 23] [24] (by decide +kernel) rfl rfl (by decide +kernel) (by decide +kernel) rfl rfl rfl rfl (Nat.le_of_ble_eq_true rfl) dX10_isChanged_30 ?_
        clear hw
        intro rr u H locs hp hw
        refine hp.elim fun k47_41 zg0 => zg0.elim fun d45_42 zg1 => zg1.elim fun d46_43 zg2 => zg2.elim fun d49_44 zg3 => zg3.elim fun d52_45 zg4 => zg4.elim fun d53_46 zg5 => zg5.elim fun d54_47 zg6 => zg6.elim fun d55_48 zg7 => zg7.elim fun zee1 zg8 => zg8.elim fun zee2 zg9 => zg9.elim fun hq30_0 zg10 => zg10.elim fun hq30_1 zg11 => zg11.elim fun hq30_2 hq30_3 => ?_
        clear hp zg0 zg1 zg2 zg3 zg4 zg5 zg6 zg7 zg8 zg9 zg10 zg11
        subst zee1
        subst zee2
        replace hw : zz_w G A s [((r 60), .inl (G.2 0, 6, .inl vF20)), ((r 0), .inr (10, (zz_mo r [(0, j0), (2, j2), (4, j4), (10, j10), (11, j11), (12, j12), (13, j13), (14, j14), (15, j15), (16, j16), (17, j17), (18, (nI lv)), (19, j19), (20, j20), (34, j34), (40, j40), (44, j44), (47, k47_41), (50, j50), (51, j51), (56, j56), (61, j61)]))), ((r 22), .inl (G.2 0, 2, .inl c22)), ((r 24), .inl (G.2 0, 14, .inl c24)), ((r 25), .inl (G.2 0, 14, .inl c25)), ((r 26), .inl (G.2 0, 2, .inl c26)), ((r 28), .inl (G.2 0, 12, .inl c28)), ((r 29), .inl (G.2 0, 12, .inl c29)), ((r 30), .inl (G.2 0, 2, .inl c30)), ((r 32), .inl (G.2 0, 8, .inl c32)), ((r 33), .inl (G.2 0, 8, .inl c33)), ((r 35), .inl (G.2 2, 260, .inl c35)), ((r 36), .inl (G.2 0, 260, .inl c36)), ((r 37), .inl (G.2 0, 260, .inl c37)), ((r 38), .inl (G.2 0, 260, .inl c38)), ((r 39), .inl (G.2 0, 260, .inl c39)), ((r 41), .inl (G.2 0, 840, .inl c41)), ((r 42), .inl (G.2 0, 840, .inl c42)), ((r 45), .inl (G.2 0, 9, .inl d45_42)), ((r 46), .inl (G.2 0, 400, .inl d46_43)), ((r 49), .inl (G.2 0, 71, .inl d49_44)), ((r 52), .inl (G.2 0, 6, .inl d52_45)), ((r 53), .inl (G.2 2, 6, .inl d53_46)), ((r 54), .inl (G.2 2, 6, .inl d54_47)), ((r 55), .inl (G.2 0, 6, .inl d55_48))] H _ := hw
        refine W.eq (g2 := F0 m 33 ls []) rfl ?_
        refine lv_iconst (v := 0) hx hb dX10_isChanged_33 (by decide) ?_
        refine lv_istore_n (lv' := [(1, .int 0), (0, .ref (r 0))]) hx hb dX10_isChanged_34 rfl hl (by decide) rfl (fun ls hl => ?_)
        have lp35_54 : ∀ (vn50 vi49 : Nat) (H : Heap) (locs : List Loc) (ls : Array Slot), vi49 ≤ 6 → 6 < vi49 + vn50 → (∀ j, j < vi49 → c49 (21 + j) = d49_44 (21 + j)) → zz_w G A s [((r 60), .inl (G.2 0, 6, .inl vF20)), ((r 0), .inr (10, (zz_mo r [(0, j0), (2, j2), (4, j4), (10, j10), (11, j11), (12, j12), (13, j13), (14, j14), (15, j15), (16, j16), (17, j17), (18, (nI lv)), (19, j19), (20, j20), (34, j34), (40, j40), (44, j44), (47, k47_41), (50, j50), (51, j51), (56, j56), (61, j61)]))), ((r 22), .inl (G.2 0, 2, .inl c22)), ((r 24), .inl (G.2 0, 14, .inl c24)), ((r 25), .inl (G.2 0, 14, .inl c25)), ((r 26), .inl (G.2 0, 2, .inl c26)), ((r 28), .inl (G.2 0, 12, .inl c28)), ((r 29), .inl (G.2 0, 12, .inl c29)), ((r 30), .inl (G.2 0, 2, .inl c30)), ((r 32), .inl (G.2 0, 8, .inl c32)), ((r 33), .inl (G.2 0, 8, .inl c33)), ((r 35), .inl (G.2 2, 260, .inl c35)), ((r 36), .inl (G.2 0, 260, .inl c36)), ((r 37), .inl (G.2 0, 260, .inl c37)), ((r 38), .inl (G.2 0, 260, .inl c38)), ((r 39), .inl (G.2 0, 260, .inl c39)), ((r 41), .inl (G.2 0, 840, .inl c41)), ((r 42), .inl (G.2 0, 840, .inl c42)), ((r 45), .inl (G.2 0, 9, .inl d45_42)), ((r 46), .inl (G.2 0, 400, .inl d46_43)), ((r 49), .inl (G.2 0, 71, .inl d49_44)), ((r 52), .inl (G.2 0, 6, .inl d52_45)), ((r 53), .inl (G.2 2, 6, .inl d53_46)), ((r 54), .inl (G.2 2, 6, .inl d54_47)), ((r 55), .inl (G.2 0, 6, .inl d55_48))] H locs → lv_has ls 2 [(1, .int (nI vi49)), (0, .ref (r 0))] → W p l e (zz_rm 6 0 0) s m args below meth c H locs (0) (0) Q (F0 m 35 ls []) := by
          intro vn50
          induction vn50 with
          | zero => intro vi49  H locs ls hi1 hi2; exact absurd hi2 (by omega)
          | succ vn50 ih35 =>
            intro vi49  H locs ls hi35a hi35b hv35_53 hw hl
            refine lv_iload_n hx hb dX10_isChanged_35 rfl (lv_at hl 0 rfl) ?_
            refine lv_bipush (v := 6) hx hb dX10_isChanged_36 (by decide) ?_
            refine lv_icmp_ge (tgt := 67) hx hb dX10_isChanged_38 (by decide) (fun c38_55 => ?_) (fun c38_55 => ?_)
            · skip
              have c38_55n : 6 ≤ vi49 := (zz_le (a := 6) (b := vi49) rfl rfl (by omega) (by omega)).mp c38_55
              refine lv_iconst (v := 0) hx hb dX10_isChanged_67 (by decide) ?_
              exact hret _ _ _ _ _ _ ⟨0, k47_41, d45_42, d46_43, d49_44, d52_45, d53_46, d54_47, d55_48, vF20, rfl, rfl, (by first | exact zr_ic1 (i := vi49) (zr_dy1 hq30_0 hq30_1 hq30_2) hv2_38 (by omega) (by omega) (by assumption) | exact zr_ic0 (zr_dy1 hq30_0 hq30_1 hq30_2) hv35_53 (by omega)), (by first | assumption | exact Or.inl rfl | exact Or.inr rfl | omega | exact Or.inr (by assumption) | exact zz_oku (by assumption) (by first | exact Or.inl rfl | exact Or.inr ⟨_, by omega, rfl⟩)), (by first | exact Or.inl rfl | exact Or.inr rfl | assumption)⟩ (hw.sub [1, 2, 3, 4, 5, 6, 7, 8, 9, 10, 11, 12, 13, 14, 15, 16, 17, 18, 19, 20, 21, 22, 23, 24, 0] (by decide +kernel) rfl) rfl dX10_isChanged_68
            · skip
              have c38_55n : ¬ (6 ≤ vi49) := fun z => c38_55 ((zz_le (a := 6) (b := vi49) rfl rfl (by omega) (by omega)).mpr z)
              refine lv_aload_n hx hb dX10_isChanged_41 rfl (lv_at hl 1 rfl) ?_
              refine zz_get (v := .ref (r 60)) S hw fgX10_137 1 rfl rfl dX10_isChanged_42 ?_
              refine lv_iload_n hx hb dX10_isChanged_45 rfl (lv_at hl 0 rfl) ?_
              refine W.eq (g2 := F0 m 46 ls [.int (nI vi49), .ref (r 60)]) rfl ?_
              refine zz_iald (v := (vF20 vi49)) S hw 0 rfl (vp_in_nI (n := vi49) (by omega) (by decide)) (congrArg vF20 (nI_clamp (n := vi49) (by omega))) dX10_isChanged_46 ?_
              refine lv_aload_n hx hb dX10_isChanged_47 rfl (lv_at hl 1 rfl) ?_
              refine zz_get (v := .ref (r 49)) S hw fgX10_113 1 rfl rfl dX10_isChanged_48 ?_
              refine lv_bipush (v := 21) hx hb dX10_isChanged_51 (by decide) ?_
              refine lv_iload_n hx hb dX10_isChanged_53 rfl (lv_at hl 0 rfl) ?_
              refine lv_iadd hx hb dX10_isChanged_54 ?_
              refine zz_topi (y := (nI (21 + vi49))) (nI_add _ _) ?_
              refine zz_iald (v := (d49_44 (21 + vi49))) S hw 20 rfl (vp_in_nI (n := (21 + vi49)) (by omega) (by decide)) (congrArg d49_44 (nI_clamp (n := (21 + vi49)) (by omega))) dX10_isChanged_55 ?_
              refine lv_icmp_eq (tgt := 61) hx hb dX10_isChanged_56 (by decide) (fun c56_56 => ?_) (fun c56_56 => ?_)
              · skip
                refine lv_iinc (v := (nI (vi49 + 1))) (lv' := [(1, .int (nI (vi49 + 1))), (0, .ref (r 0))]) hx hb dX10_isChanged_61 hl (k := 0) rfl (nI_add _ 1) (by decide) rfl (fun ls hl => ?_)
                refine lv_goto (tgt := 35) hx hb dX10_isChanged_64 (by decide) ?_
                exact ih35 (vi49 + 1) _ _ _ (by omega) (by omega) (zr_icn (f := fun j => c49 (21 + j)) (T := fun j => d49_44 (21 + j)) hv2_38 (by omega) hv35_53 (by assumption)) hw (lv_sub hl [0, 1] rfl)
              · skip
                refine lv_iconst (v := 1) hx hb dX10_isChanged_59 (by decide) ?_
                exact hret _ _ _ _ _ _ ⟨1, k47_41, d45_42, d46_43, d49_44, d52_45, d53_46, d54_47, d55_48, vF20, rfl, rfl, (by first | exact zr_ic1 (i := vi49) (zr_dy1 hq30_0 hq30_1 hq30_2) hv2_38 (by omega) (by omega) (by assumption) | exact zr_ic0 (zr_dy1 hq30_0 hq30_1 hq30_2) hv35_53 (by omega)), (by first | assumption | exact Or.inl rfl | exact Or.inr rfl | omega | exact Or.inr (by assumption) | exact zz_oku (by assumption) (by first | exact Or.inl rfl | exact Or.inr ⟨_, by omega, rfl⟩)), (by first | exact Or.inl rfl | exact Or.inr rfl | assumption)⟩ (hw.sub [1, 2, 3, 4, 5, 6, 7, 8, 9, 10, 11, 12, 13, 14, 15, 16, 17, 18, 19, 20, 21, 22, 23, 24, 0] (by decide +kernel) rfl) rfl dX10_isChanged_60
        exact lp35_54 (6 + 1 - 0) 0 _ _ _ (by omega) (by omega) (fun j hj => absurd hj (Nat.not_lt_zero j)) hw (lv_sub hl [0, 1] rfl)
      · skip
        have c5_40n : ¬ (6 ≤ vi1) := fun z => c5_40 ((zz_le (a := 6) (b := vi1) rfl rfl (by omega) (by omega)).mpr z)
        refine lv_aload_n hx hb dX10_isChanged_8 rfl (lv_at hl 1 rfl) ?_
        refine zz_get (v := .ref (r 60)) S hw fgX10_137 0 rfl rfl dX10_isChanged_9 ?_
        refine lv_iload_n hx hb dX10_isChanged_12 rfl (lv_at hl 0 rfl) ?_
        refine lv_aload_n hx hb dX10_isChanged_13 rfl (lv_at hl 1 rfl) ?_
        refine W.eq (g2 := F0 m 14 ls [.ref (r 0), .int (nI vi1), .ref (r 60)]) rfl ?_
        refine zz_get (v := .ref (r 49)) S hw fgX10_113 0 rfl rfl dX10_isChanged_14 ?_
        refine lv_bipush (v := 21) hx hb dX10_isChanged_17 (by decide) ?_
        refine lv_iload_n hx hb dX10_isChanged_19 rfl (lv_at hl 0 rfl) ?_
        refine lv_iadd hx hb dX10_isChanged_20 ?_
        refine zz_topi (y := (nI (21 + vi1))) (nI_add _ _) ?_
        refine zz_iald (v := (c49 (21 + vi1))) S hw 19 rfl (vp_in_nI (n := (21 + vi1)) (by omega) (by decide)) (congrArg c49 (nI_clamp (n := (21 + vi1)) (by omega))) dX10_isChanged_21 ?_
        refine zz_iast (ws' := [((r 0), .inr (10, (zz_mo r [(0, j0), (2, j2), (4, j4), (10, j10), (11, j11), (12, j12), (13, j13), (14, j14), (15, j15), (16, j16), (17, j17), (18, (nI lv)), (19, j19), (20, j20), (34, j34), (40, j40), (44, j44), (47, j47), (50, j50), (51, j51), (56, j56), (61, j61)]))), ((r 22), .inl (G.2 0, 2, .inl c22)), ((r 24), .inl (G.2 0, 14, .inl c24)), ((r 25), .inl (G.2 0, 14, .inl c25)), ((r 26), .inl (G.2 0, 2, .inl c26)), ((r 28), .inl (G.2 0, 12, .inl c28)), ((r 29), .inl (G.2 0, 12, .inl c29)), ((r 30), .inl (G.2 0, 2, .inl c30)), ((r 32), .inl (G.2 0, 8, .inl c32)), ((r 33), .inl (G.2 0, 8, .inl c33)), ((r 35), .inl (G.2 2, 260, .inl c35)), ((r 36), .inl (G.2 0, 260, .inl c36)), ((r 37), .inl (G.2 0, 260, .inl c37)), ((r 38), .inl (G.2 0, 260, .inl c38)), ((r 39), .inl (G.2 0, 260, .inl c39)), ((r 41), .inl (G.2 0, 840, .inl c41)), ((r 42), .inl (G.2 0, 840, .inl c42)), ((r 45), .inl (G.2 0, 9, .inl c45)), ((r 46), .inl (G.2 0, 400, .inl c46)), ((r 49), .inl (G.2 0, 71, .inl c49)), ((r 52), .inl (G.2 0, 6, .inl c52)), ((r 53), .inl (G.2 2, 6, .inl c53)), ((r 54), .inl (G.2 2, 6, .inl c54)), ((r 55), .inl (G.2 0, 6, .inl c55)), ((r 60), .inl (G.2 0, 6, .inl (upd vF20 vi1 (c49 (21 + vi1)))))]) (g := (upd vF20 vi1 (c49 (21 + vi1)))) S hw 24 rfl (vp_in_nI (n := vi1) (by omega) (by decide)) (zz_upn (n := vi1) (by omega)) rfl dX10_isChanged_22 ?_
        clear hw
        intro H locs hw
        refine lv_iinc (v := (nI (vi1 + 1))) (lv' := [(1, .int (nI (vi1 + 1))), (0, .ref (r 0))]) hx hb dX10_isChanged_23 hl (k := 0) rfl (nI_add _ 1) (by decide) rfl (fun ls hl => ?_)
        refine lv_goto (tgt := 2) hx hb dX10_isChanged_26 (by decide) ?_
        exact ih2 (vi1 + 1) (upd vF20 vi1 (c49 (21 + vi1))) _ _ _ (by omega) (by omega) (zy_qs hv2_38 rfl) hw (lv_sub hl [0, 1] rfl)
  exact lp2_39 (6 + 1 - 0) 0 c60 _ _ _ (by omega) (by omega) zy_q0 hw (lv_sub hl [0, 1] rfl)
theorem kd_ncX10_settles : kd_ck 1193949981416438593414570422026575342331262272321573591532942254361654826 30 cX10_settles.data.toList 0 = true := by decide +kernel
theorem dX10_settles_0 : decode cX10_settles 0 = .ok (.aload_n 0, 1) := kd_dk0 kd_o42 kd_ncX10_settles rfl
theorem dX10_settles_1 : decode cX10_settles 1 = .ok (.invokevirtual 442, 3) := kd_dk2 kd_o182 kd_ncX10_settles rfl
theorem dX10_settles_4 : decode cX10_settles 4 = .ok (.iconst 0, 1) := kd_dk0 kd_o3 kd_ncX10_settles rfl
theorem dX10_settles_5 : decode cX10_settles 5 = .ok (.istore_n 1, 1) := kd_dk0 kd_o60 kd_ncX10_settles rfl
theorem dX10_settles_6 : decode cX10_settles 6 = .ok (.iload_n 1, 1) := kd_dk0 kd_o27 kd_ncX10_settles rfl
theorem dX10_settles_7 : decode cX10_settles 7 = .ok (.bipush 100, 2) := kd_dj1 kd_o16 (w := 100) kd_ncX10_settles rfl rfl
theorem dX10_settles_9 : decode cX10_settles 9 = .ok (.if_icmp .gt 18, 3) := kd_dj2 kd_o163 (w := 18) kd_ncX10_settles rfl rfl
theorem dX10_settles_12 : decode cX10_settles 12 = .ok (.aload_n 0, 1) := kd_dk0 kd_o42 kd_ncX10_settles rfl
theorem dX10_settles_13 : decode cX10_settles 13 = .ok (.invokevirtual 445, 3) := kd_dk2 kd_o182 kd_ncX10_settles rfl
theorem dX10_settles_16 : decode cX10_settles 16 = .ok (.ifCond .ne 5, 3) := kd_dj2 kd_o154 (w := 5) kd_ncX10_settles rfl rfl
theorem dX10_settles_19 : decode cX10_settles 19 = .ok (.iload_n 1, 1) := kd_dk0 kd_o27 kd_ncX10_settles rfl
theorem dX10_settles_20 : decode cX10_settles 20 = .ok (.ireturn, 1) := kd_dk0 kd_o172 kd_ncX10_settles rfl
theorem dX10_settles_21 : decode cX10_settles 21 = .ok (.iinc 1 1, 3) := kd_dji kd_o132 (w := 1) kd_ncX10_settles rfl rfl
theorem dX10_settles_24 : decode cX10_settles 24 = .ok (.goto (-18), 3) := kd_dj2 kd_o167 (w := 65518) kd_ncX10_settles rfl rfl
theorem dX10_settles_27 : decode cX10_settles 27 = .ok (.bipush (-2), 2) := kd_dj1 kd_o16 (w := 254) kd_ncX10_settles rfl rfl
theorem dX10_settles_29 : decode cX10_settles 29 = .ok (.ireturn, 1) := kd_dk0 kd_o172 kd_ncX10_settles rfl
set_option maxHeartbeats 8000000 in
set_option maxRecDepth 100000 in
theorem c_x_settles (l : Launch) (G : zz_G) (r : Nat → Nat) (j0 : Int32) (j2 : Int32) (j4 : Int32) (j10 : Int32) (j11 : Int32) (j12 : Int32) (j13 : Int32) (j14 : Int32) (j15 : Int32) (j16 : Int32) (j17 : Int32) (j19 : Int32) (j20 : Int32) (j34 : Int32) (j40 : Int32) (j44 : Int32) (j47 : Int32) (j50 : Int32) (j51 : Int32) (j56 : Int32) (j61 : Int32) (lv : Nat) (pp : Nat) (pq : Nat) (c22 : Nat → Int32) (c24 : Nat → Int32) (c25 : Nat → Int32) (c26 : Nat → Int32) (c28 : Nat → Int32) (c29 : Nat → Int32) (c30 : Nat → Int32) (c31 : Nat → Int32) (c32 : Nat → Int32) (c33 : Nat → Int32) (c35 : Nat → Int32) (c36 : Nat → Int32) (c37 : Nat → Int32) (c38 : Nat → Int32) (c39 : Nat → Int32) (c41 : Nat → Int32) (c42 : Nat → Int32) (c45 : Nat → Int32) (c46 : Nat → Int32) (c48 : Nat → Int32) (c49 : Nat → Int32) (c52 : Nat → Int32) (c53 : Nat → Int32) (c54 : Nat → Int32) (c55 : Nat → Int32) (c60 : Nat → Int32) (hlv : lv ≤ 1) (hpe : c22 lv = nI pp) (hpp : pp ≤ 7) (hpa : c26 lv = nI pq) (hpq : pq ≤ 6) (hlw : zz_LW 2 0 0 c32 c33 c35 c36 c37 c38 c39 c41 c42) (hca : ∀ j, j < 6 → zz_ok 7 (c52 j)) : zz_M l G mX10_settles 7 0 0 [.ref (r 0)] [((r 0), .inr (10, (zz_mo r [(0, j0), (2, j2), (4, j4), (10, j10), (11, j11), (12, j12), (13, j13), (14, j14), (15, j15), (16, j16), (17, j17), (18, (nI lv)), (19, j19), (20, j20), (34, j34), (40, j40), (44, j44), (47, j47), (50, j50), (51, j51), (56, j56), (61, j61)]))), ((r 22), .inl (G.2 0, 2, .inl c22)), ((r 24), .inl (G.2 0, 14, .inl c24)), ((r 25), .inl (G.2 0, 14, .inl c25)), ((r 26), .inl (G.2 0, 2, .inl c26)), ((r 28), .inl (G.2 0, 12, .inl c28)), ((r 29), .inl (G.2 0, 12, .inl c29)), ((r 30), .inl (G.2 0, 2, .inl c30)), ((r 31), .inl (G.2 0, 2, .inl c31)), ((r 32), .inl (G.2 0, 8, .inl c32)), ((r 33), .inl (G.2 0, 8, .inl c33)), ((r 35), .inl (G.2 2, 260, .inl c35)), ((r 36), .inl (G.2 0, 260, .inl c36)), ((r 37), .inl (G.2 0, 260, .inl c37)), ((r 38), .inl (G.2 0, 260, .inl c38)), ((r 39), .inl (G.2 0, 260, .inl c39)), ((r 41), .inl (G.2 0, 840, .inl c41)), ((r 42), .inl (G.2 0, 840, .inl c42)), ((r 45), .inl (G.2 0, 9, .inl c45)), ((r 46), .inl (G.2 0, 400, .inl c46)), ((r 48), .inl (G.2 0, 71, .inl c48)), ((r 49), .inl (G.2 0, 71, .inl c49)), ((r 52), .inl (G.2 0, 6, .inl c52)), ((r 53), .inl (G.2 2, 6, .inl c53)), ((r 54), .inl (G.2 2, 6, .inl c54)), ((r 55), .inl (G.2 0, 6, .inl c55)), ((r 60), .inl (G.2 0, 6, .inl c60))] (fun rr u => ∃ (rv : Int32), ∃ (k47 : Int32), ∃ (k50 : Int32), ∃ (k51 : Int32), ∃ (d45 : Nat → Int32), ∃ (d46 : Nat → Int32), ∃ (d49 : Nat → Int32), ∃ (d52 : Nat → Int32), ∃ (d53 : Nat → Int32), ∃ (d54 : Nat → Int32), ∃ (d55 : Nat → Int32), ∃ (d60 : Nat → Int32), rr = some (.int rv) ∧ u = [((r 0), .inr (10, (zz_mo r [(0, j0), (2, j2), (4, j4), (10, j10), (11, j11), (12, j12), (13, j13), (14, j14), (15, j15), (16, j16), (17, j17), (18, (nI lv)), (19, j19), (20, j20), (34, j34), (40, j40), (44, j44), (47, k47), (50, k50), (51, k51), (56, j56), (61, j61)]))), ((r 22), .inl (G.2 0, 2, .inl c22)), ((r 24), .inl (G.2 0, 14, .inl c24)), ((r 25), .inl (G.2 0, 14, .inl c25)), ((r 26), .inl (G.2 0, 2, .inl c26)), ((r 28), .inl (G.2 0, 12, .inl c28)), ((r 29), .inl (G.2 0, 12, .inl c29)), ((r 30), .inl (G.2 0, 2, .inl c30)), ((r 31), .inl (G.2 0, 2, .inl c31)), ((r 32), .inl (G.2 0, 8, .inl c32)), ((r 33), .inl (G.2 0, 8, .inl c33)), ((r 35), .inl (G.2 2, 260, .inl c35)), ((r 36), .inl (G.2 0, 260, .inl c36)), ((r 37), .inl (G.2 0, 260, .inl c37)), ((r 38), .inl (G.2 0, 260, .inl c38)), ((r 39), .inl (G.2 0, 260, .inl c39)), ((r 41), .inl (G.2 0, 840, .inl c41)), ((r 42), .inl (G.2 0, 840, .inl c42)), ((r 45), .inl (G.2 0, 9, .inl d45)), ((r 46), .inl (G.2 0, 400, .inl d46)), ((r 48), .inl (G.2 0, 71, .inl c48)), ((r 49), .inl (G.2 0, 71, .inl d49)), ((r 52), .inl (G.2 0, 6, .inl d52)), ((r 53), .inl (G.2 2, 6, .inl d53)), ((r 54), .inl (G.2 2, 6, .inl d54)), ((r 55), .inl (G.2 0, 6, .inl d55)), ((r 60), .inl (G.2 0, 6, .inl d60))] ∧ (∃ τ, zy_q 71 c48 τ ∧ zr_SE (zr_HD lv c32 c33 c35 c36 c37 c38 c39 c41 c42 (c30 lv)) lv c24 c28 c25 c29 (c30 lv) (c31 lv) 1 pp pq τ rv) ∧ (∀ j, j < 6 → zz_ok 7 (d52 j))) := by
  refine zz_enteri (by decide +kernel) (Nat.le_of_ble_eq_true rfl) ?_
  intro p e s m args below meth c A Q ls S hnm hret hw hl
  have hl : lv_has ls 2 [(0, .ref (r 0))] := hl
  have hx := S.1
  have hb := S.2.1
  refine lv_aload_n hx hb dX10_settles_0 rfl (lv_at hl 0 rfl) ?_
  refine zz_callV (qb := 0) (As := []) (rest := []) (wr := [((r 22), .inl (G.2 0, 2, .inl c22)), ((r 24), .inl (G.2 0, 14, .inl c24)), ((r 25), .inl (G.2 0, 14, .inl c25)), ((r 26), .inl (G.2 0, 2, .inl c26)), ((r 28), .inl (G.2 0, 12, .inl c28)), ((r 29), .inl (G.2 0, 12, .inl c29)), ((r 30), .inl (G.2 0, 2, .inl c30)), ((r 32), .inl (G.2 0, 8, .inl c32)), ((r 33), .inl (G.2 0, 8, .inl c33)), ((r 35), .inl (G.2 2, 260, .inl c35)), ((r 36), .inl (G.2 0, 260, .inl c36)), ((r 37), .inl (G.2 0, 260, .inl c37)), ((r 38), .inl (G.2 0, 260, .inl c38)), ((r 39), .inl (G.2 0, 260, .inl c39)), ((r 41), .inl (G.2 0, 840, .inl c41)), ((r 42), .inl (G.2 0, 840, .inl c42)), ((r 45), .inl (G.2 0, 9, .inl c45)), ((r 46), .inl (G.2 0, 400, .inl c46)), ((r 52), .inl (G.2 0, 6, .inl c52)), ((r 53), .inl (G.2 2, 6, .inl c53)), ((r 54), .inl (G.2 2, 6, .inl c54)), ((r 55), .inl (G.2 0, 6, .inl c55)), ((r 60), .inl (G.2 0, 6, .inl c60))]) S hw hl.1 lX10_442 (c_x_copiesStill l G r j0 j2 j4 j10 j11 j12 j13 j14 j15 j16 j17 j19 j20 j34 j40 j44 j47 j50 j51 j56 j61 lv c31 c48 c49 (by first | assumption | omega | exact Or.inr ⟨_, by omega, rfl⟩ | (unfold zz_sok; decide) | decide | exact (fun j hj => (hv7 j hj).1))) ⟨Nat.le_of_ble_eq_true rfl, Nat.le_of_ble_eq_true rfl⟩ ⟨Nat.le_of_ble_eq_true rfl, Nat.le_of_ble_eq_true rfl⟩ [0, 8, 20, 21] [1, 2, 3, 4, 5, 6, 7, 9, 10, 11, 12, 13, 14, 15, 16, 17, 18, 19, 22, 23, 24, 25, 26] (by decide +kernel) rfl rfl (by decide +kernel) (by decide +kernel) rfl rfl rfl rfl (Nat.le_of_ble_eq_true rfl) dX10_settles_1 ?_
  clear hw
  intro rr u H locs hp hw
  refine hp.elim fun k50_1 zg0 => zg0.elim fun k51_2 zg1 => zg1.elim fun d49_3 zg2 => zg2.elim fun zee1 zg3 => zg3.elim fun zee2 zg4 => zg4.elim fun hq1_0 zg5 => zg5.elim fun hq1_1 hq1_2 => ?_
  clear hp zg0 zg1 zg2 zg3 zg4 zg5
  subst zee1
  subst zee2
  replace hw : zz_w G A s [((r 22), .inl (G.2 0, 2, .inl c22)), ((r 24), .inl (G.2 0, 14, .inl c24)), ((r 25), .inl (G.2 0, 14, .inl c25)), ((r 26), .inl (G.2 0, 2, .inl c26)), ((r 28), .inl (G.2 0, 12, .inl c28)), ((r 29), .inl (G.2 0, 12, .inl c29)), ((r 30), .inl (G.2 0, 2, .inl c30)), ((r 32), .inl (G.2 0, 8, .inl c32)), ((r 33), .inl (G.2 0, 8, .inl c33)), ((r 35), .inl (G.2 2, 260, .inl c35)), ((r 36), .inl (G.2 0, 260, .inl c36)), ((r 37), .inl (G.2 0, 260, .inl c37)), ((r 38), .inl (G.2 0, 260, .inl c38)), ((r 39), .inl (G.2 0, 260, .inl c39)), ((r 41), .inl (G.2 0, 840, .inl c41)), ((r 42), .inl (G.2 0, 840, .inl c42)), ((r 45), .inl (G.2 0, 9, .inl c45)), ((r 46), .inl (G.2 0, 400, .inl c46)), ((r 52), .inl (G.2 0, 6, .inl c52)), ((r 53), .inl (G.2 2, 6, .inl c53)), ((r 54), .inl (G.2 2, 6, .inl c54)), ((r 55), .inl (G.2 0, 6, .inl c55)), ((r 60), .inl (G.2 0, 6, .inl c60)), ((r 0), .inr (10, (zz_mo r [(0, j0), (2, j2), (4, j4), (10, j10), (11, j11), (12, j12), (13, j13), (14, j14), (15, j15), (16, j16), (17, j17), (18, (nI lv)), (19, j19), (20, j20), (34, j34), (40, j40), (44, j44), (47, j47), (50, k50_1), (51, k51_2), (56, j56), (61, j61)]))), ((r 31), .inl (G.2 0, 2, .inl c31)), ((r 48), .inl (G.2 0, 71, .inl c48)), ((r 49), .inl (G.2 0, 71, .inl d49_3))] H _ := hw
  refine W.eq (g2 := F0 m 4 ls []) rfl ?_
  refine lv_iconst (v := 0) hx hb dX10_settles_4 (by decide) ?_
  refine lv_istore_n (lv' := [(1, .int 0), (0, .ref (r 0))]) hx hb dX10_settles_5 rfl hl (by decide) rfl (fun ls hl => ?_)
  have lp6_41 : ∀ (vn5 vi4 : Nat) (vF18 : Nat → Int32) (vF19 : Nat → Int32) (vF20 : Nat → Int32) (vF21 : Nat → Int32) (vF22 : Nat → Int32) (vF23 : Nat → Int32) (vF24 : Nat → Int32) (vy25 : Int32) (vF26 : Nat → Int32) (H : Heap) (locs : List Loc) (ls : Array Slot), vi4 ≤ 101 → 101 < vi4 + vn5 → (∀ j, j < 6 → zz_ok 7 (vF20 j)) → zr_gc (zr_HD lv c32 c33 c35 c36 c37 c38 c39 c41 c42 (c30 lv)) lv c24 c28 c25 c29 (c30 lv) k50_1 k51_2 pp pq vi4 d49_3 vF26 → zz_w G A s [((r 22), .inl (G.2 0, 2, .inl c22)), ((r 24), .inl (G.2 0, 14, .inl c24)), ((r 25), .inl (G.2 0, 14, .inl c25)), ((r 26), .inl (G.2 0, 2, .inl c26)), ((r 28), .inl (G.2 0, 12, .inl c28)), ((r 29), .inl (G.2 0, 12, .inl c29)), ((r 30), .inl (G.2 0, 2, .inl c30)), ((r 32), .inl (G.2 0, 8, .inl c32)), ((r 33), .inl (G.2 0, 8, .inl c33)), ((r 35), .inl (G.2 2, 260, .inl c35)), ((r 36), .inl (G.2 0, 260, .inl c36)), ((r 37), .inl (G.2 0, 260, .inl c37)), ((r 38), .inl (G.2 0, 260, .inl c38)), ((r 39), .inl (G.2 0, 260, .inl c39)), ((r 41), .inl (G.2 0, 840, .inl c41)), ((r 42), .inl (G.2 0, 840, .inl c42)), ((r 45), .inl (G.2 0, 9, .inl vF18)), ((r 46), .inl (G.2 0, 400, .inl vF19)), ((r 52), .inl (G.2 0, 6, .inl vF20)), ((r 53), .inl (G.2 2, 6, .inl vF21)), ((r 54), .inl (G.2 2, 6, .inl vF22)), ((r 55), .inl (G.2 0, 6, .inl vF23)), ((r 60), .inl (G.2 0, 6, .inl vF24)), ((r 0), .inr (10, (zz_mo r [(0, j0), (2, j2), (4, j4), (10, j10), (11, j11), (12, j12), (13, j13), (14, j14), (15, j15), (16, j16), (17, j17), (18, (nI lv)), (19, j19), (20, j20), (34, j34), (40, j40), (44, j44), (47, vy25), (50, k50_1), (51, k51_2), (56, j56), (61, j61)]))), ((r 31), .inl (G.2 0, 2, .inl c31)), ((r 48), .inl (G.2 0, 71, .inl c48)), ((r 49), .inl (G.2 0, 71, .inl vF26))] H locs → lv_has ls 2 [(1, .int (nI vi4)), (0, .ref (r 0))] → W p l e (zz_rm 7 0 0) s m args below meth c H locs (0) (0) Q (F0 m 6 ls []) := by
    intro vn5
    induction vn5 with
    | zero => intro vi4 vF18 vF19 vF20 vF21 vF22 vF23 vF24 vy25 vF26 H locs ls hi1 hi2; exact absurd hi2 (by omega)
    | succ vn5 ih6 =>
      intro vi4 vF18 vF19 vF20 vF21 vF22 vF23 vF24 vy25 vF26 H locs ls hi6a hi6b hv6_39 hv6_40 hw hl
      refine lv_iload_n hx hb dX10_settles_6 rfl (lv_at hl 0 rfl) ?_
      refine lv_bipush (v := 100) hx hb dX10_settles_7 (by decide) ?_
      refine lv_icmp_gt (tgt := 27) hx hb dX10_settles_9 (by decide) (fun c9_42 => ?_) (fun c9_42 => ?_)
      · skip
        have c9_42n : 100 < vi4 := (zz_lt (a := 100) (b := vi4) rfl rfl (by omega) (by omega)).mp c9_42
        refine lv_bipush (v := (-2)) hx hb dX10_settles_27 (by decide) ?_
        exact hret _ _ _ _ _ _ ⟨(-2), vy25, k50_1, k51_2, vF18, vF19, vF26, vF20, vF21, vF22, vF23, vF24, rfl, rfl, (by first | exact ⟨_, hq1_0, zr_SEs hq1_1 hq1_2 (zr_SE1 hv6_40 hq13_0 (by assumption) (by omega))⟩ | exact ⟨_, hq1_0, zr_SEs hq1_1 hq1_2 (zr_SE2 hv6_40 (by omega))⟩), (by first | assumption | exact Or.inl rfl | exact Or.inr rfl | omega | exact Or.inr (by assumption) | exact zz_oku (by assumption) (by first | exact Or.inl rfl | exact Or.inr ⟨_, by omega, rfl⟩))⟩ (hw.sub [23, 0, 1, 2, 3, 4, 5, 6, 24, 7, 8, 9, 10, 11, 12, 13, 14, 15, 16, 17, 25, 26, 18, 19, 20, 21, 22] (by decide +kernel) rfl) rfl dX10_settles_29
      · skip
        have c9_42n : ¬ (100 < vi4) := fun z => c9_42 ((zz_lt (a := 100) (b := vi4) rfl rfl (by omega) (by omega)).mpr z)
        refine lv_aload_n hx hb dX10_settles_12 rfl (lv_at hl 1 rfl) ?_
        refine zz_callV (qb := 23) (As := []) (rest := []) (wr := [((r 31), .inl (G.2 0, 2, .inl c31)), ((r 48), .inl (G.2 0, 71, .inl c48))]) S hw hl.1 lX10_445 (c_x_isChanged l G r j0 j2 j4 j10 j11 j12 j13 j14 j15 j16 j17 j19 j20 j34 j40 j44 vy25 k50_1 k51_2 j56 j61 lv pp pq c22 c24 c25 c26 c28 c29 c30 c32 c33 c35 c36 c37 c38 c39 c41 c42 vF18 vF19 vF26 vF20 vF21 vF22 vF23 vF24 (by first | assumption | omega | exact Or.inr ⟨_, by omega, rfl⟩ | (unfold zz_sok; decide) | decide | exact (fun j hj => (hv7 j hj).1)) (by first | assumption | omega | exact Or.inr ⟨_, by omega, rfl⟩ | (unfold zz_sok; decide) | decide | exact (fun j hj => (hv7 j hj).1)) (by first | assumption | omega | exact Or.inr ⟨_, by omega, rfl⟩ | (unfold zz_sok; decide) | decide | exact (fun j hj => (hv7 j hj).1)) (by first | assumption | omega | exact Or.inr ⟨_, by omega, rfl⟩ | (unfold zz_sok; decide) | decide | exact (fun j hj => (hv7 j hj).1)) (by first | assumption | omega | exact Or.inr ⟨_, by omega, rfl⟩ | (unfold zz_sok; decide) | decide | exact (fun j hj => (hv7 j hj).1)) (by first | assumption | omega | exact Or.inr ⟨_, by omega, rfl⟩ | (unfold zz_sok; decide) | decide | exact (fun j hj => (hv7 j hj).1)) (by first | assumption | omega | exact Or.inr ⟨_, by omega, rfl⟩ | (unfold zz_sok; decide) | decide | exact (fun j hj => (hv7 j hj).1))) ⟨Nat.le_of_ble_eq_true rfl, Nat.le_of_ble_eq_true rfl⟩ ⟨Nat.le_of_ble_eq_true rfl, Nat.le_of_ble_eq_true rfl⟩ [23, 0, 1, 2, 3, 4, 5, 6, 7, 8, 9, 10, 11, 12, 13, 14, 15, 16, 17, 26, 18, 19, 20, 21, 22] [24, 25] (by decide +kernel) rfl rfl (by decide +kernel) (by decide +kernel) rfl rfl rfl rfl (Nat.le_of_ble_eq_true rfl) dX10_settles_13 ?_
        clear hw
        intro rr u H locs hp hw
        refine hp.elim fun rv_43 zg0 => zg0.elim fun k47_44 zg1 => zg1.elim fun d45_45 zg2 => zg2.elim fun d46_46 zg3 => zg3.elim fun d49_47 zg4 => zg4.elim fun d52_48 zg5 => zg5.elim fun d53_49 zg6 => zg6.elim fun d54_50 zg7 => zg7.elim fun d55_51 zg8 => zg8.elim fun d60_52 zg9 => zg9.elim fun zee1 zg10 => zg10.elim fun zee2 zg11 => zg11.elim fun hq13_0 zg12 => zg12.elim fun hq13_1 hq13_2 => ?_
        clear hp zg0 zg1 zg2 zg3 zg4 zg5 zg6 zg7 zg8 zg9 zg10 zg11 zg12
        subst zee1
        subst zee2
        replace hw : zz_w G A s [((r 31), .inl (G.2 0, 2, .inl c31)), ((r 48), .inl (G.2 0, 71, .inl c48)), ((r 0), .inr (10, (zz_mo r [(0, j0), (2, j2), (4, j4), (10, j10), (11, j11), (12, j12), (13, j13), (14, j14), (15, j15), (16, j16), (17, j17), (18, (nI lv)), (19, j19), (20, j20), (34, j34), (40, j40), (44, j44), (47, k47_44), (50, k50_1), (51, k51_2), (56, j56), (61, j61)]))), ((r 22), .inl (G.2 0, 2, .inl c22)), ((r 24), .inl (G.2 0, 14, .inl c24)), ((r 25), .inl (G.2 0, 14, .inl c25)), ((r 26), .inl (G.2 0, 2, .inl c26)), ((r 28), .inl (G.2 0, 12, .inl c28)), ((r 29), .inl (G.2 0, 12, .inl c29)), ((r 30), .inl (G.2 0, 2, .inl c30)), ((r 32), .inl (G.2 0, 8, .inl c32)), ((r 33), .inl (G.2 0, 8, .inl c33)), ((r 35), .inl (G.2 2, 260, .inl c35)), ((r 36), .inl (G.2 0, 260, .inl c36)), ((r 37), .inl (G.2 0, 260, .inl c37)), ((r 38), .inl (G.2 0, 260, .inl c38)), ((r 39), .inl (G.2 0, 260, .inl c39)), ((r 41), .inl (G.2 0, 840, .inl c41)), ((r 42), .inl (G.2 0, 840, .inl c42)), ((r 45), .inl (G.2 0, 9, .inl d45_45)), ((r 46), .inl (G.2 0, 400, .inl d46_46)), ((r 49), .inl (G.2 0, 71, .inl d49_47)), ((r 52), .inl (G.2 0, 6, .inl d52_48)), ((r 53), .inl (G.2 2, 6, .inl d53_49)), ((r 54), .inl (G.2 2, 6, .inl d54_50)), ((r 55), .inl (G.2 0, 6, .inl d55_51)), ((r 60), .inl (G.2 0, 6, .inl d60_52))] H _ := hw
        refine W.eq (g2 := F0 m 16 ls [.int rv_43]) rfl ?_
        refine lv_if_ne (tgt := 21) hx hb dX10_settles_16 (by decide) (fun c16_53 => ?_) (fun c16_53 => ?_)
        · skip
          refine lv_iinc (v := (nI (vi4 + 1))) (lv' := [(1, .int (nI (vi4 + 1))), (0, .ref (r 0))]) hx hb dX10_settles_21 hl (k := 0) rfl (nI_add _ 1) (by decide) rfl (fun ls hl => ?_)
          refine lv_goto (tgt := 6) hx hb dX10_settles_24 (by decide) ?_
          exact ih6 (vi4 + 1) d45_45 d46_46 d52_48 d53_49 d54_50 d55_51 d60_52 k47_44 d49_47 _ _ _ (by omega) (by omega) (by first | assumption | omega | exact Or.inl rfl | exact Or.inr ⟨_, by omega, rfl⟩ | exact zz_oku (by assumption) (by first | exact Or.inl rfl | exact Or.inr ⟨_, by omega, rfl⟩)) (zr_gc1 hv6_40 hq13_0 (by assumption)) (hw.sub [3, 4, 5, 6, 7, 8, 9, 10, 11, 12, 13, 14, 15, 16, 17, 18, 19, 20, 22, 23, 24, 25, 26, 2, 0, 1, 21] (by decide +kernel) rfl) (lv_sub hl [0, 1] rfl)
        · skip
          refine lv_iload_n hx hb dX10_settles_19 rfl (lv_at hl 0 rfl) ?_
          exact hret _ _ _ _ _ _ ⟨(nI vi4), k47_44, k50_1, k51_2, d45_45, d46_46, d49_47, d52_48, d53_49, d54_50, d55_51, d60_52, rfl, rfl, (by first | exact ⟨_, hq1_0, zr_SEs hq1_1 hq1_2 (zr_SE1 hv6_40 hq13_0 (by assumption) (by omega))⟩ | exact ⟨_, hq1_0, zr_SEs hq1_1 hq1_2 (zr_SE2 hv6_40 (by omega))⟩), (by first | assumption | exact Or.inl rfl | exact Or.inr rfl | omega | exact Or.inr (by assumption) | exact zz_oku (by assumption) (by first | exact Or.inl rfl | exact Or.inr ⟨_, by omega, rfl⟩))⟩ (hw.sub [2, 3, 4, 5, 6, 7, 8, 9, 0, 10, 11, 12, 13, 14, 15, 16, 17, 18, 19, 20, 1, 21, 22, 23, 24, 25, 26] (by decide +kernel) rfl) rfl dX10_settles_20
  exact lp6_41 (101 + 1 - 0) 0 c45 c46 c52 c53 c54 c55 c60 j47 d49_3 _ _ _ (by omega) (by omega) (by first | assumption | omega | exact Or.inl rfl | exact Or.inr ⟨_, by omega, rfl⟩ | exact zz_oku (by assumption) (by first | exact Or.inl rfl | exact Or.inr ⟨_, by omega, rfl⟩)) zr_gc0 hw (lv_sub hl [0, 1] rfl)
theorem kd_ncX10_drift : kd_ck 26517717742110077767576114049321099019530313548042946006026584885493083380412523884147476983448932859778217012501290 48 cX10_drift.data.toList 0 = true := by decide +kernel
theorem dX10_drift_0 : decode cX10_drift 0 = .ok (.aload_n 0, 1) := kd_dk0 kd_o42 kd_ncX10_drift rfl
theorem dX10_drift_1 : decode cX10_drift 1 = .ok (.iload_n 1, 1) := kd_dk0 kd_o27 kd_ncX10_drift rfl
theorem dX10_drift_2 : decode cX10_drift 2 = .ok (.invokevirtual 382, 3) := kd_dk2 kd_o182 kd_ncX10_drift rfl
theorem dX10_drift_5 : decode cX10_drift 5 = .ok (.ifCond .eq 10, 3) := kd_dj2 kd_o153 (w := 10) kd_ncX10_drift rfl rfl
theorem dX10_drift_8 : decode cX10_drift 8 = .ok (.iload_n 2, 1) := kd_dk0 kd_o28 kd_ncX10_drift rfl
theorem dX10_drift_9 : decode cX10_drift 9 = .ok (.invokestatic 449, 3) := kd_dk2 kd_o184 kd_ncX10_drift rfl
theorem dX10_drift_12 : decode cX10_drift 12 = .ok (.ifCond .ne 5, 3) := kd_dj2 kd_o154 (w := 5) kd_ncX10_drift rfl rfl
theorem dX10_drift_15 : decode cX10_drift 15 = .ok (.iconst (-1), 1) := kd_dk0 kd_o2 kd_ncX10_drift rfl
theorem dX10_drift_16 : decode cX10_drift 16 = .ok (.ireturn, 1) := kd_dk0 kd_o172 kd_ncX10_drift rfl
theorem dX10_drift_17 : decode cX10_drift 17 = .ok (.aload_n 0, 1) := kd_dk0 kd_o42 kd_ncX10_drift rfl
theorem dX10_drift_18 : decode cX10_drift 18 = .ok (.invokevirtual 442, 3) := kd_dk2 kd_o182 kd_ncX10_drift rfl
theorem dX10_drift_21 : decode cX10_drift 21 = .ok (.aload_n 0, 1) := kd_dk0 kd_o42 kd_ncX10_drift rfl
theorem dX10_drift_22 : decode cX10_drift 22 = .ok (.iload_n 2, 1) := kd_dk0 kd_o28 kd_ncX10_drift rfl
theorem dX10_drift_23 : decode cX10_drift 23 = .ok (.invokevirtual 397, 3) := kd_dk2 kd_o182 kd_ncX10_drift rfl
theorem dX10_drift_26 : decode cX10_drift 26 = .ok (.aload_n 0, 1) := kd_dk0 kd_o42 kd_ncX10_drift rfl
theorem dX10_drift_27 : decode cX10_drift 27 = .ok (.getfield 113, 3) := kd_dk2 kd_o180 kd_ncX10_drift rfl
theorem dX10_drift_30 : decode cX10_drift 30 = .ok (.bipush 21, 2) := kd_dj1 kd_o16 (w := 21) kd_ncX10_drift rfl rfl
theorem dX10_drift_32 : decode cX10_drift 32 = .ok (.iload_n 1, 1) := kd_dk0 kd_o27 kd_ncX10_drift rfl
theorem dX10_drift_33 : decode cX10_drift 33 = .ok (.iadd, 1) := kd_dk0 kd_o96 kd_ncX10_drift rfl
theorem dX10_drift_34 : decode cX10_drift 34 = .ok (.iaload, 1) := kd_dk0 kd_o46 kd_ncX10_drift rfl
theorem dX10_drift_35 : decode cX10_drift 35 = .ok (.aload_n 0, 1) := kd_dk0 kd_o42 kd_ncX10_drift rfl
theorem dX10_drift_36 : decode cX10_drift 36 = .ok (.getfield 110, 3) := kd_dk2 kd_o180 kd_ncX10_drift rfl
theorem dX10_drift_39 : decode cX10_drift 39 = .ok (.bipush 21, 2) := kd_dj1 kd_o16 (w := 21) kd_ncX10_drift rfl rfl
theorem dX10_drift_41 : decode cX10_drift 41 = .ok (.iload_n 1, 1) := kd_dk0 kd_o27 kd_ncX10_drift rfl
theorem dX10_drift_42 : decode cX10_drift 42 = .ok (.iadd, 1) := kd_dk0 kd_o96 kd_ncX10_drift rfl
theorem dX10_drift_43 : decode cX10_drift 43 = .ok (.iaload, 1) := kd_dk0 kd_o46 kd_ncX10_drift rfl
theorem dX10_drift_44 : decode cX10_drift 44 = .ok (.invokestatic 330, 3) := kd_dk2 kd_o184 kd_ncX10_drift rfl
theorem dX10_drift_47 : decode cX10_drift 47 = .ok (.ireturn, 1) := kd_dk0 kd_o172 kd_ncX10_drift rfl
set_option maxHeartbeats 8000000 in
set_option maxRecDepth 100000 in
theorem c_x_drift (l : Launch) (G : zz_G) (r : Nat → Nat) (j0 : Int32) (j2 : Int32) (j4 : Int32) (j10 : Int32) (j11 : Int32) (j12 : Int32) (j13 : Int32) (j14 : Int32) (j15 : Int32) (j16 : Int32) (j17 : Int32) (j19 : Int32) (j20 : Int32) (j34 : Int32) (j40 : Int32) (j44 : Int32) (j47 : Int32) (j50 : Int32) (j51 : Int32) (j56 : Int32) (j61 : Int32) (lv : Nat) (pp : Nat) (pq : Nat) (c22 : Nat → Int32) (c24 : Nat → Int32) (c25 : Nat → Int32) (c26 : Nat → Int32) (c28 : Nat → Int32) (c29 : Nat → Int32) (c30 : Nat → Int32) (c31 : Nat → Int32) (c32 : Nat → Int32) (c33 : Nat → Int32) (c35 : Nat → Int32) (c36 : Nat → Int32) (c37 : Nat → Int32) (c38 : Nat → Int32) (c39 : Nat → Int32) (c41 : Nat → Int32) (c42 : Nat → Int32) (c45 : Nat → Int32) (c46 : Nat → Int32) (c48 : Nat → Int32) (c49 : Nat → Int32) (c52 : Nat → Int32) (c53 : Nat → Int32) (c54 : Nat → Int32) (c55 : Nat → Int32) (ar1 : Int32) (ar2 : Int32) (hlv : lv ≤ 1) (hpe : c22 lv = nI pp) (hpp : pp ≤ 7) (hpa : c26 lv = nI pq) (hpq : pq ≤ 6) (hlw : zz_LW 2 0 0 c32 c33 c35 c36 c37 c38 c39 c41 c42) (hca : ∀ j, j < 6 → zz_ok 7 (c52 j)) : zz_M l G mX10_drift 7 0 0 [.ref (r 0), .int ar1, .int ar2] [((r 0), .inr (10, (zz_mo r [(0, j0), (2, j2), (4, j4), (10, j10), (11, j11), (12, j12), (13, j13), (14, j14), (15, j15), (16, j16), (17, j17), (18, (nI lv)), (19, j19), (20, j20), (34, j34), (40, j40), (44, j44), (47, j47), (50, j50), (51, j51), (56, j56), (61, j61)]))), ((r 22), .inl (G.2 0, 2, .inl c22)), ((r 24), .inl (G.2 0, 14, .inl c24)), ((r 25), .inl (G.2 0, 14, .inl c25)), ((r 26), .inl (G.2 0, 2, .inl c26)), ((r 28), .inl (G.2 0, 12, .inl c28)), ((r 29), .inl (G.2 0, 12, .inl c29)), ((r 30), .inl (G.2 0, 2, .inl c30)), ((r 31), .inl (G.2 0, 2, .inl c31)), ((r 32), .inl (G.2 0, 8, .inl c32)), ((r 33), .inl (G.2 0, 8, .inl c33)), ((r 35), .inl (G.2 2, 260, .inl c35)), ((r 36), .inl (G.2 0, 260, .inl c36)), ((r 37), .inl (G.2 0, 260, .inl c37)), ((r 38), .inl (G.2 0, 260, .inl c38)), ((r 39), .inl (G.2 0, 260, .inl c39)), ((r 41), .inl (G.2 0, 840, .inl c41)), ((r 42), .inl (G.2 0, 840, .inl c42)), ((r 45), .inl (G.2 0, 9, .inl c45)), ((r 46), .inl (G.2 0, 400, .inl c46)), ((r 48), .inl (G.2 0, 71, .inl c48)), ((r 49), .inl (G.2 0, 71, .inl c49)), ((r 52), .inl (G.2 0, 6, .inl c52)), ((r 53), .inl (G.2 2, 6, .inl c53)), ((r 54), .inl (G.2 2, 6, .inl c54)), ((r 55), .inl (G.2 0, 6, .inl c55))] (fun rr u => ∃ (rv : Int32), ∃ (k47 : Int32), ∃ (k50 : Int32), ∃ (k51 : Int32), ∃ (d45 : Nat → Int32), ∃ (d46 : Nat → Int32), ∃ (d49 : Nat → Int32), ∃ (d52 : Nat → Int32), ∃ (d53 : Nat → Int32), ∃ (d54 : Nat → Int32), ∃ (d55 : Nat → Int32), rr = some (.int rv) ∧ u = [((r 0), .inr (10, (zz_mo r [(0, j0), (2, j2), (4, j4), (10, j10), (11, j11), (12, j12), (13, j13), (14, j14), (15, j15), (16, j16), (17, j17), (18, (nI lv)), (19, j19), (20, j20), (34, j34), (40, j40), (44, j44), (47, k47), (50, k50), (51, k51), (56, j56), (61, j61)]))), ((r 22), .inl (G.2 0, 2, .inl c22)), ((r 24), .inl (G.2 0, 14, .inl c24)), ((r 25), .inl (G.2 0, 14, .inl c25)), ((r 26), .inl (G.2 0, 2, .inl c26)), ((r 28), .inl (G.2 0, 12, .inl c28)), ((r 29), .inl (G.2 0, 12, .inl c29)), ((r 30), .inl (G.2 0, 2, .inl c30)), ((r 31), .inl (G.2 0, 2, .inl c31)), ((r 32), .inl (G.2 0, 8, .inl c32)), ((r 33), .inl (G.2 0, 8, .inl c33)), ((r 35), .inl (G.2 2, 260, .inl c35)), ((r 36), .inl (G.2 0, 260, .inl c36)), ((r 37), .inl (G.2 0, 260, .inl c37)), ((r 38), .inl (G.2 0, 260, .inl c38)), ((r 39), .inl (G.2 0, 260, .inl c39)), ((r 41), .inl (G.2 0, 840, .inl c41)), ((r 42), .inl (G.2 0, 840, .inl c42)), ((r 45), .inl (G.2 0, 9, .inl d45)), ((r 46), .inl (G.2 0, 400, .inl d46)), ((r 48), .inl (G.2 0, 71, .inl c48)), ((r 49), .inl (G.2 0, 71, .inl d49)), ((r 52), .inl (G.2 0, 6, .inl d52)), ((r 53), .inl (G.2 2, 6, .inl d53)), ((r 54), .inl (G.2 2, 6, .inl d54)), ((r 55), .inl (G.2 0, 6, .inl d55))] ∧ (zA (zz_In pq ar1 ∧ (zz_In 61 ar2 ∧ ¬ ar2 = 0)) (∃ p k : Nat, p < pq ∧ k ≤ 60 ∧ ar1 = nI p ∧ ar2 = nI k ∧ zA_R (zr_go (zr_HD lv c32 c33 c35 c36 c37 c38 c39 c41 c42 (c30 lv)) lv c24 c28 c25 c29 (c30 lv) (c31 lv) 1 pp pq) c48 k (fun τ => rv = zr_ro (τ (21 + p)) (c48 (21 + p)))) rv (-1)) ∧ (∀ j, j < 6 → zz_ok 7 (d52 j))) := by
  refine zz_enteri (by decide +kernel) (Nat.le_of_ble_eq_true rfl) ?_
  intro p e s m args below meth c A Q ls S hnm hret hw hl
  have hl : lv_has ls 3 [(0, .ref (r 0)), (1, .int ar1), (2, .int ar2)] := hl
  have hx := S.1
  have hb := S.2.1
  refine lv_aload_n hx hb dX10_drift_0 rfl (lv_at hl 0 rfl) ?_
  refine lv_iload_n hx hb dX10_drift_1 rfl (lv_at hl 1 rfl) ?_
  refine zz_callV (qb := 0) (As := [.int ar1]) (rest := []) (wr := [((r 22), .inl (G.2 0, 2, .inl c22)), ((r 24), .inl (G.2 0, 14, .inl c24)), ((r 25), .inl (G.2 0, 14, .inl c25)), ((r 28), .inl (G.2 0, 12, .inl c28)), ((r 29), .inl (G.2 0, 12, .inl c29)), ((r 30), .inl (G.2 0, 2, .inl c30)), ((r 31), .inl (G.2 0, 2, .inl c31)), ((r 32), .inl (G.2 0, 8, .inl c32)), ((r 33), .inl (G.2 0, 8, .inl c33)), ((r 35), .inl (G.2 2, 260, .inl c35)), ((r 36), .inl (G.2 0, 260, .inl c36)), ((r 37), .inl (G.2 0, 260, .inl c37)), ((r 38), .inl (G.2 0, 260, .inl c38)), ((r 39), .inl (G.2 0, 260, .inl c39)), ((r 41), .inl (G.2 0, 840, .inl c41)), ((r 42), .inl (G.2 0, 840, .inl c42)), ((r 45), .inl (G.2 0, 9, .inl c45)), ((r 46), .inl (G.2 0, 400, .inl c46)), ((r 48), .inl (G.2 0, 71, .inl c48)), ((r 49), .inl (G.2 0, 71, .inl c49)), ((r 52), .inl (G.2 0, 6, .inl c52)), ((r 53), .inl (G.2 2, 6, .inl c53)), ((r 54), .inl (G.2 2, 6, .inl c54)), ((r 55), .inl (G.2 0, 6, .inl c55))]) S hw hl.1 lX10_382 (c_x_isPart l G r j0 j2 j4 j10 j11 j12 j13 j14 j15 j16 j17 j19 j20 j34 j40 j44 j47 j50 j51 j56 j61 lv pq c26 ar1 (by first | assumption | omega | exact Or.inr ⟨_, by omega, rfl⟩ | (unfold zz_sok; decide) | decide | exact (fun j hj => (hv7 j hj).1)) (by first | assumption | omega | exact Or.inr ⟨_, by omega, rfl⟩ | (unfold zz_sok; decide) | decide | exact (fun j hj => (hv7 j hj).1)) (by first | assumption | omega | exact Or.inr ⟨_, by omega, rfl⟩ | (unfold zz_sok; decide) | decide | exact (fun j hj => (hv7 j hj).1))) ⟨Nat.le_of_ble_eq_true rfl, Nat.le_of_ble_eq_true rfl⟩ ⟨Nat.le_of_ble_eq_true rfl, Nat.le_of_ble_eq_true rfl⟩ [0, 4] [1, 2, 3, 5, 6, 7, 8, 9, 10, 11, 12, 13, 14, 15, 16, 17, 18, 19, 20, 21, 22, 23, 24, 25] (by decide +kernel) rfl rfl (by decide +kernel) (by decide +kernel) rfl rfl rfl rfl (Nat.le_of_ble_eq_true rfl) dX10_drift_2 ?_
  clear hw
  intro rr u H locs hp hw
  refine hp.elim fun rv_1 zg0 => zg0.elim fun zee1 zg1 => zg1.elim fun zee2 zg2 => zg2.elim fun hq2_0 zg3 => zg3.elim fun hq2_1 hq2_2 => ?_
  clear hp zg0 zg1 zg2 zg3
  subst zee1
  subst zee2
  replace hw : zz_w G A s [((r 22), .inl (G.2 0, 2, .inl c22)), ((r 24), .inl (G.2 0, 14, .inl c24)), ((r 25), .inl (G.2 0, 14, .inl c25)), ((r 28), .inl (G.2 0, 12, .inl c28)), ((r 29), .inl (G.2 0, 12, .inl c29)), ((r 30), .inl (G.2 0, 2, .inl c30)), ((r 31), .inl (G.2 0, 2, .inl c31)), ((r 32), .inl (G.2 0, 8, .inl c32)), ((r 33), .inl (G.2 0, 8, .inl c33)), ((r 35), .inl (G.2 2, 260, .inl c35)), ((r 36), .inl (G.2 0, 260, .inl c36)), ((r 37), .inl (G.2 0, 260, .inl c37)), ((r 38), .inl (G.2 0, 260, .inl c38)), ((r 39), .inl (G.2 0, 260, .inl c39)), ((r 41), .inl (G.2 0, 840, .inl c41)), ((r 42), .inl (G.2 0, 840, .inl c42)), ((r 45), .inl (G.2 0, 9, .inl c45)), ((r 46), .inl (G.2 0, 400, .inl c46)), ((r 48), .inl (G.2 0, 71, .inl c48)), ((r 49), .inl (G.2 0, 71, .inl c49)), ((r 52), .inl (G.2 0, 6, .inl c52)), ((r 53), .inl (G.2 2, 6, .inl c53)), ((r 54), .inl (G.2 2, 6, .inl c54)), ((r 55), .inl (G.2 0, 6, .inl c55)), ((r 0), .inr (10, (zz_mo r [(0, j0), (2, j2), (4, j4), (10, j10), (11, j11), (12, j12), (13, j13), (14, j14), (15, j15), (16, j16), (17, j17), (18, (nI lv)), (19, j19), (20, j20), (34, j34), (40, j40), (44, j44), (47, j47), (50, j50), (51, j51), (56, j56), (61, j61)]))), ((r 26), .inl (G.2 0, 2, .inl c26))] H _ := hw
  refine W.eq (g2 := F0 m 5 ls [.int rv_1]) rfl ?_
  refine lv_if_eq (tgt := 15) hx hb dX10_drift_5 (by decide) (fun c5_2 => ?_) (fun c5_2 => ?_)
  · skip
    refine lv_iconst (v := (-1)) hx hb dX10_drift_15 (by decide) ?_
    exact hret _ _ _ _ _ _ ⟨(-1), j47, j50, j51, c45, c46, c49, c52, c53, c54, c55, rfl, rfl, (by first | exact zA0 (fun z => hq2_1 (by assumption) z.1) | exact zA0 (fun z => zA_sn hq9_1 (by assumption) z.2) | exact zA1 ⟨⟨_, by assumption, rfl⟩, zA_sy hq9_1 (by assumption) (by assumption)⟩ ⟨_, _, by assumption, by assumption, rfl, rfl, _, _, hq18_0, zy_gos hq18_1 hq18_2 hq23_0, hq44_0⟩), (by first | assumption | exact Or.inl rfl | exact Or.inr rfl | omega | exact Or.inr (by assumption) | exact zz_oku (by assumption) (by first | exact Or.inl rfl | exact Or.inr ⟨_, by omega, rfl⟩))⟩ (hw.sub [24, 0, 1, 2, 25, 3, 4, 5, 6, 7, 8, 9, 10, 11, 12, 13, 14, 15, 16, 17, 18, 19, 20, 21, 22, 23] (by decide +kernel) rfl) rfl dX10_drift_16
  · skip
    obtain ⟨vq3, hvq3, rfl⟩ := hq2_0.resolve_left c5_2
    refine lv_iload_n hx hb dX10_drift_8 rfl (lv_at hl 2 rfl) ?_
    refine zz_callS (As := [.int ar2]) (rest := []) (wr := [((r 22), .inl (G.2 0, 2, .inl c22)), ((r 24), .inl (G.2 0, 14, .inl c24)), ((r 25), .inl (G.2 0, 14, .inl c25)), ((r 28), .inl (G.2 0, 12, .inl c28)), ((r 29), .inl (G.2 0, 12, .inl c29)), ((r 30), .inl (G.2 0, 2, .inl c30)), ((r 31), .inl (G.2 0, 2, .inl c31)), ((r 32), .inl (G.2 0, 8, .inl c32)), ((r 33), .inl (G.2 0, 8, .inl c33)), ((r 35), .inl (G.2 2, 260, .inl c35)), ((r 36), .inl (G.2 0, 260, .inl c36)), ((r 37), .inl (G.2 0, 260, .inl c37)), ((r 38), .inl (G.2 0, 260, .inl c38)), ((r 39), .inl (G.2 0, 260, .inl c39)), ((r 41), .inl (G.2 0, 840, .inl c41)), ((r 42), .inl (G.2 0, 840, .inl c42)), ((r 45), .inl (G.2 0, 9, .inl c45)), ((r 46), .inl (G.2 0, 400, .inl c46)), ((r 48), .inl (G.2 0, 71, .inl c48)), ((r 49), .inl (G.2 0, 71, .inl c49)), ((r 52), .inl (G.2 0, 6, .inl c52)), ((r 53), .inl (G.2 2, 6, .inl c53)), ((r 54), .inl (G.2 2, 6, .inl c54)), ((r 55), .inl (G.2 0, 6, .inl c55)), ((r 0), .inr (10, (zz_mo r [(0, j0), (2, j2), (4, j4), (10, j10), (11, j11), (12, j12), (13, j13), (14, j14), (15, j15), (16, j16), (17, j17), (18, (nI lv)), (19, j19), (20, j20), (34, j34), (40, j40), (44, j44), (47, j47), (50, j50), (51, j51), (56, j56), (61, j61)]))), ((r 26), .inl (G.2 0, 2, .inl c26))]) S hw hl.1 lX10_449 (c_x_isSome l G ar2) ⟨Nat.le_of_ble_eq_true rfl, Nat.le_of_ble_eq_true rfl⟩ ⟨Nat.le_of_ble_eq_true rfl, Nat.le_of_ble_eq_true rfl⟩ [] [0, 1, 2, 3, 4, 5, 6, 7, 8, 9, 10, 11, 12, 13, 14, 15, 16, 17, 18, 19, 20, 21, 22, 23, 24, 25] (by decide +kernel) rfl rfl (by decide +kernel) (by decide +kernel) rfl rfl (Nat.le_of_ble_eq_true rfl) dX10_drift_9 ?_
    clear hw
    intro rr u H locs hp hw
    refine hp.elim fun rv_4 zg0 => zg0.elim fun zee1 zg1 => zg1.elim fun zee2 zg2 => zg2.elim fun hq9_0 zg3 => zg3.elim fun hq9_1 hq9_2 => ?_
    clear hp zg0 zg1 zg2 zg3
    subst zee1
    subst zee2
    replace hw : zz_w G A s [((r 22), .inl (G.2 0, 2, .inl c22)), ((r 24), .inl (G.2 0, 14, .inl c24)), ((r 25), .inl (G.2 0, 14, .inl c25)), ((r 28), .inl (G.2 0, 12, .inl c28)), ((r 29), .inl (G.2 0, 12, .inl c29)), ((r 30), .inl (G.2 0, 2, .inl c30)), ((r 31), .inl (G.2 0, 2, .inl c31)), ((r 32), .inl (G.2 0, 8, .inl c32)), ((r 33), .inl (G.2 0, 8, .inl c33)), ((r 35), .inl (G.2 2, 260, .inl c35)), ((r 36), .inl (G.2 0, 260, .inl c36)), ((r 37), .inl (G.2 0, 260, .inl c37)), ((r 38), .inl (G.2 0, 260, .inl c38)), ((r 39), .inl (G.2 0, 260, .inl c39)), ((r 41), .inl (G.2 0, 840, .inl c41)), ((r 42), .inl (G.2 0, 840, .inl c42)), ((r 45), .inl (G.2 0, 9, .inl c45)), ((r 46), .inl (G.2 0, 400, .inl c46)), ((r 48), .inl (G.2 0, 71, .inl c48)), ((r 49), .inl (G.2 0, 71, .inl c49)), ((r 52), .inl (G.2 0, 6, .inl c52)), ((r 53), .inl (G.2 2, 6, .inl c53)), ((r 54), .inl (G.2 2, 6, .inl c54)), ((r 55), .inl (G.2 0, 6, .inl c55)), ((r 0), .inr (10, (zz_mo r [(0, j0), (2, j2), (4, j4), (10, j10), (11, j11), (12, j12), (13, j13), (14, j14), (15, j15), (16, j16), (17, j17), (18, (nI lv)), (19, j19), (20, j20), (34, j34), (40, j40), (44, j44), (47, j47), (50, j50), (51, j51), (56, j56), (61, j61)]))), ((r 26), .inl (G.2 0, 2, .inl c26))] H _ := hw
    refine W.eq (g2 := F0 m 12 ls [.int rv_4]) rfl ?_
    refine lv_if_ne (tgt := 17) hx hb dX10_drift_12 (by decide) (fun c12_5 => ?_) (fun c12_5 => ?_)
    · skip
      obtain ⟨vq6, hvq6, rfl⟩ := hq9_0.resolve_left c12_5
      refine lv_aload_n hx hb dX10_drift_17 rfl (lv_at hl 0 rfl) ?_
      refine zz_callV (qb := 24) (As := []) (rest := []) (wr := [((r 22), .inl (G.2 0, 2, .inl c22)), ((r 24), .inl (G.2 0, 14, .inl c24)), ((r 25), .inl (G.2 0, 14, .inl c25)), ((r 28), .inl (G.2 0, 12, .inl c28)), ((r 29), .inl (G.2 0, 12, .inl c29)), ((r 30), .inl (G.2 0, 2, .inl c30)), ((r 32), .inl (G.2 0, 8, .inl c32)), ((r 33), .inl (G.2 0, 8, .inl c33)), ((r 35), .inl (G.2 2, 260, .inl c35)), ((r 36), .inl (G.2 0, 260, .inl c36)), ((r 37), .inl (G.2 0, 260, .inl c37)), ((r 38), .inl (G.2 0, 260, .inl c38)), ((r 39), .inl (G.2 0, 260, .inl c39)), ((r 41), .inl (G.2 0, 840, .inl c41)), ((r 42), .inl (G.2 0, 840, .inl c42)), ((r 45), .inl (G.2 0, 9, .inl c45)), ((r 46), .inl (G.2 0, 400, .inl c46)), ((r 52), .inl (G.2 0, 6, .inl c52)), ((r 53), .inl (G.2 2, 6, .inl c53)), ((r 54), .inl (G.2 2, 6, .inl c54)), ((r 55), .inl (G.2 0, 6, .inl c55)), ((r 26), .inl (G.2 0, 2, .inl c26))]) S hw hl.1 lX10_442 (c_x_copiesStill l G r j0 j2 j4 j10 j11 j12 j13 j14 j15 j16 j17 j19 j20 j34 j40 j44 j47 j50 j51 j56 j61 lv c31 c48 c49 (by first | assumption | omega | exact Or.inr ⟨_, by omega, rfl⟩ | (unfold zz_sok; decide) | decide | exact (fun j hj => (hv7 j hj).1))) ⟨Nat.le_of_ble_eq_true rfl, Nat.le_of_ble_eq_true rfl⟩ ⟨Nat.le_of_ble_eq_true rfl, Nat.le_of_ble_eq_true rfl⟩ [24, 6, 18, 19] [0, 1, 2, 3, 4, 5, 7, 8, 9, 10, 11, 12, 13, 14, 15, 16, 17, 20, 21, 22, 23, 25] (by decide +kernel) rfl rfl (by decide +kernel) (by decide +kernel) rfl rfl rfl rfl (Nat.le_of_ble_eq_true rfl) dX10_drift_18 ?_
      clear hw
      intro rr u H locs hp hw
      refine hp.elim fun k50_7 zg0 => zg0.elim fun k51_8 zg1 => zg1.elim fun d49_9 zg2 => zg2.elim fun zee1 zg3 => zg3.elim fun zee2 zg4 => zg4.elim fun hq18_0 zg5 => zg5.elim fun hq18_1 hq18_2 => ?_
      clear hp zg0 zg1 zg2 zg3 zg4 zg5
      subst zee1
      subst zee2
      replace hw : zz_w G A s [((r 22), .inl (G.2 0, 2, .inl c22)), ((r 24), .inl (G.2 0, 14, .inl c24)), ((r 25), .inl (G.2 0, 14, .inl c25)), ((r 28), .inl (G.2 0, 12, .inl c28)), ((r 29), .inl (G.2 0, 12, .inl c29)), ((r 30), .inl (G.2 0, 2, .inl c30)), ((r 32), .inl (G.2 0, 8, .inl c32)), ((r 33), .inl (G.2 0, 8, .inl c33)), ((r 35), .inl (G.2 2, 260, .inl c35)), ((r 36), .inl (G.2 0, 260, .inl c36)), ((r 37), .inl (G.2 0, 260, .inl c37)), ((r 38), .inl (G.2 0, 260, .inl c38)), ((r 39), .inl (G.2 0, 260, .inl c39)), ((r 41), .inl (G.2 0, 840, .inl c41)), ((r 42), .inl (G.2 0, 840, .inl c42)), ((r 45), .inl (G.2 0, 9, .inl c45)), ((r 46), .inl (G.2 0, 400, .inl c46)), ((r 52), .inl (G.2 0, 6, .inl c52)), ((r 53), .inl (G.2 2, 6, .inl c53)), ((r 54), .inl (G.2 2, 6, .inl c54)), ((r 55), .inl (G.2 0, 6, .inl c55)), ((r 26), .inl (G.2 0, 2, .inl c26)), ((r 0), .inr (10, (zz_mo r [(0, j0), (2, j2), (4, j4), (10, j10), (11, j11), (12, j12), (13, j13), (14, j14), (15, j15), (16, j16), (17, j17), (18, (nI lv)), (19, j19), (20, j20), (34, j34), (40, j40), (44, j44), (47, j47), (50, k50_7), (51, k51_8), (56, j56), (61, j61)]))), ((r 31), .inl (G.2 0, 2, .inl c31)), ((r 48), .inl (G.2 0, 71, .inl c48)), ((r 49), .inl (G.2 0, 71, .inl d49_9))] H _ := hw
      refine W.eq (g2 := F0 m 21 ls []) rfl ?_
      refine lv_aload_n hx hb dX10_drift_21 rfl (lv_at hl 0 rfl) ?_
      refine lv_iload_n hx hb dX10_drift_22 rfl (lv_at hl 2 rfl) ?_
      refine zz_callV (qb := 22) (As := [.int (nI vq6)]) (rest := []) (wr := [((r 31), .inl (G.2 0, 2, .inl c31)), ((r 48), .inl (G.2 0, 71, .inl c48))]) S hw hl.1 lX10_397 (c_x_goes l G r j0 j2 j4 j10 j11 j12 j13 j14 j15 j16 j17 j19 j20 j34 j40 j44 j47 k50_7 k51_8 j56 j61 lv pp pq c22 c24 c25 c26 c28 c29 c30 c32 c33 c35 c36 c37 c38 c39 c41 c42 c45 c46 d49_9 c52 c53 c54 c55 vq6 (by first | assumption | omega | exact Or.inr ⟨_, by omega, rfl⟩ | (unfold zz_sok; decide) | decide | exact (fun j hj => (hv7 j hj).1)) (by first | assumption | omega | exact Or.inr ⟨_, by omega, rfl⟩ | (unfold zz_sok; decide) | decide | exact (fun j hj => (hv7 j hj).1)) (by first | assumption | omega | exact Or.inr ⟨_, by omega, rfl⟩ | (unfold zz_sok; decide) | decide | exact (fun j hj => (hv7 j hj).1)) (by first | assumption | omega | exact Or.inr ⟨_, by omega, rfl⟩ | (unfold zz_sok; decide) | decide | exact (fun j hj => (hv7 j hj).1)) (by first | assumption | omega | exact Or.inr ⟨_, by omega, rfl⟩ | (unfold zz_sok; decide) | decide | exact (fun j hj => (hv7 j hj).1)) (by first | assumption | omega | exact Or.inr ⟨_, by omega, rfl⟩ | (unfold zz_sok; decide) | decide | exact (fun j hj => (hv7 j hj).1)) (by first | assumption | omega | exact Or.inr ⟨_, by omega, rfl⟩ | (unfold zz_sok; decide) | decide | exact (fun j hj => (hv7 j hj).1)) (by first | assumption | omega | exact Or.inr ⟨_, by omega, rfl⟩ | (unfold zz_sok; decide) | decide | exact (fun j hj => (hv7 j hj).1))) ⟨Nat.le_of_ble_eq_true rfl, Nat.le_of_ble_eq_true rfl⟩ ⟨Nat.le_of_ble_eq_true rfl, Nat.le_of_ble_eq_true rfl⟩ [22, 0, 1, 2, 21, 3, 4, 5, 6, 7, 8, 9, 10, 11, 12, 13, 14, 15, 16, 25, 17, 18, 19, 20] [23, 24] (by decide +kernel) rfl rfl (by decide +kernel) (by decide +kernel) rfl rfl rfl rfl (Nat.le_of_ble_eq_true rfl) dX10_drift_23 ?_
      clear hw
      intro rr u H locs hp hw
      refine hp.elim fun k47_10 zg0 => zg0.elim fun d45_11 zg1 => zg1.elim fun d46_12 zg2 => zg2.elim fun d49_13 zg3 => zg3.elim fun d52_14 zg4 => zg4.elim fun d53_15 zg5 => zg5.elim fun d54_16 zg6 => zg6.elim fun d55_17 zg7 => zg7.elim fun zee1 zg8 => zg8.elim fun zee2 zg9 => zg9.elim fun hq23_0 hq23_1 => ?_
      clear hp zg0 zg1 zg2 zg3 zg4 zg5 zg6 zg7 zg8 zg9
      subst zee1
      subst zee2
      replace hw : zz_w G A s [((r 31), .inl (G.2 0, 2, .inl c31)), ((r 48), .inl (G.2 0, 71, .inl c48)), ((r 0), .inr (10, (zz_mo r [(0, j0), (2, j2), (4, j4), (10, j10), (11, j11), (12, j12), (13, j13), (14, j14), (15, j15), (16, j16), (17, j17), (18, (nI lv)), (19, j19), (20, j20), (34, j34), (40, j40), (44, j44), (47, k47_10), (50, k50_7), (51, k51_8), (56, j56), (61, j61)]))), ((r 22), .inl (G.2 0, 2, .inl c22)), ((r 24), .inl (G.2 0, 14, .inl c24)), ((r 25), .inl (G.2 0, 14, .inl c25)), ((r 26), .inl (G.2 0, 2, .inl c26)), ((r 28), .inl (G.2 0, 12, .inl c28)), ((r 29), .inl (G.2 0, 12, .inl c29)), ((r 30), .inl (G.2 0, 2, .inl c30)), ((r 32), .inl (G.2 0, 8, .inl c32)), ((r 33), .inl (G.2 0, 8, .inl c33)), ((r 35), .inl (G.2 2, 260, .inl c35)), ((r 36), .inl (G.2 0, 260, .inl c36)), ((r 37), .inl (G.2 0, 260, .inl c37)), ((r 38), .inl (G.2 0, 260, .inl c38)), ((r 39), .inl (G.2 0, 260, .inl c39)), ((r 41), .inl (G.2 0, 840, .inl c41)), ((r 42), .inl (G.2 0, 840, .inl c42)), ((r 45), .inl (G.2 0, 9, .inl d45_11)), ((r 46), .inl (G.2 0, 400, .inl d46_12)), ((r 49), .inl (G.2 0, 71, .inl d49_13)), ((r 52), .inl (G.2 0, 6, .inl d52_14)), ((r 53), .inl (G.2 2, 6, .inl d53_15)), ((r 54), .inl (G.2 2, 6, .inl d54_16)), ((r 55), .inl (G.2 0, 6, .inl d55_17))] H _ := hw
      refine W.eq (g2 := F0 m 26 ls []) rfl ?_
      refine lv_aload_n hx hb dX10_drift_26 rfl (lv_at hl 0 rfl) ?_
      refine zz_get (v := .ref (r 49)) S hw fgX10_113 2 rfl rfl dX10_drift_27 ?_
      refine lv_bipush (v := 21) hx hb dX10_drift_30 (by decide) ?_
      refine W.eq (g2 := F0 m 32 ls [.int 21, .ref (r 49)]) rfl ?_
      refine lv_iload_n hx hb dX10_drift_32 rfl (lv_at hl 1 rfl) ?_
      refine lv_iadd hx hb dX10_drift_33 ?_
      refine zz_topi (y := (nI (21 + vq3))) (nI_add _ _) ?_
      refine zz_iald (v := (d49_13 (21 + vq3))) S hw 21 rfl (vp_in_nI (n := (21 + vq3)) (by omega) (by decide)) (congrArg d49_13 (nI_clamp (n := (21 + vq3)) (by omega))) dX10_drift_34 ?_
      refine lv_aload_n hx hb dX10_drift_35 rfl (lv_at hl 0 rfl) ?_
      refine zz_get (v := .ref (r 48)) S hw fgX10_110 2 rfl rfl dX10_drift_36 ?_
      refine lv_bipush (v := 21) hx hb dX10_drift_39 (by decide) ?_
      refine lv_iload_n hx hb dX10_drift_41 rfl (lv_at hl 1 rfl) ?_
      refine lv_iadd hx hb dX10_drift_42 ?_
      refine zz_topi (y := (nI (21 + vq3))) (nI_add _ _) ?_
      refine zz_iald (v := (c48 (21 + vq3))) S hw 1 rfl (vp_in_nI (n := (21 + vq3)) (by omega) (by decide)) (congrArg c48 (nI_clamp (n := (21 + vq3)) (by omega))) dX10_drift_43 ?_
      refine zz_callS (As := [.int (d49_13 (21 + vq3)), .int (c48 (21 + vq3))]) (rest := []) (wr := [((r 31), .inl (G.2 0, 2, .inl c31)), ((r 48), .inl (G.2 0, 71, .inl c48)), ((r 0), .inr (10, (zz_mo r [(0, j0), (2, j2), (4, j4), (10, j10), (11, j11), (12, j12), (13, j13), (14, j14), (15, j15), (16, j16), (17, j17), (18, (nI lv)), (19, j19), (20, j20), (34, j34), (40, j40), (44, j44), (47, k47_10), (50, k50_7), (51, k51_8), (56, j56), (61, j61)]))), ((r 22), .inl (G.2 0, 2, .inl c22)), ((r 24), .inl (G.2 0, 14, .inl c24)), ((r 25), .inl (G.2 0, 14, .inl c25)), ((r 26), .inl (G.2 0, 2, .inl c26)), ((r 28), .inl (G.2 0, 12, .inl c28)), ((r 29), .inl (G.2 0, 12, .inl c29)), ((r 30), .inl (G.2 0, 2, .inl c30)), ((r 32), .inl (G.2 0, 8, .inl c32)), ((r 33), .inl (G.2 0, 8, .inl c33)), ((r 35), .inl (G.2 2, 260, .inl c35)), ((r 36), .inl (G.2 0, 260, .inl c36)), ((r 37), .inl (G.2 0, 260, .inl c37)), ((r 38), .inl (G.2 0, 260, .inl c38)), ((r 39), .inl (G.2 0, 260, .inl c39)), ((r 41), .inl (G.2 0, 840, .inl c41)), ((r 42), .inl (G.2 0, 840, .inl c42)), ((r 45), .inl (G.2 0, 9, .inl d45_11)), ((r 46), .inl (G.2 0, 400, .inl d46_12)), ((r 49), .inl (G.2 0, 71, .inl d49_13)), ((r 52), .inl (G.2 0, 6, .inl d52_14)), ((r 53), .inl (G.2 2, 6, .inl d53_15)), ((r 54), .inl (G.2 2, 6, .inl d54_16)), ((r 55), .inl (G.2 0, 6, .inl d55_17))]) S hw hl.1 lX10_330 (c_x_roundOff l G (d49_13 (21 + vq3)) (c48 (21 + vq3))) ⟨Nat.le_of_ble_eq_true rfl, Nat.le_of_ble_eq_true rfl⟩ ⟨Nat.le_of_ble_eq_true rfl, Nat.le_of_ble_eq_true rfl⟩ [] [0, 1, 2, 3, 4, 5, 6, 7, 8, 9, 10, 11, 12, 13, 14, 15, 16, 17, 18, 19, 20, 21, 22, 23, 24, 25] (by decide +kernel) rfl rfl (by decide +kernel) (by decide +kernel) rfl rfl (Nat.le_of_ble_eq_true rfl) dX10_drift_44 ?_
      clear hw
      intro rr u H locs hp hw
      refine hp.elim fun rv_18 zg0 => zg0.elim fun zee1 zg1 => zg1.elim fun zee2 hq44_0 => ?_
      clear hp zg0 zg1
      subst zee1
      subst zee2
      replace hw : zz_w G A s [((r 31), .inl (G.2 0, 2, .inl c31)), ((r 48), .inl (G.2 0, 71, .inl c48)), ((r 0), .inr (10, (zz_mo r [(0, j0), (2, j2), (4, j4), (10, j10), (11, j11), (12, j12), (13, j13), (14, j14), (15, j15), (16, j16), (17, j17), (18, (nI lv)), (19, j19), (20, j20), (34, j34), (40, j40), (44, j44), (47, k47_10), (50, k50_7), (51, k51_8), (56, j56), (61, j61)]))), ((r 22), .inl (G.2 0, 2, .inl c22)), ((r 24), .inl (G.2 0, 14, .inl c24)), ((r 25), .inl (G.2 0, 14, .inl c25)), ((r 26), .inl (G.2 0, 2, .inl c26)), ((r 28), .inl (G.2 0, 12, .inl c28)), ((r 29), .inl (G.2 0, 12, .inl c29)), ((r 30), .inl (G.2 0, 2, .inl c30)), ((r 32), .inl (G.2 0, 8, .inl c32)), ((r 33), .inl (G.2 0, 8, .inl c33)), ((r 35), .inl (G.2 2, 260, .inl c35)), ((r 36), .inl (G.2 0, 260, .inl c36)), ((r 37), .inl (G.2 0, 260, .inl c37)), ((r 38), .inl (G.2 0, 260, .inl c38)), ((r 39), .inl (G.2 0, 260, .inl c39)), ((r 41), .inl (G.2 0, 840, .inl c41)), ((r 42), .inl (G.2 0, 840, .inl c42)), ((r 45), .inl (G.2 0, 9, .inl d45_11)), ((r 46), .inl (G.2 0, 400, .inl d46_12)), ((r 49), .inl (G.2 0, 71, .inl d49_13)), ((r 52), .inl (G.2 0, 6, .inl d52_14)), ((r 53), .inl (G.2 2, 6, .inl d53_15)), ((r 54), .inl (G.2 2, 6, .inl d54_16)), ((r 55), .inl (G.2 0, 6, .inl d55_17))] H _ := hw
      refine W.eq (g2 := F0 m 47 ls [.int rv_18]) rfl ?_
      exact hret _ _ _ _ _ _ ⟨rv_18, k47_10, k50_7, k51_8, d45_11, d46_12, d49_13, d52_14, d53_15, d54_16, d55_17, rfl, rfl, (by first | exact zA0 (fun z => hq2_1 (by assumption) z.1) | exact zA0 (fun z => zA_sn hq9_1 (by assumption) z.2) | exact zA1 ⟨⟨_, by assumption, rfl⟩, zA_sy hq9_1 (by assumption) (by assumption)⟩ ⟨_, _, by assumption, by assumption, rfl, rfl, _, _, hq18_0, zy_gos hq18_1 hq18_2 hq23_0, hq44_0⟩), (by first | assumption | exact Or.inl rfl | exact Or.inr rfl | omega | exact Or.inr (by assumption) | exact zz_oku (by assumption) (by first | exact Or.inl rfl | exact Or.inr ⟨_, by omega, rfl⟩))⟩ (hw.sub [2, 3, 4, 5, 6, 7, 8, 9, 0, 10, 11, 12, 13, 14, 15, 16, 17, 18, 19, 20, 1, 21, 22, 23, 24, 25] (by decide +kernel) rfl) rfl dX10_drift_47
    · skip
      refine lv_iconst (v := (-1)) hx hb dX10_drift_15 (by decide) ?_
      exact hret _ _ _ _ _ _ ⟨(-1), j47, j50, j51, c45, c46, c49, c52, c53, c54, c55, rfl, rfl, (by first | exact zA0 (fun z => hq2_1 (by assumption) z.1) | exact zA0 (fun z => zA_sn hq9_1 (by assumption) z.2) | exact zA1 ⟨⟨_, by assumption, rfl⟩, zA_sy hq9_1 (by assumption) (by assumption)⟩ ⟨_, _, by assumption, by assumption, rfl, rfl, _, _, hq18_0, zy_gos hq18_1 hq18_2 hq23_0, hq44_0⟩), (by first | assumption | exact Or.inl rfl | exact Or.inr rfl | omega | exact Or.inr (by assumption) | exact zz_oku (by assumption) (by first | exact Or.inl rfl | exact Or.inr ⟨_, by omega, rfl⟩))⟩ (hw.sub [24, 0, 1, 2, 25, 3, 4, 5, 6, 7, 8, 9, 10, 11, 12, 13, 14, 15, 16, 17, 18, 19, 20, 21, 22, 23] (by decide +kernel) rfl) rfl dX10_drift_16
theorem kd_ncX10_pairAlike : kd_ck 2804042325717948222519097103863433927457330854888742089098582185436404200218390023372504791091375314079660753282340601532938485175373115166603650478360948760143076593783145766796291 75 cX10_pairAlike.data.toList 0 = true := by decide +kernel
theorem dX10_pairAlike_0 : decode cX10_pairAlike 0 = .ok (.iconst 0, 1) := kd_dk0 kd_o3 kd_ncX10_pairAlike rfl
theorem dX10_pairAlike_1 : decode cX10_pairAlike 1 = .ok (.istore_n 1, 1) := kd_dk0 kd_o60 kd_ncX10_pairAlike rfl
theorem dX10_pairAlike_2 : decode cX10_pairAlike 2 = .ok (.iload_n 1, 1) := kd_dk0 kd_o27 kd_ncX10_pairAlike rfl
theorem dX10_pairAlike_3 : decode cX10_pairAlike 3 = .ok (.aload_n 0, 1) := kd_dk0 kd_o42 kd_ncX10_pairAlike rfl
theorem dX10_pairAlike_4 : decode cX10_pairAlike 4 = .ok (.getfield 55, 3) := kd_dk2 kd_o180 kd_ncX10_pairAlike rfl
theorem dX10_pairAlike_7 : decode cX10_pairAlike 7 = .ok (.aload_n 0, 1) := kd_dk0 kd_o42 kd_ncX10_pairAlike rfl
theorem dX10_pairAlike_8 : decode cX10_pairAlike 8 = .ok (.getfield 236, 3) := kd_dk2 kd_o180 kd_ncX10_pairAlike rfl
theorem dX10_pairAlike_11 : decode cX10_pairAlike 11 = .ok (.iaload, 1) := kd_dk0 kd_o46 kd_ncX10_pairAlike rfl
theorem dX10_pairAlike_12 : decode cX10_pairAlike 12 = .ok (.if_icmp .ge 60, 3) := kd_dj2 kd_o162 (w := 60) kd_ncX10_pairAlike rfl rfl
theorem dX10_pairAlike_15 : decode cX10_pairAlike 15 = .ok (.iload_n 1, 1) := kd_dk0 kd_o27 kd_ncX10_pairAlike rfl
theorem dX10_pairAlike_16 : decode cX10_pairAlike 16 = .ok (.iconst 1, 1) := kd_dk0 kd_o4 kd_ncX10_pairAlike rfl
theorem dX10_pairAlike_17 : decode cX10_pairAlike 17 = .ok (.iadd, 1) := kd_dk0 kd_o96 kd_ncX10_pairAlike rfl
theorem dX10_pairAlike_18 : decode cX10_pairAlike 18 = .ok (.istore_n 2, 1) := kd_dk0 kd_o61 kd_ncX10_pairAlike rfl
theorem dX10_pairAlike_19 : decode cX10_pairAlike 19 = .ok (.iload_n 2, 1) := kd_dk0 kd_o28 kd_ncX10_pairAlike rfl
theorem dX10_pairAlike_20 : decode cX10_pairAlike 20 = .ok (.aload_n 0, 1) := kd_dk0 kd_o42 kd_ncX10_pairAlike rfl
theorem dX10_pairAlike_21 : decode cX10_pairAlike 21 = .ok (.getfield 55, 3) := kd_dk2 kd_o180 kd_ncX10_pairAlike rfl
theorem dX10_pairAlike_24 : decode cX10_pairAlike 24 = .ok (.aload_n 0, 1) := kd_dk0 kd_o42 kd_ncX10_pairAlike rfl
theorem dX10_pairAlike_25 : decode cX10_pairAlike 25 = .ok (.getfield 236, 3) := kd_dk2 kd_o180 kd_ncX10_pairAlike rfl
theorem dX10_pairAlike_28 : decode cX10_pairAlike 28 = .ok (.iaload, 1) := kd_dk0 kd_o46 kd_ncX10_pairAlike rfl
theorem dX10_pairAlike_29 : decode cX10_pairAlike 29 = .ok (.if_icmp .ge 37, 3) := kd_dj2 kd_o162 (w := 37) kd_ncX10_pairAlike rfl rfl
theorem dX10_pairAlike_32 : decode cX10_pairAlike 32 = .ok (.aload_n 0, 1) := kd_dk0 kd_o42 kd_ncX10_pairAlike rfl
theorem dX10_pairAlike_33 : decode cX10_pairAlike 33 = .ok (.getfield 113, 3) := kd_dk2 kd_o180 kd_ncX10_pairAlike rfl
theorem dX10_pairAlike_36 : decode cX10_pairAlike 36 = .ok (.bipush 21, 2) := kd_dj1 kd_o16 (w := 21) kd_ncX10_pairAlike rfl rfl
theorem dX10_pairAlike_38 : decode cX10_pairAlike 38 = .ok (.iload_n 1, 1) := kd_dk0 kd_o27 kd_ncX10_pairAlike rfl
theorem dX10_pairAlike_39 : decode cX10_pairAlike 39 = .ok (.iadd, 1) := kd_dk0 kd_o96 kd_ncX10_pairAlike rfl
theorem dX10_pairAlike_40 : decode cX10_pairAlike 40 = .ok (.iaload, 1) := kd_dk0 kd_o46 kd_ncX10_pairAlike rfl
theorem dX10_pairAlike_41 : decode cX10_pairAlike 41 = .ok (.aload_n 0, 1) := kd_dk0 kd_o42 kd_ncX10_pairAlike rfl
theorem dX10_pairAlike_42 : decode cX10_pairAlike 42 = .ok (.getfield 113, 3) := kd_dk2 kd_o180 kd_ncX10_pairAlike rfl
theorem dX10_pairAlike_45 : decode cX10_pairAlike 45 = .ok (.bipush 21, 2) := kd_dj1 kd_o16 (w := 21) kd_ncX10_pairAlike rfl rfl
theorem dX10_pairAlike_47 : decode cX10_pairAlike 47 = .ok (.iload_n 2, 1) := kd_dk0 kd_o28 kd_ncX10_pairAlike rfl
theorem dX10_pairAlike_48 : decode cX10_pairAlike 48 = .ok (.iadd, 1) := kd_dk0 kd_o96 kd_ncX10_pairAlike rfl
theorem dX10_pairAlike_49 : decode cX10_pairAlike 49 = .ok (.iaload, 1) := kd_dk0 kd_o46 kd_ncX10_pairAlike rfl
theorem dX10_pairAlike_50 : decode cX10_pairAlike 50 = .ok (.if_icmp .ne 10, 3) := kd_dj2 kd_o160 (w := 10) kd_ncX10_pairAlike rfl rfl
theorem dX10_pairAlike_53 : decode cX10_pairAlike 53 = .ok (.bipush 10, 2) := kd_dj1 kd_o16 (w := 10) kd_ncX10_pairAlike rfl rfl
theorem dX10_pairAlike_55 : decode cX10_pairAlike 55 = .ok (.iload_n 1, 1) := kd_dk0 kd_o27 kd_ncX10_pairAlike rfl
theorem dX10_pairAlike_56 : decode cX10_pairAlike 56 = .ok (.imul, 1) := kd_dk0 kd_o104 kd_ncX10_pairAlike rfl
theorem dX10_pairAlike_57 : decode cX10_pairAlike 57 = .ok (.iload_n 2, 1) := kd_dk0 kd_o28 kd_ncX10_pairAlike rfl
theorem dX10_pairAlike_58 : decode cX10_pairAlike 58 = .ok (.iadd, 1) := kd_dk0 kd_o96 kd_ncX10_pairAlike rfl
theorem dX10_pairAlike_59 : decode cX10_pairAlike 59 = .ok (.ireturn, 1) := kd_dk0 kd_o172 kd_ncX10_pairAlike rfl
theorem dX10_pairAlike_60 : decode cX10_pairAlike 60 = .ok (.iinc 2 1, 3) := kd_dji kd_o132 (w := 1) kd_ncX10_pairAlike rfl rfl
theorem dX10_pairAlike_63 : decode cX10_pairAlike 63 = .ok (.goto (-44), 3) := kd_dj2 kd_o167 (w := 65492) kd_ncX10_pairAlike rfl rfl
theorem dX10_pairAlike_66 : decode cX10_pairAlike 66 = .ok (.iinc 1 1, 3) := kd_dji kd_o132 (w := 1) kd_ncX10_pairAlike rfl rfl
theorem dX10_pairAlike_69 : decode cX10_pairAlike 69 = .ok (.goto (-67), 3) := kd_dj2 kd_o167 (w := 65469) kd_ncX10_pairAlike rfl rfl
theorem dX10_pairAlike_72 : decode cX10_pairAlike 72 = .ok (.bipush (-2), 2) := kd_dj1 kd_o16 (w := 254) kd_ncX10_pairAlike rfl rfl
theorem dX10_pairAlike_74 : decode cX10_pairAlike 74 = .ok (.ireturn, 1) := kd_dk0 kd_o172 kd_ncX10_pairAlike rfl
set_option maxHeartbeats 8000000 in
set_option maxRecDepth 100000 in
theorem c_x_pairAlike (l : Launch) (G : zz_G) (r : Nat → Nat) (j0 : Int32) (j2 : Int32) (j4 : Int32) (j10 : Int32) (j11 : Int32) (j12 : Int32) (j13 : Int32) (j14 : Int32) (j15 : Int32) (j16 : Int32) (j17 : Int32) (j19 : Int32) (j20 : Int32) (j34 : Int32) (j40 : Int32) (j44 : Int32) (j47 : Int32) (j50 : Int32) (j51 : Int32) (j56 : Int32) (j61 : Int32) (lv : Nat) (pq : Nat) (c26 : Nat → Int32) (c49 : Nat → Int32) (hlv : lv ≤ 1) (hpa : c26 lv = nI pq) (hpq : pq ≤ 6) : zz_M l G mX10_pairAlike 0 0 0 [.ref (r 0)] [((r 0), .inr (10, (zz_mo r [(0, j0), (2, j2), (4, j4), (10, j10), (11, j11), (12, j12), (13, j13), (14, j14), (15, j15), (16, j16), (17, j17), (18, (nI lv)), (19, j19), (20, j20), (34, j34), (40, j40), (44, j44), (47, j47), (50, j50), (51, j51), (56, j56), (61, j61)]))), ((r 26), .inl (G.2 0, 2, .inl c26)), ((r 49), .inl (G.2 0, 71, .inl c49))] (fun rr u => ∃ (rv : Int32), rr = some (.int rv) ∧ u = [((r 0), .inr (10, (zz_mo r [(0, j0), (2, j2), (4, j4), (10, j10), (11, j11), (12, j12), (13, j13), (14, j14), (15, j15), (16, j16), (17, j17), (18, (nI lv)), (19, j19), (20, j20), (34, j34), (40, j40), (44, j44), (47, j47), (50, j50), (51, j51), (56, j56), (61, j61)]))), ((r 26), .inl (G.2 0, 2, .inl c26)), ((r 49), .inl (G.2 0, 71, .inl c49))] ∧ (zG (fun p => c49 (21 + p)) pq rv)) := by
  refine zz_enteri (by decide +kernel) (Nat.le_of_ble_eq_true rfl) ?_
  intro p e s m args below meth c A Q ls S hnm hret hw hl
  have hl : lv_has ls 3 [(0, .ref (r 0))] := hl
  have hx := S.1
  have hb := S.2.1
  refine lv_iconst (v := 0) hx hb dX10_pairAlike_0 (by decide) ?_
  refine lv_istore_n (lv' := [(1, .int 0), (0, .ref (r 0))]) hx hb dX10_pairAlike_1 rfl hl (by decide) rfl (fun ls hl => ?_)
  have lp2_14 : ∀ (vn2 vi1 : Nat) (H : Heap) (locs : List Loc) (ls : Array Slot), vi1 ≤ pq → pq < vi1 + vn2 → zGi (fun p => c49 (21 + p)) pq vi1 → zz_w G A s [((r 0), .inr (10, (zz_mo r [(0, j0), (2, j2), (4, j4), (10, j10), (11, j11), (12, j12), (13, j13), (14, j14), (15, j15), (16, j16), (17, j17), (18, (nI lv)), (19, j19), (20, j20), (34, j34), (40, j40), (44, j44), (47, j47), (50, j50), (51, j51), (56, j56), (61, j61)]))), ((r 26), .inl (G.2 0, 2, .inl c26)), ((r 49), .inl (G.2 0, 71, .inl c49))] H locs → lv_has ls 3 [(1, .int (nI vi1)), (0, .ref (r 0))] → W p l e (zz_rm 0 0 0) s m args below meth c H locs (0) (0) Q (F0 m 2 ls []) := by
    intro vn2
    induction vn2 with
    | zero => intro vi1  H locs ls hi1 hi2; exact absurd hi2 (by omega)
    | succ vn2 ih2 =>
      intro vi1  H locs ls hi2a hi2b hv2_13 hw hl
      refine lv_iload_n hx hb dX10_pairAlike_2 rfl (lv_at hl 0 rfl) ?_
      refine lv_aload_n hx hb dX10_pairAlike_3 rfl (lv_at hl 1 rfl) ?_
      refine zz_get (v := .ref (r 26)) S hw fgX10_55 0 rfl rfl dX10_pairAlike_4 ?_
      refine lv_aload_n hx hb dX10_pairAlike_7 rfl (lv_at hl 1 rfl) ?_
      refine zz_get (v := .int (nI lv)) S hw fgX10_236 0 rfl rfl dX10_pairAlike_8 ?_
      refine zz_iald (v := (nI pq)) S hw 1 rfl (vp_in_nI (n := lv) (by omega) (by decide)) (by rw [show ((nI lv) : Int32).toNatClampNeg = lv from nI_clamp (n := lv) (by omega)]; exact hpa) dX10_pairAlike_11 ?_
      refine lv_icmp_ge (tgt := 72) hx hb dX10_pairAlike_12 (by decide) (fun c12_15 => ?_) (fun c12_15 => ?_)
      · skip
        have c12_15n : pq ≤ vi1 := (zz_le (a := pq) (b := vi1) rfl rfl (by omega) (by omega)).mp c12_15
        refine lv_bipush (v := (-2)) hx hb dX10_pairAlike_72 (by decide) ?_
        exact hret _ _ _ _ _ _ ⟨(-2), rfl, rfl, (by first | exact zG_y hdry (by omega) (by omega) rfl rfl (by assumption) rfl | exact zG_n hv2_13 (by omega))⟩ hw rfl dX10_pairAlike_74
      · skip
        have c12_15n : ¬ (pq ≤ vi1) := fun z => c12_15 ((zz_le (a := pq) (b := vi1) rfl rfl (by omega) (by omega)).mpr z)
        refine lv_iload_n hx hb dX10_pairAlike_15 rfl (lv_at hl 0 rfl) ?_
        refine lv_iconst (v := 1) hx hb dX10_pairAlike_16 (by decide) ?_
        refine lv_iadd hx hb dX10_pairAlike_17 ?_
        refine zz_topi (y := (nI (vi1 + 1))) (nI_add _ _) ?_
        refine lv_istore_n (lv' := [(2, .int (nI (vi1 + 1))), (1, .int (nI vi1)), (0, .ref (r 0))]) hx hb dX10_pairAlike_18 rfl hl (by decide) rfl (fun ls hl => ?_)
        have lp19_22 : ∀ (vn17 vi16 : Nat) (H : Heap) (locs : List Loc) (ls : Array Slot), vi16 ≤ pq → pq < vi16 + vn17 → vi1 < vi16 → zGj (fun p => c49 (21 + p)) pq vi1 vi16 → zz_w G A s [((r 0), .inr (10, (zz_mo r [(0, j0), (2, j2), (4, j4), (10, j10), (11, j11), (12, j12), (13, j13), (14, j14), (15, j15), (16, j16), (17, j17), (18, (nI lv)), (19, j19), (20, j20), (34, j34), (40, j40), (44, j44), (47, j47), (50, j50), (51, j51), (56, j56), (61, j61)]))), ((r 26), .inl (G.2 0, 2, .inl c26)), ((r 49), .inl (G.2 0, 71, .inl c49))] H locs → lv_has ls 3 [(2, .int (nI vi16)), (1, .int (nI vi1)), (0, .ref (r 0))] → W p l e (zz_rm 0 0 0) s m args below meth c H locs (0) (0) Q (F0 m 19 ls []) := by
          intro vn17
          induction vn17 with
          | zero => intro vi16  H locs ls hi1 hi2; exact absurd hi2 (by omega)
          | succ vn17 ih19 =>
            intro vi16  H locs ls hi19a hi19b hv19_20 hv19_21 hw hl
            refine lv_iload_n hx hb dX10_pairAlike_19 rfl (lv_at hl 0 rfl) ?_
            refine W.eq (g2 := F0 m 20 ls [.int (nI vi16)]) rfl ?_
            refine lv_aload_n hx hb dX10_pairAlike_20 rfl (lv_at hl 2 rfl) ?_
            refine zz_get (v := .ref (r 26)) S hw fgX10_55 0 rfl rfl dX10_pairAlike_21 ?_
            refine lv_aload_n hx hb dX10_pairAlike_24 rfl (lv_at hl 2 rfl) ?_
            refine zz_get (v := .int (nI lv)) S hw fgX10_236 0 rfl rfl dX10_pairAlike_25 ?_
            refine zz_iald (v := (nI pq)) S hw 1 rfl (vp_in_nI (n := lv) (by omega) (by decide)) (by rw [show ((nI lv) : Int32).toNatClampNeg = lv from nI_clamp (n := lv) (by omega)]; exact hpa) dX10_pairAlike_28 ?_
            refine lv_icmp_ge (tgt := 66) hx hb dX10_pairAlike_29 (by decide) (fun c29_23 => ?_) (fun c29_23 => ?_)
            · skip
              have c29_23n : pq ≤ vi16 := (zz_le (a := pq) (b := vi16) rfl rfl (by omega) (by omega)).mp c29_23
              refine lv_iinc (v := (nI (vi1 + 1))) (lv' := [(1, .int (nI (vi1 + 1))), (2, .int (nI vi16)), (0, .ref (r 0))]) hx hb dX10_pairAlike_66 hl (k := 1) rfl (nI_add _ 1) (by decide) rfl (fun ls hl => ?_)
              refine lv_goto (tgt := 2) hx hb dX10_pairAlike_69 (by decide) ?_
              exact ih2 (vi1 + 1) _ _ _ (by omega) (by omega) (zG_o hv19_21 (by omega)) hw (lv_sub hl [0, 2] rfl)
            · skip
              have c29_23n : ¬ (pq ≤ vi16) := fun z => c29_23 ((zz_le (a := pq) (b := vi16) rfl rfl (by omega) (by omega)).mpr z)
              refine lv_aload_n hx hb dX10_pairAlike_32 rfl (lv_at hl 2 rfl) ?_
              refine zz_get (v := .ref (r 49)) S hw fgX10_113 0 rfl rfl dX10_pairAlike_33 ?_
              refine lv_bipush (v := 21) hx hb dX10_pairAlike_36 (by decide) ?_
              refine lv_iload_n hx hb dX10_pairAlike_38 rfl (lv_at hl 1 rfl) ?_
              refine lv_iadd hx hb dX10_pairAlike_39 ?_
              refine zz_topi (y := (nI (21 + vi1))) (nI_add _ _) ?_
              refine zz_iald (v := (c49 (21 + vi1))) S hw 2 rfl (vp_in_nI (n := (21 + vi1)) (by omega) (by decide)) (congrArg c49 (nI_clamp (n := (21 + vi1)) (by omega))) dX10_pairAlike_40 ?_
              refine lv_aload_n hx hb dX10_pairAlike_41 rfl (lv_at hl 2 rfl) ?_
              refine W.eq (g2 := F0 m 42 ls [.ref (r 0), .int (c49 (21 + vi1))]) rfl ?_
              refine zz_get (v := .ref (r 49)) S hw fgX10_113 0 rfl rfl dX10_pairAlike_42 ?_
              refine lv_bipush (v := 21) hx hb dX10_pairAlike_45 (by decide) ?_
              refine lv_iload_n hx hb dX10_pairAlike_47 rfl (lv_at hl 0 rfl) ?_
              refine lv_iadd hx hb dX10_pairAlike_48 ?_
              refine zz_topi (y := (nI (21 + vi16))) (nI_add _ _) ?_
              refine zz_iald (v := (c49 (21 + vi16))) S hw 2 rfl (vp_in_nI (n := (21 + vi16)) (by omega) (by decide)) (congrArg c49 (nI_clamp (n := (21 + vi16)) (by omega))) dX10_pairAlike_49 ?_
              refine lv_icmp_ne (tgt := 60) hx hb dX10_pairAlike_50 (by decide) (fun c50_24 => ?_) (fun c50_24 => ?_)
              · skip
                refine lv_iinc (v := (nI (vi16 + 1))) (lv' := [(2, .int (nI (vi16 + 1))), (1, .int (nI vi1)), (0, .ref (r 0))]) hx hb dX10_pairAlike_60 hl (k := 0) rfl (nI_add _ 1) (by decide) rfl (fun ls hl => ?_)
                refine lv_goto (tgt := 19) hx hb dX10_pairAlike_63 (by decide) ?_
                exact ih19 (vi16 + 1) _ _ _ (by omega) (by omega) (by omega) (zG_ns hv19_21 rfl rfl (by assumption)) hw (lv_sub hl [0, 1, 2] rfl)
              · skip
                refine lv_bipush (v := 10) hx hb dX10_pairAlike_53 (by decide) ?_
                refine lv_iload_n hx hb dX10_pairAlike_55 rfl (lv_at hl 1 rfl) ?_
                refine lv_imul hx hb dX10_pairAlike_56 ?_
                refine zz_topi (y := (nI (10 * vi1))) (pk_mul _ _) ?_
                refine lv_iload_n hx hb dX10_pairAlike_57 rfl (lv_at hl 0 rfl) ?_
                refine lv_iadd hx hb dX10_pairAlike_58 ?_
                refine zz_topi (y := (nI ((10 * vi1) + vi16))) (nI_add _ _) ?_
                exact hret _ _ _ _ _ _ ⟨(nI ((10 * vi1) + vi16)), rfl, rfl, (by first | exact zG_y hv19_21 (by omega) (by omega) rfl rfl (by assumption) rfl | exact zG_n hv2_13 (by omega))⟩ hw rfl dX10_pairAlike_59
        exact lp19_22 (pq + 1 - (vi1 + 1)) (vi1 + 1) _ _ _ (by omega) (by omega) (by omega) (zG_in hv2_13) hw (lv_sub hl [0, 1, 2] rfl)
  exact lp2_14 (pq + 1 - 0) 0 _ _ _ (by omega) (by omega) zG_0 hw (lv_sub hl [0, 1] rfl)
theorem kd_ncX10_meet : kd_ck 491162531370124821943842222274806582134399369376766407470937403284968151237782908338830715512672514253502275416110940290234111876137755 56 cX10_meet.data.toList 0 = true := by decide +kernel
theorem dX10_meet_0 : decode cX10_meet 0 = .ok (.iload_n 1, 1) := kd_dk0 kd_o27 kd_ncX10_meet rfl
theorem dX10_meet_1 : decode cX10_meet 1 = .ok (.iconst 0, 1) := kd_dk0 kd_o3 kd_ncX10_meet rfl
theorem dX10_meet_2 : decode cX10_meet 2 = .ok (.iconst 1, 1) := kd_dk0 kd_o4 kd_ncX10_meet rfl
theorem dX10_meet_3 : decode cX10_meet 3 = .ok (.invokestatic 313, 3) := kd_dk2 kd_o184 kd_ncX10_meet rfl
theorem dX10_meet_6 : decode cX10_meet 6 = .ok (.ifCond .ne 5, 3) := kd_dj2 kd_o154 (w := 5) kd_ncX10_meet rfl rfl
theorem dX10_meet_9 : decode cX10_meet 9 = .ok (.iconst (-1), 1) := kd_dk0 kd_o2 kd_ncX10_meet rfl
theorem dX10_meet_10 : decode cX10_meet 10 = .ok (.ireturn, 1) := kd_dk0 kd_o172 kd_ncX10_meet rfl
theorem dX10_meet_11 : decode cX10_meet 11 = .ok (.aload_n 0, 1) := kd_dk0 kd_o42 kd_ncX10_meet rfl
theorem dX10_meet_12 : decode cX10_meet 12 = .ok (.invokevirtual 442, 3) := kd_dk2 kd_o182 kd_ncX10_meet rfl
theorem dX10_meet_15 : decode cX10_meet 15 = .ok (.iconst 0, 1) := kd_dk0 kd_o3 kd_ncX10_meet rfl
theorem dX10_meet_16 : decode cX10_meet 16 = .ok (.istore_n 2, 1) := kd_dk0 kd_o61 kd_ncX10_meet rfl
theorem dX10_meet_17 : decode cX10_meet 17 = .ok (.iload_n 2, 1) := kd_dk0 kd_o28 kd_ncX10_meet rfl
theorem dX10_meet_18 : decode cX10_meet 18 = .ok (.bipush 100, 2) := kd_dj1 kd_o16 (w := 100) kd_ncX10_meet rfl rfl
theorem dX10_meet_20 : decode cX10_meet 20 = .ok (.if_icmp .gt 33, 3) := kd_dj2 kd_o163 (w := 33) kd_ncX10_meet rfl rfl
theorem dX10_meet_23 : decode cX10_meet 23 = .ok (.aload_n 0, 1) := kd_dk0 kd_o42 kd_ncX10_meet rfl
theorem dX10_meet_24 : decode cX10_meet 24 = .ok (.invokevirtual 452, 3) := kd_dk2 kd_o182 kd_ncX10_meet rfl
theorem dX10_meet_27 : decode cX10_meet 27 = .ok (.ifCond .lt 16, 3) := kd_dj2 kd_o155 (w := 16) kd_ncX10_meet rfl rfl
theorem dX10_meet_30 : decode cX10_meet 30 = .ok (.iload_n 1, 1) := kd_dk0 kd_o27 kd_ncX10_meet rfl
theorem dX10_meet_31 : decode cX10_meet 31 = .ok (.ifCond .ne 7, 3) := kd_dj2 kd_o154 (w := 7) kd_ncX10_meet rfl rfl
theorem dX10_meet_34 : decode cX10_meet 34 = .ok (.iload_n 2, 1) := kd_dk0 kd_o28 kd_ncX10_meet rfl
theorem dX10_meet_35 : decode cX10_meet 35 = .ok (.goto 7, 3) := kd_dj2 kd_o167 (w := 7) kd_ncX10_meet rfl rfl
theorem dX10_meet_38 : decode cX10_meet 38 = .ok (.aload_n 0, 1) := kd_dk0 kd_o42 kd_ncX10_meet rfl
theorem dX10_meet_39 : decode cX10_meet 39 = .ok (.invokevirtual 452, 3) := kd_dk2 kd_o182 kd_ncX10_meet rfl
theorem dX10_meet_42 : decode cX10_meet 42 = .ok (.ireturn, 1) := kd_dk0 kd_o172 kd_ncX10_meet rfl
theorem dX10_meet_43 : decode cX10_meet 43 = .ok (.aload_n 0, 1) := kd_dk0 kd_o42 kd_ncX10_meet rfl
theorem dX10_meet_44 : decode cX10_meet 44 = .ok (.invokevirtual 370, 3) := kd_dk2 kd_o182 kd_ncX10_meet rfl
theorem dX10_meet_47 : decode cX10_meet 47 = .ok (.iinc 2 1, 3) := kd_dji kd_o132 (w := 1) kd_ncX10_meet rfl rfl
theorem dX10_meet_50 : decode cX10_meet 50 = .ok (.goto (-33), 3) := kd_dj2 kd_o167 (w := 65503) kd_ncX10_meet rfl rfl
theorem dX10_meet_53 : decode cX10_meet 53 = .ok (.bipush (-2), 2) := kd_dj1 kd_o16 (w := 254) kd_ncX10_meet rfl rfl
theorem dX10_meet_55 : decode cX10_meet 55 = .ok (.ireturn, 1) := kd_dk0 kd_o172 kd_ncX10_meet rfl
set_option maxHeartbeats 8000000 in
set_option maxRecDepth 100000 in
theorem c_x_meet (l : Launch) (G : zz_G) (r : Nat → Nat) (j0 : Int32) (j2 : Int32) (j4 : Int32) (j10 : Int32) (j11 : Int32) (j12 : Int32) (j13 : Int32) (j14 : Int32) (j15 : Int32) (j16 : Int32) (j17 : Int32) (j19 : Int32) (j20 : Int32) (j34 : Int32) (j40 : Int32) (j44 : Int32) (j47 : Int32) (j50 : Int32) (j51 : Int32) (j56 : Int32) (j61 : Int32) (lv : Nat) (pp : Nat) (pq : Nat) (c22 : Nat → Int32) (c24 : Nat → Int32) (c25 : Nat → Int32) (c26 : Nat → Int32) (c28 : Nat → Int32) (c29 : Nat → Int32) (c30 : Nat → Int32) (c31 : Nat → Int32) (c32 : Nat → Int32) (c33 : Nat → Int32) (c35 : Nat → Int32) (c36 : Nat → Int32) (c37 : Nat → Int32) (c38 : Nat → Int32) (c39 : Nat → Int32) (c41 : Nat → Int32) (c42 : Nat → Int32) (c45 : Nat → Int32) (c46 : Nat → Int32) (c48 : Nat → Int32) (c49 : Nat → Int32) (c52 : Nat → Int32) (c53 : Nat → Int32) (c54 : Nat → Int32) (c55 : Nat → Int32) (ar1 : Int32) (hlv : lv ≤ 1) (hpe : c22 lv = nI pp) (hpp : pp ≤ 7) (hpa : c26 lv = nI pq) (hpq : pq ≤ 6) (hlw : zz_LW 2 0 0 c32 c33 c35 c36 c37 c38 c39 c41 c42) (hca : ∀ j, j < 6 → zz_ok 7 (c52 j)) : zz_M l G mX10_meet 6 0 0 [.ref (r 0), .int ar1] [((r 0), .inr (10, (zz_mo r [(0, j0), (2, j2), (4, j4), (10, j10), (11, j11), (12, j12), (13, j13), (14, j14), (15, j15), (16, j16), (17, j17), (18, (nI lv)), (19, j19), (20, j20), (34, j34), (40, j40), (44, j44), (47, j47), (50, j50), (51, j51), (56, j56), (61, j61)]))), ((r 22), .inl (G.2 0, 2, .inl c22)), ((r 24), .inl (G.2 0, 14, .inl c24)), ((r 25), .inl (G.2 0, 14, .inl c25)), ((r 26), .inl (G.2 0, 2, .inl c26)), ((r 28), .inl (G.2 0, 12, .inl c28)), ((r 29), .inl (G.2 0, 12, .inl c29)), ((r 30), .inl (G.2 0, 2, .inl c30)), ((r 31), .inl (G.2 0, 2, .inl c31)), ((r 32), .inl (G.2 0, 8, .inl c32)), ((r 33), .inl (G.2 0, 8, .inl c33)), ((r 35), .inl (G.2 2, 260, .inl c35)), ((r 36), .inl (G.2 0, 260, .inl c36)), ((r 37), .inl (G.2 0, 260, .inl c37)), ((r 38), .inl (G.2 0, 260, .inl c38)), ((r 39), .inl (G.2 0, 260, .inl c39)), ((r 41), .inl (G.2 0, 840, .inl c41)), ((r 42), .inl (G.2 0, 840, .inl c42)), ((r 45), .inl (G.2 0, 9, .inl c45)), ((r 46), .inl (G.2 0, 400, .inl c46)), ((r 48), .inl (G.2 0, 71, .inl c48)), ((r 49), .inl (G.2 0, 71, .inl c49)), ((r 52), .inl (G.2 0, 6, .inl c52)), ((r 53), .inl (G.2 2, 6, .inl c53)), ((r 54), .inl (G.2 2, 6, .inl c54)), ((r 55), .inl (G.2 0, 6, .inl c55))] (fun rr u => ∃ (rv : Int32), ∃ (k47 : Int32), ∃ (k50 : Int32), ∃ (k51 : Int32), ∃ (d45 : Nat → Int32), ∃ (d46 : Nat → Int32), ∃ (d49 : Nat → Int32), ∃ (d52 : Nat → Int32), ∃ (d53 : Nat → Int32), ∃ (d54 : Nat → Int32), ∃ (d55 : Nat → Int32), rr = some (.int rv) ∧ u = [((r 0), .inr (10, (zz_mo r [(0, j0), (2, j2), (4, j4), (10, j10), (11, j11), (12, j12), (13, j13), (14, j14), (15, j15), (16, j16), (17, j17), (18, (nI lv)), (19, j19), (20, j20), (34, j34), (40, j40), (44, j44), (47, k47), (50, k50), (51, k51), (56, j56), (61, j61)]))), ((r 22), .inl (G.2 0, 2, .inl c22)), ((r 24), .inl (G.2 0, 14, .inl c24)), ((r 25), .inl (G.2 0, 14, .inl c25)), ((r 26), .inl (G.2 0, 2, .inl c26)), ((r 28), .inl (G.2 0, 12, .inl c28)), ((r 29), .inl (G.2 0, 12, .inl c29)), ((r 30), .inl (G.2 0, 2, .inl c30)), ((r 31), .inl (G.2 0, 2, .inl c31)), ((r 32), .inl (G.2 0, 8, .inl c32)), ((r 33), .inl (G.2 0, 8, .inl c33)), ((r 35), .inl (G.2 2, 260, .inl c35)), ((r 36), .inl (G.2 0, 260, .inl c36)), ((r 37), .inl (G.2 0, 260, .inl c37)), ((r 38), .inl (G.2 0, 260, .inl c38)), ((r 39), .inl (G.2 0, 260, .inl c39)), ((r 41), .inl (G.2 0, 840, .inl c41)), ((r 42), .inl (G.2 0, 840, .inl c42)), ((r 45), .inl (G.2 0, 9, .inl d45)), ((r 46), .inl (G.2 0, 400, .inl d46)), ((r 48), .inl (G.2 0, 71, .inl c48)), ((r 49), .inl (G.2 0, 71, .inl d49)), ((r 52), .inl (G.2 0, 6, .inl d52)), ((r 53), .inl (G.2 2, 6, .inl d53)), ((r 54), .inl (G.2 2, 6, .inl d54)), ((r 55), .inl (G.2 0, 6, .inl d55))] ∧ (zA (zz_In 2 ar1) (∃ τ, zy_q 71 c48 τ ∧ zr_ME (zr_HD lv c32 c33 c35 c36 c37 c38 c39 c41 c42 (c30 lv)) lv c24 c28 c25 c29 (c30 lv) (c31 lv) 1 pp pq τ ar1 rv) rv (-1)) ∧ (∀ j, j < 6 → zz_ok 7 (d52 j))) := by
  refine zz_enteri (by decide +kernel) (Nat.le_of_ble_eq_true rfl) ?_
  intro p e s m args below meth c A Q ls S hnm hret hw hl
  have hl : lv_has ls 3 [(0, .ref (r 0)), (1, .int ar1)] := hl
  have hx := S.1
  have hb := S.2.1
  refine lv_iload_n hx hb dX10_meet_0 rfl (lv_at hl 1 rfl) ?_
  refine lv_iconst (v := 0) hx hb dX10_meet_1 (by decide) ?_
  refine lv_iconst (v := 1) hx hb dX10_meet_2 (by decide) ?_
  refine zz_callS (As := [.int ar1, .int 0, .int 1]) (rest := []) (wr := [((r 0), .inr (10, (zz_mo r [(0, j0), (2, j2), (4, j4), (10, j10), (11, j11), (12, j12), (13, j13), (14, j14), (15, j15), (16, j16), (17, j17), (18, (nI lv)), (19, j19), (20, j20), (34, j34), (40, j40), (44, j44), (47, j47), (50, j50), (51, j51), (56, j56), (61, j61)]))), ((r 22), .inl (G.2 0, 2, .inl c22)), ((r 24), .inl (G.2 0, 14, .inl c24)), ((r 25), .inl (G.2 0, 14, .inl c25)), ((r 26), .inl (G.2 0, 2, .inl c26)), ((r 28), .inl (G.2 0, 12, .inl c28)), ((r 29), .inl (G.2 0, 12, .inl c29)), ((r 30), .inl (G.2 0, 2, .inl c30)), ((r 31), .inl (G.2 0, 2, .inl c31)), ((r 32), .inl (G.2 0, 8, .inl c32)), ((r 33), .inl (G.2 0, 8, .inl c33)), ((r 35), .inl (G.2 2, 260, .inl c35)), ((r 36), .inl (G.2 0, 260, .inl c36)), ((r 37), .inl (G.2 0, 260, .inl c37)), ((r 38), .inl (G.2 0, 260, .inl c38)), ((r 39), .inl (G.2 0, 260, .inl c39)), ((r 41), .inl (G.2 0, 840, .inl c41)), ((r 42), .inl (G.2 0, 840, .inl c42)), ((r 45), .inl (G.2 0, 9, .inl c45)), ((r 46), .inl (G.2 0, 400, .inl c46)), ((r 48), .inl (G.2 0, 71, .inl c48)), ((r 49), .inl (G.2 0, 71, .inl c49)), ((r 52), .inl (G.2 0, 6, .inl c52)), ((r 53), .inl (G.2 2, 6, .inl c53)), ((r 54), .inl (G.2 2, 6, .inl c54)), ((r 55), .inl (G.2 0, 6, .inl c55))]) S hw hl.1 lX10_313 (c_x_in l G ar1 0 1) ⟨Nat.le_of_ble_eq_true rfl, Nat.le_of_ble_eq_true rfl⟩ ⟨Nat.le_of_ble_eq_true rfl, Nat.le_of_ble_eq_true rfl⟩ [] [0, 1, 2, 3, 4, 5, 6, 7, 8, 9, 10, 11, 12, 13, 14, 15, 16, 17, 18, 19, 20, 21, 22, 23, 24, 25] (by decide +kernel) rfl rfl (by decide +kernel) (by decide +kernel) rfl rfl (Nat.le_of_ble_eq_true rfl) dX10_meet_3 ?_
  clear hw
  intro rr u H locs hp hw
  refine hp.elim fun rv_1 zg0 => zg0.elim fun zee1 zg1 => zg1.elim fun zee2 zg2 => zg2.elim fun hq3_0 zg3 => zg3.elim fun hq3_1 hq3_2 => ?_
  clear hp zg0 zg1 zg2 zg3
  subst zee1
  subst zee2
  replace hw : zz_w G A s [((r 0), .inr (10, (zz_mo r [(0, j0), (2, j2), (4, j4), (10, j10), (11, j11), (12, j12), (13, j13), (14, j14), (15, j15), (16, j16), (17, j17), (18, (nI lv)), (19, j19), (20, j20), (34, j34), (40, j40), (44, j44), (47, j47), (50, j50), (51, j51), (56, j56), (61, j61)]))), ((r 22), .inl (G.2 0, 2, .inl c22)), ((r 24), .inl (G.2 0, 14, .inl c24)), ((r 25), .inl (G.2 0, 14, .inl c25)), ((r 26), .inl (G.2 0, 2, .inl c26)), ((r 28), .inl (G.2 0, 12, .inl c28)), ((r 29), .inl (G.2 0, 12, .inl c29)), ((r 30), .inl (G.2 0, 2, .inl c30)), ((r 31), .inl (G.2 0, 2, .inl c31)), ((r 32), .inl (G.2 0, 8, .inl c32)), ((r 33), .inl (G.2 0, 8, .inl c33)), ((r 35), .inl (G.2 2, 260, .inl c35)), ((r 36), .inl (G.2 0, 260, .inl c36)), ((r 37), .inl (G.2 0, 260, .inl c37)), ((r 38), .inl (G.2 0, 260, .inl c38)), ((r 39), .inl (G.2 0, 260, .inl c39)), ((r 41), .inl (G.2 0, 840, .inl c41)), ((r 42), .inl (G.2 0, 840, .inl c42)), ((r 45), .inl (G.2 0, 9, .inl c45)), ((r 46), .inl (G.2 0, 400, .inl c46)), ((r 48), .inl (G.2 0, 71, .inl c48)), ((r 49), .inl (G.2 0, 71, .inl c49)), ((r 52), .inl (G.2 0, 6, .inl c52)), ((r 53), .inl (G.2 2, 6, .inl c53)), ((r 54), .inl (G.2 2, 6, .inl c54)), ((r 55), .inl (G.2 0, 6, .inl c55))] H _ := hw
  refine W.eq (g2 := F0 m 6 ls [.int rv_1]) rfl ?_
  refine lv_if_ne (tgt := 11) hx hb dX10_meet_6 (by decide) (fun c6_2 => ?_) (fun c6_2 => ?_)
  · skip
    have hq3_0i := hq3_0.resolve_left c6_2
    obtain ⟨vq3, hvq3, rfl⟩ : ∃ k : Nat, k ≤ 1 ∧ ar1 = nI k := zz_rng (zz_lo0 hq3_0i.1) hq3_0i.2 (by omega)
    refine lv_aload_n hx hb dX10_meet_11 rfl (lv_at hl 0 rfl) ?_
    refine zz_callV (qb := 0) (As := []) (rest := []) (wr := [((r 22), .inl (G.2 0, 2, .inl c22)), ((r 24), .inl (G.2 0, 14, .inl c24)), ((r 25), .inl (G.2 0, 14, .inl c25)), ((r 26), .inl (G.2 0, 2, .inl c26)), ((r 28), .inl (G.2 0, 12, .inl c28)), ((r 29), .inl (G.2 0, 12, .inl c29)), ((r 30), .inl (G.2 0, 2, .inl c30)), ((r 32), .inl (G.2 0, 8, .inl c32)), ((r 33), .inl (G.2 0, 8, .inl c33)), ((r 35), .inl (G.2 2, 260, .inl c35)), ((r 36), .inl (G.2 0, 260, .inl c36)), ((r 37), .inl (G.2 0, 260, .inl c37)), ((r 38), .inl (G.2 0, 260, .inl c38)), ((r 39), .inl (G.2 0, 260, .inl c39)), ((r 41), .inl (G.2 0, 840, .inl c41)), ((r 42), .inl (G.2 0, 840, .inl c42)), ((r 45), .inl (G.2 0, 9, .inl c45)), ((r 46), .inl (G.2 0, 400, .inl c46)), ((r 52), .inl (G.2 0, 6, .inl c52)), ((r 53), .inl (G.2 2, 6, .inl c53)), ((r 54), .inl (G.2 2, 6, .inl c54)), ((r 55), .inl (G.2 0, 6, .inl c55))]) S hw hl.1 lX10_442 (c_x_copiesStill l G r j0 j2 j4 j10 j11 j12 j13 j14 j15 j16 j17 j19 j20 j34 j40 j44 j47 j50 j51 j56 j61 lv c31 c48 c49 (by first | assumption | omega | exact Or.inr ⟨_, by omega, rfl⟩ | (unfold zz_sok; decide) | decide | exact (fun j hj => (hv7 j hj).1))) ⟨Nat.le_of_ble_eq_true rfl, Nat.le_of_ble_eq_true rfl⟩ ⟨Nat.le_of_ble_eq_true rfl, Nat.le_of_ble_eq_true rfl⟩ [0, 8, 20, 21] [1, 2, 3, 4, 5, 6, 7, 9, 10, 11, 12, 13, 14, 15, 16, 17, 18, 19, 22, 23, 24, 25] (by decide +kernel) rfl rfl (by decide +kernel) (by decide +kernel) rfl rfl rfl rfl (Nat.le_of_ble_eq_true rfl) dX10_meet_12 ?_
    clear hw
    intro rr u H locs hp hw
    refine hp.elim fun k50_4 zg0 => zg0.elim fun k51_5 zg1 => zg1.elim fun d49_6 zg2 => zg2.elim fun zee1 zg3 => zg3.elim fun zee2 zg4 => zg4.elim fun hq12_0 zg5 => zg5.elim fun hq12_1 hq12_2 => ?_
    clear hp zg0 zg1 zg2 zg3 zg4 zg5
    subst zee1
    subst zee2
    replace hw : zz_w G A s [((r 22), .inl (G.2 0, 2, .inl c22)), ((r 24), .inl (G.2 0, 14, .inl c24)), ((r 25), .inl (G.2 0, 14, .inl c25)), ((r 26), .inl (G.2 0, 2, .inl c26)), ((r 28), .inl (G.2 0, 12, .inl c28)), ((r 29), .inl (G.2 0, 12, .inl c29)), ((r 30), .inl (G.2 0, 2, .inl c30)), ((r 32), .inl (G.2 0, 8, .inl c32)), ((r 33), .inl (G.2 0, 8, .inl c33)), ((r 35), .inl (G.2 2, 260, .inl c35)), ((r 36), .inl (G.2 0, 260, .inl c36)), ((r 37), .inl (G.2 0, 260, .inl c37)), ((r 38), .inl (G.2 0, 260, .inl c38)), ((r 39), .inl (G.2 0, 260, .inl c39)), ((r 41), .inl (G.2 0, 840, .inl c41)), ((r 42), .inl (G.2 0, 840, .inl c42)), ((r 45), .inl (G.2 0, 9, .inl c45)), ((r 46), .inl (G.2 0, 400, .inl c46)), ((r 52), .inl (G.2 0, 6, .inl c52)), ((r 53), .inl (G.2 2, 6, .inl c53)), ((r 54), .inl (G.2 2, 6, .inl c54)), ((r 55), .inl (G.2 0, 6, .inl c55)), ((r 0), .inr (10, (zz_mo r [(0, j0), (2, j2), (4, j4), (10, j10), (11, j11), (12, j12), (13, j13), (14, j14), (15, j15), (16, j16), (17, j17), (18, (nI lv)), (19, j19), (20, j20), (34, j34), (40, j40), (44, j44), (47, j47), (50, k50_4), (51, k51_5), (56, j56), (61, j61)]))), ((r 31), .inl (G.2 0, 2, .inl c31)), ((r 48), .inl (G.2 0, 71, .inl c48)), ((r 49), .inl (G.2 0, 71, .inl d49_6))] H _ := hw
    refine W.eq (g2 := F0 m 15 ls []) rfl ?_
    refine lv_iconst (v := 0) hx hb dX10_meet_15 (by decide) ?_
    refine lv_istore_n (lv' := [(2, .int 0), (0, .ref (r 0)), (1, .int (nI vq3))]) hx hb dX10_meet_16 rfl hl (by decide) rfl (fun ls hl => ?_)
    have lp17_45 : ∀ (vn8 vi7 : Nat) (vF22 : Nat → Int32) (vF23 : Nat → Int32) (vF24 : Nat → Int32) (vF25 : Nat → Int32) (vF26 : Nat → Int32) (vF27 : Nat → Int32) (vy28 : Int32) (vF29 : Nat → Int32) (H : Heap) (locs : List Loc) (ls : Array Slot), vi7 ≤ 101 → 101 < vi7 + vn8 → (∀ j, j < 6 → zz_ok 7 (vF24 j)) → zr_gm (zr_HD lv c32 c33 c35 c36 c37 c38 c39 c41 c42 (c30 lv)) lv c24 c28 c25 c29 (c30 lv) k50_4 k51_5 pp pq vi7 d49_6 vF29 → zz_w G A s [((r 22), .inl (G.2 0, 2, .inl c22)), ((r 24), .inl (G.2 0, 14, .inl c24)), ((r 25), .inl (G.2 0, 14, .inl c25)), ((r 26), .inl (G.2 0, 2, .inl c26)), ((r 28), .inl (G.2 0, 12, .inl c28)), ((r 29), .inl (G.2 0, 12, .inl c29)), ((r 30), .inl (G.2 0, 2, .inl c30)), ((r 32), .inl (G.2 0, 8, .inl c32)), ((r 33), .inl (G.2 0, 8, .inl c33)), ((r 35), .inl (G.2 2, 260, .inl c35)), ((r 36), .inl (G.2 0, 260, .inl c36)), ((r 37), .inl (G.2 0, 260, .inl c37)), ((r 38), .inl (G.2 0, 260, .inl c38)), ((r 39), .inl (G.2 0, 260, .inl c39)), ((r 41), .inl (G.2 0, 840, .inl c41)), ((r 42), .inl (G.2 0, 840, .inl c42)), ((r 45), .inl (G.2 0, 9, .inl vF22)), ((r 46), .inl (G.2 0, 400, .inl vF23)), ((r 52), .inl (G.2 0, 6, .inl vF24)), ((r 53), .inl (G.2 2, 6, .inl vF25)), ((r 54), .inl (G.2 2, 6, .inl vF26)), ((r 55), .inl (G.2 0, 6, .inl vF27)), ((r 0), .inr (10, (zz_mo r [(0, j0), (2, j2), (4, j4), (10, j10), (11, j11), (12, j12), (13, j13), (14, j14), (15, j15), (16, j16), (17, j17), (18, (nI lv)), (19, j19), (20, j20), (34, j34), (40, j40), (44, j44), (47, vy28), (50, k50_4), (51, k51_5), (56, j56), (61, j61)]))), ((r 31), .inl (G.2 0, 2, .inl c31)), ((r 48), .inl (G.2 0, 71, .inl c48)), ((r 49), .inl (G.2 0, 71, .inl vF29))] H locs → lv_has ls 3 [(2, .int (nI vi7)), (0, .ref (r 0)), (1, .int (nI vq3))] → W p l e (zz_rm 6 0 0) s m args below meth c H locs (0) (0) Q (F0 m 17 ls []) := by
      intro vn8
      induction vn8 with
      | zero => intro vi7 vF22 vF23 vF24 vF25 vF26 vF27 vy28 vF29 H locs ls hi1 hi2; exact absurd hi2 (by omega)
      | succ vn8 ih17 =>
        intro vi7 vF22 vF23 vF24 vF25 vF26 vF27 vy28 vF29 H locs ls hi17a hi17b hv17_43 hv17_44 hw hl
        refine lv_iload_n hx hb dX10_meet_17 rfl (lv_at hl 0 rfl) ?_
        refine lv_bipush (v := 100) hx hb dX10_meet_18 (by decide) ?_
        refine lv_icmp_gt (tgt := 53) hx hb dX10_meet_20 (by decide) (fun c20_46 => ?_) (fun c20_46 => ?_)
        · skip
          have c20_46n : 100 < vi7 := (zz_lt (a := 100) (b := vi7) rfl rfl (by omega) (by omega)).mp c20_46
          refine lv_bipush (v := (-2)) hx hb dX10_meet_53 (by decide) ?_
          exact hret _ _ _ _ _ _ ⟨(-2), vy28, k50_4, k51_5, vF22, vF23, vF29, vF24, vF25, vF26, vF27, rfl, rfl, (by first | exact zA0 (zz_innI (n := 1) (by omega) hq3_1 (by assumption)) | exact zA1 ⟨_, by omega, rfl⟩ ⟨_, hq12_0, zr_MEs hq12_1 hq12_2 (zr_ME0 hv17_44 hq24_0 (by assumption) (by omega) (by assumption))⟩ | exact zA1 ⟨_, by omega, rfl⟩ ⟨_, hq12_0, zr_MEs hq12_1 hq12_2 (zr_ME1 hv17_44 hq24_0 hq39_0 (by assumption) (by omega) (by assumption))⟩ | exact zA1 ⟨_, by omega, rfl⟩ ⟨_, hq12_0, zr_MEs hq12_1 hq12_2 (zr_ME2 hv17_44 (by omega))⟩), (by first | assumption | exact Or.inl rfl | exact Or.inr rfl | omega | exact Or.inr (by assumption) | exact zz_oku (by assumption) (by first | exact Or.inl rfl | exact Or.inr ⟨_, by omega, rfl⟩))⟩ (hw.sub [22, 0, 1, 2, 3, 4, 5, 6, 23, 7, 8, 9, 10, 11, 12, 13, 14, 15, 16, 17, 24, 25, 18, 19, 20, 21] (by decide +kernel) rfl) rfl dX10_meet_55
        · skip
          have c20_46n : ¬ (100 < vi7) := fun z => c20_46 ((zz_lt (a := 100) (b := vi7) rfl rfl (by omega) (by omega)).mpr z)
          refine lv_aload_n hx hb dX10_meet_23 rfl (lv_at hl 1 rfl) ?_
          refine zz_callV (qb := 22) (As := []) (rest := []) (wr := [((r 22), .inl (G.2 0, 2, .inl c22)), ((r 24), .inl (G.2 0, 14, .inl c24)), ((r 25), .inl (G.2 0, 14, .inl c25)), ((r 28), .inl (G.2 0, 12, .inl c28)), ((r 29), .inl (G.2 0, 12, .inl c29)), ((r 30), .inl (G.2 0, 2, .inl c30)), ((r 32), .inl (G.2 0, 8, .inl c32)), ((r 33), .inl (G.2 0, 8, .inl c33)), ((r 35), .inl (G.2 2, 260, .inl c35)), ((r 36), .inl (G.2 0, 260, .inl c36)), ((r 37), .inl (G.2 0, 260, .inl c37)), ((r 38), .inl (G.2 0, 260, .inl c38)), ((r 39), .inl (G.2 0, 260, .inl c39)), ((r 41), .inl (G.2 0, 840, .inl c41)), ((r 42), .inl (G.2 0, 840, .inl c42)), ((r 45), .inl (G.2 0, 9, .inl vF22)), ((r 46), .inl (G.2 0, 400, .inl vF23)), ((r 52), .inl (G.2 0, 6, .inl vF24)), ((r 53), .inl (G.2 2, 6, .inl vF25)), ((r 54), .inl (G.2 2, 6, .inl vF26)), ((r 55), .inl (G.2 0, 6, .inl vF27)), ((r 31), .inl (G.2 0, 2, .inl c31)), ((r 48), .inl (G.2 0, 71, .inl c48))]) S hw hl.1 lX10_452 (c_x_pairAlike l G r j0 j2 j4 j10 j11 j12 j13 j14 j15 j16 j17 j19 j20 j34 j40 j44 vy28 k50_4 k51_5 j56 j61 lv pq c26 vF29 (by first | assumption | omega | exact Or.inr ⟨_, by omega, rfl⟩ | (unfold zz_sok; decide) | decide | exact (fun j hj => (hv7 j hj).1)) (by first | assumption | omega | exact Or.inr ⟨_, by omega, rfl⟩ | (unfold zz_sok; decide) | decide | exact (fun j hj => (hv7 j hj).1)) (by first | assumption | omega | exact Or.inr ⟨_, by omega, rfl⟩ | (unfold zz_sok; decide) | decide | exact (fun j hj => (hv7 j hj).1))) ⟨Nat.le_of_ble_eq_true rfl, Nat.le_of_ble_eq_true rfl⟩ ⟨Nat.le_of_ble_eq_true rfl, Nat.le_of_ble_eq_true rfl⟩ [22, 3, 25] [0, 1, 2, 4, 5, 6, 7, 8, 9, 10, 11, 12, 13, 14, 15, 16, 17, 18, 19, 20, 21, 23, 24] (by decide +kernel) rfl rfl (by decide +kernel) (by decide +kernel) rfl rfl rfl rfl (Nat.le_of_ble_eq_true rfl) dX10_meet_24 ?_
          clear hw
          intro rr u H locs hp hw
          refine hp.elim fun rv_47 zg0 => zg0.elim fun zee1 zg1 => zg1.elim fun zee2 hq24_0 => ?_
          clear hp zg0 zg1
          subst zee1
          subst zee2
          replace hw : zz_w G A s [((r 22), .inl (G.2 0, 2, .inl c22)), ((r 24), .inl (G.2 0, 14, .inl c24)), ((r 25), .inl (G.2 0, 14, .inl c25)), ((r 28), .inl (G.2 0, 12, .inl c28)), ((r 29), .inl (G.2 0, 12, .inl c29)), ((r 30), .inl (G.2 0, 2, .inl c30)), ((r 32), .inl (G.2 0, 8, .inl c32)), ((r 33), .inl (G.2 0, 8, .inl c33)), ((r 35), .inl (G.2 2, 260, .inl c35)), ((r 36), .inl (G.2 0, 260, .inl c36)), ((r 37), .inl (G.2 0, 260, .inl c37)), ((r 38), .inl (G.2 0, 260, .inl c38)), ((r 39), .inl (G.2 0, 260, .inl c39)), ((r 41), .inl (G.2 0, 840, .inl c41)), ((r 42), .inl (G.2 0, 840, .inl c42)), ((r 45), .inl (G.2 0, 9, .inl vF22)), ((r 46), .inl (G.2 0, 400, .inl vF23)), ((r 52), .inl (G.2 0, 6, .inl vF24)), ((r 53), .inl (G.2 2, 6, .inl vF25)), ((r 54), .inl (G.2 2, 6, .inl vF26)), ((r 55), .inl (G.2 0, 6, .inl vF27)), ((r 31), .inl (G.2 0, 2, .inl c31)), ((r 48), .inl (G.2 0, 71, .inl c48)), ((r 0), .inr (10, (zz_mo r [(0, j0), (2, j2), (4, j4), (10, j10), (11, j11), (12, j12), (13, j13), (14, j14), (15, j15), (16, j16), (17, j17), (18, (nI lv)), (19, j19), (20, j20), (34, j34), (40, j40), (44, j44), (47, vy28), (50, k50_4), (51, k51_5), (56, j56), (61, j61)]))), ((r 26), .inl (G.2 0, 2, .inl c26)), ((r 49), .inl (G.2 0, 71, .inl vF29))] H _ := hw
          refine W.eq (g2 := F0 m 27 ls [.int rv_47]) rfl ?_
          refine lv_if_lt (tgt := 43) hx hb dX10_meet_27 (by decide) (fun c27_48 => ?_) (fun c27_48 => ?_)
          · skip
            refine lv_aload_n hx hb dX10_meet_43 rfl (lv_at hl 1 rfl) ?_
            refine W.eq (g2 := F0 m 44 ls [.ref (r 0)]) rfl ?_
            refine zz_callV (qb := 23) (As := []) (rest := []) (wr := [((r 31), .inl (G.2 0, 2, .inl c31)), ((r 48), .inl (G.2 0, 71, .inl c48))]) S hw hl.1 lX10_370 (c_x_dayGoes l G r j0 j2 j4 j10 j11 j12 j13 j14 j15 j16 j17 j19 j20 j34 j40 j44 vy28 k50_4 k51_5 j56 j61 lv pp pq c22 c24 c25 c26 c28 c29 c30 c32 c33 c35 c36 c37 c38 c39 c41 c42 vF22 vF23 vF29 vF24 vF25 vF26 vF27 (by first | assumption | omega | exact Or.inr ⟨_, by omega, rfl⟩ | (unfold zz_sok; decide) | decide | exact (fun j hj => (hv7 j hj).1)) (by first | assumption | omega | exact Or.inr ⟨_, by omega, rfl⟩ | (unfold zz_sok; decide) | decide | exact (fun j hj => (hv7 j hj).1)) (by first | assumption | omega | exact Or.inr ⟨_, by omega, rfl⟩ | (unfold zz_sok; decide) | decide | exact (fun j hj => (hv7 j hj).1)) (by first | assumption | omega | exact Or.inr ⟨_, by omega, rfl⟩ | (unfold zz_sok; decide) | decide | exact (fun j hj => (hv7 j hj).1)) (by first | assumption | omega | exact Or.inr ⟨_, by omega, rfl⟩ | (unfold zz_sok; decide) | decide | exact (fun j hj => (hv7 j hj).1)) (by first | assumption | omega | exact Or.inr ⟨_, by omega, rfl⟩ | (unfold zz_sok; decide) | decide | exact (fun j hj => (hv7 j hj).1)) (by first | assumption | omega | exact Or.inr ⟨_, by omega, rfl⟩ | (unfold zz_sok; decide) | decide | exact (fun j hj => (hv7 j hj).1))) ⟨Nat.le_of_ble_eq_true rfl, Nat.le_of_ble_eq_true rfl⟩ ⟨Nat.le_of_ble_eq_true rfl, Nat.le_of_ble_eq_true rfl⟩ [23, 0, 1, 2, 24, 3, 4, 5, 6, 7, 8, 9, 10, 11, 12, 13, 14, 15, 16, 25, 17, 18, 19, 20] [21, 22] (by decide +kernel) rfl rfl (by decide +kernel) (by decide +kernel) rfl rfl rfl rfl (Nat.le_of_ble_eq_true rfl) dX10_meet_44 ?_
            clear hw
            intro rr u H locs hp hw
            refine hp.elim fun k47_49 zg0 => zg0.elim fun d45_50 zg1 => zg1.elim fun d46_51 zg2 => zg2.elim fun d49_52 zg3 => zg3.elim fun d52_53 zg4 => zg4.elim fun d53_54 zg5 => zg5.elim fun d54_55 zg6 => zg6.elim fun d55_56 zg7 => zg7.elim fun zee1 zg8 => zg8.elim fun zee2 zg9 => zg9.elim fun hq44_0 zg10 => zg10.elim fun hq44_1 zg11 => zg11.elim fun hq44_2 hq44_3 => ?_
            clear hp zg0 zg1 zg2 zg3 zg4 zg5 zg6 zg7 zg8 zg9 zg10 zg11
            subst zee1
            subst zee2
            replace hw : zz_w G A s [((r 31), .inl (G.2 0, 2, .inl c31)), ((r 48), .inl (G.2 0, 71, .inl c48)), ((r 0), .inr (10, (zz_mo r [(0, j0), (2, j2), (4, j4), (10, j10), (11, j11), (12, j12), (13, j13), (14, j14), (15, j15), (16, j16), (17, j17), (18, (nI lv)), (19, j19), (20, j20), (34, j34), (40, j40), (44, j44), (47, k47_49), (50, k50_4), (51, k51_5), (56, j56), (61, j61)]))), ((r 22), .inl (G.2 0, 2, .inl c22)), ((r 24), .inl (G.2 0, 14, .inl c24)), ((r 25), .inl (G.2 0, 14, .inl c25)), ((r 26), .inl (G.2 0, 2, .inl c26)), ((r 28), .inl (G.2 0, 12, .inl c28)), ((r 29), .inl (G.2 0, 12, .inl c29)), ((r 30), .inl (G.2 0, 2, .inl c30)), ((r 32), .inl (G.2 0, 8, .inl c32)), ((r 33), .inl (G.2 0, 8, .inl c33)), ((r 35), .inl (G.2 2, 260, .inl c35)), ((r 36), .inl (G.2 0, 260, .inl c36)), ((r 37), .inl (G.2 0, 260, .inl c37)), ((r 38), .inl (G.2 0, 260, .inl c38)), ((r 39), .inl (G.2 0, 260, .inl c39)), ((r 41), .inl (G.2 0, 840, .inl c41)), ((r 42), .inl (G.2 0, 840, .inl c42)), ((r 45), .inl (G.2 0, 9, .inl d45_50)), ((r 46), .inl (G.2 0, 400, .inl d46_51)), ((r 49), .inl (G.2 0, 71, .inl d49_52)), ((r 52), .inl (G.2 0, 6, .inl d52_53)), ((r 53), .inl (G.2 2, 6, .inl d53_54)), ((r 54), .inl (G.2 2, 6, .inl d54_55)), ((r 55), .inl (G.2 0, 6, .inl d55_56))] H _ := hw
            refine W.eq (g2 := F0 m 47 ls []) rfl ?_
            refine lv_iinc (v := (nI (vi7 + 1))) (lv' := [(2, .int (nI (vi7 + 1))), (0, .ref (r 0)), (1, .int (nI vq3))]) hx hb dX10_meet_47 hl (k := 0) rfl (nI_add _ 1) (by decide) rfl (fun ls hl => ?_)
            refine lv_goto (tgt := 17) hx hb dX10_meet_50 (by decide) ?_
            exact ih17 (vi7 + 1) d45_50 d46_51 d52_53 d53_54 d54_55 d55_56 k47_49 d49_52 _ _ _ (by omega) (by omega) (by first | assumption | omega | exact Or.inl rfl | exact Or.inr ⟨_, by omega, rfl⟩ | exact zz_oku (by assumption) (by first | exact Or.inl rfl | exact Or.inr ⟨_, by omega, rfl⟩)) (zr_gm1 hpq hv17_44 hq24_0 (by assumption) (zr_dy1 hq44_0 hq44_1 hq44_2)) (hw.sub [3, 4, 5, 6, 7, 8, 9, 10, 11, 12, 13, 14, 15, 16, 17, 18, 19, 20, 22, 23, 24, 25, 2, 0, 1, 21] (by decide +kernel) rfl) (lv_sub hl [0, 1, 2] rfl)
          · skip
            refine lv_iload_n hx hb dX10_meet_30 rfl (lv_at hl 2 rfl) ?_
            refine lv_if_ne (tgt := 38) hx hb dX10_meet_31 (by decide) (fun c31_57 => ?_) (fun c31_57 => ?_)
            · skip
              have c31_57n : ¬ (vq3 = 0) := fun z => c31_57 ((zz_eq (a := vq3) (b := 0) rfl rfl (by omega) (by omega)).mpr z)
              refine lv_aload_n hx hb dX10_meet_38 rfl (lv_at hl 1 rfl) ?_
              refine zz_callV (qb := 23) (As := []) (rest := []) (wr := [((r 22), .inl (G.2 0, 2, .inl c22)), ((r 24), .inl (G.2 0, 14, .inl c24)), ((r 25), .inl (G.2 0, 14, .inl c25)), ((r 28), .inl (G.2 0, 12, .inl c28)), ((r 29), .inl (G.2 0, 12, .inl c29)), ((r 30), .inl (G.2 0, 2, .inl c30)), ((r 32), .inl (G.2 0, 8, .inl c32)), ((r 33), .inl (G.2 0, 8, .inl c33)), ((r 35), .inl (G.2 2, 260, .inl c35)), ((r 36), .inl (G.2 0, 260, .inl c36)), ((r 37), .inl (G.2 0, 260, .inl c37)), ((r 38), .inl (G.2 0, 260, .inl c38)), ((r 39), .inl (G.2 0, 260, .inl c39)), ((r 41), .inl (G.2 0, 840, .inl c41)), ((r 42), .inl (G.2 0, 840, .inl c42)), ((r 45), .inl (G.2 0, 9, .inl vF22)), ((r 46), .inl (G.2 0, 400, .inl vF23)), ((r 52), .inl (G.2 0, 6, .inl vF24)), ((r 53), .inl (G.2 2, 6, .inl vF25)), ((r 54), .inl (G.2 2, 6, .inl vF26)), ((r 55), .inl (G.2 0, 6, .inl vF27)), ((r 31), .inl (G.2 0, 2, .inl c31)), ((r 48), .inl (G.2 0, 71, .inl c48))]) S hw hl.1 lX10_452 (c_x_pairAlike l G r j0 j2 j4 j10 j11 j12 j13 j14 j15 j16 j17 j19 j20 j34 j40 j44 vy28 k50_4 k51_5 j56 j61 lv pq c26 vF29 (by first | assumption | omega | exact Or.inr ⟨_, by omega, rfl⟩ | (unfold zz_sok; decide) | decide | exact (fun j hj => (hv7 j hj).1)) (by first | assumption | omega | exact Or.inr ⟨_, by omega, rfl⟩ | (unfold zz_sok; decide) | decide | exact (fun j hj => (hv7 j hj).1)) (by first | assumption | omega | exact Or.inr ⟨_, by omega, rfl⟩ | (unfold zz_sok; decide) | decide | exact (fun j hj => (hv7 j hj).1))) ⟨Nat.le_of_ble_eq_true rfl, Nat.le_of_ble_eq_true rfl⟩ ⟨Nat.le_of_ble_eq_true rfl, Nat.le_of_ble_eq_true rfl⟩ [23, 24, 25] [0, 1, 2, 3, 4, 5, 6, 7, 8, 9, 10, 11, 12, 13, 14, 15, 16, 17, 18, 19, 20, 21, 22] (by decide +kernel) rfl rfl (by decide +kernel) (by decide +kernel) rfl rfl rfl rfl (Nat.le_of_ble_eq_true rfl) dX10_meet_39 ?_
              clear hw
              intro rr u H locs hp hw
              refine hp.elim fun rv_58 zg0 => zg0.elim fun zee1 zg1 => zg1.elim fun zee2 hq39_0 => ?_
              clear hp zg0 zg1
              subst zee1
              subst zee2
              replace hw : zz_w G A s [((r 22), .inl (G.2 0, 2, .inl c22)), ((r 24), .inl (G.2 0, 14, .inl c24)), ((r 25), .inl (G.2 0, 14, .inl c25)), ((r 28), .inl (G.2 0, 12, .inl c28)), ((r 29), .inl (G.2 0, 12, .inl c29)), ((r 30), .inl (G.2 0, 2, .inl c30)), ((r 32), .inl (G.2 0, 8, .inl c32)), ((r 33), .inl (G.2 0, 8, .inl c33)), ((r 35), .inl (G.2 2, 260, .inl c35)), ((r 36), .inl (G.2 0, 260, .inl c36)), ((r 37), .inl (G.2 0, 260, .inl c37)), ((r 38), .inl (G.2 0, 260, .inl c38)), ((r 39), .inl (G.2 0, 260, .inl c39)), ((r 41), .inl (G.2 0, 840, .inl c41)), ((r 42), .inl (G.2 0, 840, .inl c42)), ((r 45), .inl (G.2 0, 9, .inl vF22)), ((r 46), .inl (G.2 0, 400, .inl vF23)), ((r 52), .inl (G.2 0, 6, .inl vF24)), ((r 53), .inl (G.2 2, 6, .inl vF25)), ((r 54), .inl (G.2 2, 6, .inl vF26)), ((r 55), .inl (G.2 0, 6, .inl vF27)), ((r 31), .inl (G.2 0, 2, .inl c31)), ((r 48), .inl (G.2 0, 71, .inl c48)), ((r 0), .inr (10, (zz_mo r [(0, j0), (2, j2), (4, j4), (10, j10), (11, j11), (12, j12), (13, j13), (14, j14), (15, j15), (16, j16), (17, j17), (18, (nI lv)), (19, j19), (20, j20), (34, j34), (40, j40), (44, j44), (47, vy28), (50, k50_4), (51, k51_5), (56, j56), (61, j61)]))), ((r 26), .inl (G.2 0, 2, .inl c26)), ((r 49), .inl (G.2 0, 71, .inl vF29))] H _ := hw
              refine W.eq (g2 := F0 m 42 ls [.int rv_58]) rfl ?_
              exact hret _ _ _ _ _ _ ⟨rv_58, vy28, k50_4, k51_5, vF22, vF23, vF29, vF24, vF25, vF26, vF27, rfl, rfl, (by first | exact zA0 (zz_innI (n := 1) (by omega) hq3_1 (by assumption)) | exact zA1 ⟨_, by omega, rfl⟩ ⟨_, hq12_0, zr_MEs hq12_1 hq12_2 (zr_ME0 hv17_44 hq24_0 (by assumption) (by omega) (by assumption))⟩ | exact zA1 ⟨_, by omega, rfl⟩ ⟨_, hq12_0, zr_MEs hq12_1 hq12_2 (zr_ME1 hv17_44 hq24_0 hq39_0 (by assumption) (by omega) (by assumption))⟩ | exact zA1 ⟨_, by omega, rfl⟩ ⟨_, hq12_0, zr_MEs hq12_1 hq12_2 (zr_ME2 hv17_44 (by omega))⟩), (by first | assumption | exact Or.inl rfl | exact Or.inr rfl | omega | exact Or.inr (by assumption) | exact zz_oku (by assumption) (by first | exact Or.inl rfl | exact Or.inr ⟨_, by omega, rfl⟩))⟩ (hw.sub [23, 0, 1, 2, 24, 3, 4, 5, 21, 6, 7, 8, 9, 10, 11, 12, 13, 14, 15, 16, 22, 25, 17, 18, 19, 20] (by decide +kernel) rfl) rfl dX10_meet_42
            · skip
              have c31_57n : vq3 = 0 := (zz_eq (a := vq3) (b := 0) rfl rfl (by omega) (by omega)).mp c31_57
              refine lv_iload_n hx hb dX10_meet_34 rfl (lv_at hl 0 rfl) ?_
              refine lv_goto (tgt := 42) hx hb dX10_meet_35 (by decide) ?_
              exact hret _ _ _ _ _ _ ⟨(nI vi7), vy28, k50_4, k51_5, vF22, vF23, vF29, vF24, vF25, vF26, vF27, rfl, rfl, (by first | exact zA0 (zz_innI (n := 1) (by omega) hq3_1 (by assumption)) | exact zA1 ⟨_, by omega, rfl⟩ ⟨_, hq12_0, zr_MEs hq12_1 hq12_2 (zr_ME0 hv17_44 hq24_0 (by assumption) (by omega) (by assumption))⟩ | exact zA1 ⟨_, by omega, rfl⟩ ⟨_, hq12_0, zr_MEs hq12_1 hq12_2 (zr_ME1 hv17_44 hq24_0 hq39_0 (by assumption) (by omega) (by assumption))⟩ | exact zA1 ⟨_, by omega, rfl⟩ ⟨_, hq12_0, zr_MEs hq12_1 hq12_2 (zr_ME2 hv17_44 (by omega))⟩), (by first | assumption | exact Or.inl rfl | exact Or.inr rfl | omega | exact Or.inr (by assumption) | exact zz_oku (by assumption) (by first | exact Or.inl rfl | exact Or.inr ⟨_, by omega, rfl⟩))⟩ (hw.sub [23, 0, 1, 2, 24, 3, 4, 5, 21, 6, 7, 8, 9, 10, 11, 12, 13, 14, 15, 16, 22, 25, 17, 18, 19, 20] (by decide +kernel) rfl) rfl dX10_meet_42
    exact lp17_45 (101 + 1 - 0) 0 c45 c46 c52 c53 c54 c55 j47 d49_6 _ _ _ (by omega) (by omega) (by first | assumption | omega | exact Or.inl rfl | exact Or.inr ⟨_, by omega, rfl⟩ | exact zz_oku (by assumption) (by first | exact Or.inl rfl | exact Or.inr ⟨_, by omega, rfl⟩)) zr_gm0 hw (lv_sub hl [0, 1, 2] rfl)
  · skip
    refine lv_iconst (v := (-1)) hx hb dX10_meet_9 (by decide) ?_
    exact hret _ _ _ _ _ _ ⟨(-1), j47, j50, j51, c45, c46, c49, c52, c53, c54, c55, rfl, rfl, (by first | exact zA0 (zz_innI (n := 1) (by omega) hq3_1 (by assumption)) | exact zA1 ⟨_, by omega, rfl⟩ ⟨_, hq12_0, zr_MEs hq12_1 hq12_2 (zr_ME0 hdry hq24_0 (by assumption) (by omega) (by assumption))⟩ | exact zA1 ⟨_, by omega, rfl⟩ ⟨_, hq12_0, zr_MEs hq12_1 hq12_2 (zr_ME1 hdry hq24_0 hq39_0 (by assumption) (by omega) (by assumption))⟩ | exact zA1 ⟨_, by omega, rfl⟩ ⟨_, hq12_0, zr_MEs hq12_1 hq12_2 (zr_ME2 hdry (by omega))⟩), (by first | assumption | exact Or.inl rfl | exact Or.inr rfl | omega | exact Or.inr (by assumption) | exact zz_oku (by assumption) (by first | exact Or.inl rfl | exact Or.inr ⟨_, by omega, rfl⟩))⟩ hw rfl dX10_meet_10
theorem kd_ncX10_away : kd_ck 7456259164773656146295386421604292382747804406613936696161030876326723743910286932630576361294827556858324498757881153157660359683 54 cX10_away.data.toList 0 = true := by decide +kernel
theorem dX10_away_0 : decode cX10_away 0 = .ok (.iconst 0, 1) := kd_dk0 kd_o3 kd_ncX10_away rfl
theorem dX10_away_1 : decode cX10_away 1 = .ok (.istore_n 1, 1) := kd_dk0 kd_o60 kd_ncX10_away rfl
theorem dX10_away_2 : decode cX10_away 2 = .ok (.iconst 0, 1) := kd_dk0 kd_o3 kd_ncX10_away rfl
theorem dX10_away_3 : decode cX10_away 3 = .ok (.istore_n 2, 1) := kd_dk0 kd_o61 kd_ncX10_away rfl
theorem dX10_away_4 : decode cX10_away 4 = .ok (.iload_n 2, 1) := kd_dk0 kd_o28 kd_ncX10_away rfl
theorem dX10_away_5 : decode cX10_away 5 = .ok (.aload_n 0, 1) := kd_dk0 kd_o42 kd_ncX10_away rfl
theorem dX10_away_6 : decode cX10_away 6 = .ok (.getfield 55, 3) := kd_dk2 kd_o180 kd_ncX10_away rfl
theorem dX10_away_9 : decode cX10_away 9 = .ok (.aload_n 0, 1) := kd_dk0 kd_o42 kd_ncX10_away rfl
theorem dX10_away_10 : decode cX10_away 10 = .ok (.getfield 236, 3) := kd_dk2 kd_o180 kd_ncX10_away rfl
theorem dX10_away_13 : decode cX10_away 13 = .ok (.iaload, 1) := kd_dk0 kd_o46 kd_ncX10_away rfl
theorem dX10_away_14 : decode cX10_away 14 = .ok (.if_icmp .ge 38, 3) := kd_dj2 kd_o162 (w := 38) kd_ncX10_away rfl rfl
theorem dX10_away_17 : decode cX10_away 17 = .ok (.iload_n 1, 1) := kd_dk0 kd_o27 kd_ncX10_away rfl
theorem dX10_away_18 : decode cX10_away 18 = .ok (.aload_n 0, 1) := kd_dk0 kd_o42 kd_ncX10_away rfl
theorem dX10_away_19 : decode cX10_away 19 = .ok (.getfield 110, 3) := kd_dk2 kd_o180 kd_ncX10_away rfl
theorem dX10_away_22 : decode cX10_away 22 = .ok (.bipush 21, 2) := kd_dj1 kd_o16 (w := 21) kd_ncX10_away rfl rfl
theorem dX10_away_24 : decode cX10_away 24 = .ok (.iload_n 2, 1) := kd_dk0 kd_o28 kd_ncX10_away rfl
theorem dX10_away_25 : decode cX10_away 25 = .ok (.iadd, 1) := kd_dk0 kd_o96 kd_ncX10_away rfl
theorem dX10_away_26 : decode cX10_away 26 = .ok (.iaload, 1) := kd_dk0 kd_o46 kd_ncX10_away rfl
theorem dX10_away_27 : decode cX10_away 27 = .ok (.aload_n 0, 1) := kd_dk0 kd_o42 kd_ncX10_away rfl
theorem dX10_away_28 : decode cX10_away 28 = .ok (.getfield 58, 3) := kd_dk2 kd_o180 kd_ncX10_away rfl
theorem dX10_away_31 : decode cX10_away 31 = .ok (.bipush 6, 2) := kd_dj1 kd_o16 (w := 6) kd_ncX10_away rfl rfl
theorem dX10_away_33 : decode cX10_away 33 = .ok (.aload_n 0, 1) := kd_dk0 kd_o42 kd_ncX10_away rfl
theorem dX10_away_34 : decode cX10_away 34 = .ok (.getfield 236, 3) := kd_dk2 kd_o180 kd_ncX10_away rfl
theorem dX10_away_37 : decode cX10_away 37 = .ok (.imul, 1) := kd_dk0 kd_o104 kd_ncX10_away rfl
theorem dX10_away_38 : decode cX10_away 38 = .ok (.iload_n 2, 1) := kd_dk0 kd_o28 kd_ncX10_away rfl
theorem dX10_away_39 : decode cX10_away 39 = .ok (.iadd, 1) := kd_dk0 kd_o96 kd_ncX10_away rfl
theorem dX10_away_40 : decode cX10_away 40 = .ok (.iaload, 1) := kd_dk0 kd_o46 kd_ncX10_away rfl
theorem dX10_away_41 : decode cX10_away 41 = .ok (.invokestatic 330, 3) := kd_dk2 kd_o184 kd_ncX10_away rfl
theorem dX10_away_44 : decode cX10_away 44 = .ok (.iadd, 1) := kd_dk0 kd_o96 kd_ncX10_away rfl
theorem dX10_away_45 : decode cX10_away 45 = .ok (.istore_n 1, 1) := kd_dk0 kd_o60 kd_ncX10_away rfl
theorem dX10_away_46 : decode cX10_away 46 = .ok (.iinc 2 1, 3) := kd_dji kd_o132 (w := 1) kd_ncX10_away rfl rfl
theorem dX10_away_49 : decode cX10_away 49 = .ok (.goto (-45), 3) := kd_dj2 kd_o167 (w := 65491) kd_ncX10_away rfl rfl
theorem dX10_away_52 : decode cX10_away 52 = .ok (.iload_n 1, 1) := kd_dk0 kd_o27 kd_ncX10_away rfl
theorem dX10_away_53 : decode cX10_away 53 = .ok (.ireturn, 1) := kd_dk0 kd_o172 kd_ncX10_away rfl
set_option maxHeartbeats 8000000 in
set_option maxRecDepth 100000 in
theorem c_x_away (l : Launch) (G : zz_G) (r : Nat → Nat) (j0 : Int32) (j2 : Int32) (j4 : Int32) (j10 : Int32) (j11 : Int32) (j12 : Int32) (j13 : Int32) (j14 : Int32) (j15 : Int32) (j16 : Int32) (j17 : Int32) (j19 : Int32) (j20 : Int32) (j34 : Int32) (j40 : Int32) (j44 : Int32) (j47 : Int32) (j50 : Int32) (j51 : Int32) (j56 : Int32) (j61 : Int32) (lv : Nat) (pq : Nat) (c26 : Nat → Int32) (c27 : Nat → Int32) (c48 : Nat → Int32) (hlv : lv ≤ 1) (hpa : c26 lv = nI pq) (hpq : pq ≤ 6) : zz_M l G mX10_away 2 0 0 [.ref (r 0)] [((r 0), .inr (10, (zz_mo r [(0, j0), (2, j2), (4, j4), (10, j10), (11, j11), (12, j12), (13, j13), (14, j14), (15, j15), (16, j16), (17, j17), (18, (nI lv)), (19, j19), (20, j20), (34, j34), (40, j40), (44, j44), (47, j47), (50, j50), (51, j51), (56, j56), (61, j61)]))), ((r 26), .inl (G.2 0, 2, .inl c26)), ((r 27), .inl (G.2 0, 12, .inl c27)), ((r 48), .inl (G.2 0, 71, .inl c48))] (fun rr u => ∃ (rv : Int32), rr = some (.int rv) ∧ u = [((r 0), .inr (10, (zz_mo r [(0, j0), (2, j2), (4, j4), (10, j10), (11, j11), (12, j12), (13, j13), (14, j14), (15, j15), (16, j16), (17, j17), (18, (nI lv)), (19, j19), (20, j20), (34, j34), (40, j40), (44, j44), (47, j47), (50, j50), (51, j51), (56, j56), (61, j61)]))), ((r 26), .inl (G.2 0, 2, .inl c26)), ((r 27), .inl (G.2 0, 12, .inl c27)), ((r 48), .inl (G.2 0, 71, .inl c48))] ∧ (rv = zS (fun p => zr_ro (c48 (21 + p)) (c27 (6 * lv + p))) pq)) := by
  refine zz_enteri (by decide +kernel) (Nat.le_of_ble_eq_true rfl) ?_
  intro p e s m args below meth c A Q ls S hnm hret hw hl
  have hl : lv_has ls 3 [(0, .ref (r 0))] := hl
  have hx := S.1
  have hb := S.2.1
  refine lv_iconst (v := 0) hx hb dX10_away_0 (by decide) ?_
  refine lv_istore_n (lv' := [(1, .int 0), (0, .ref (r 0))]) hx hb dX10_away_1 rfl hl (by decide) rfl (fun ls hl => ?_)
  refine lv_iconst (v := 0) hx hb dX10_away_2 (by decide) ?_
  refine lv_istore_n (lv' := [(2, .int 0), (1, .int 0), (0, .ref (r 0))]) hx hb dX10_away_3 rfl hl (by decide) rfl (fun ls hl => ?_)
  have lp4_11 : ∀ (vn2 vi1 : Nat) (vy6 : Int32) (H : Heap) (locs : List Loc) (ls : Array Slot), vi1 ≤ pq → pq < vi1 + vn2 → vy6 = zS (fun p => zr_ro (c48 (21 + p)) (c27 (6 * lv + p))) vi1 → zz_w G A s [((r 0), .inr (10, (zz_mo r [(0, j0), (2, j2), (4, j4), (10, j10), (11, j11), (12, j12), (13, j13), (14, j14), (15, j15), (16, j16), (17, j17), (18, (nI lv)), (19, j19), (20, j20), (34, j34), (40, j40), (44, j44), (47, j47), (50, j50), (51, j51), (56, j56), (61, j61)]))), ((r 26), .inl (G.2 0, 2, .inl c26)), ((r 27), .inl (G.2 0, 12, .inl c27)), ((r 48), .inl (G.2 0, 71, .inl c48))] H locs → lv_has ls 3 [(2, .int (nI vi1)), (1, .int vy6), (0, .ref (r 0))] → W p l e (zz_rm 2 0 0) s m args below meth c H locs (0) (0) Q (F0 m 4 ls []) := by
    intro vn2
    induction vn2 with
    | zero => intro vi1 vy6 H locs ls hi1 hi2; exact absurd hi2 (by omega)
    | succ vn2 ih4 =>
      intro vi1 vy6 H locs ls hi4a hi4b hv4_10 hw hl
      refine lv_iload_n hx hb dX10_away_4 rfl (lv_at hl 0 rfl) ?_
      refine lv_aload_n hx hb dX10_away_5 rfl (lv_at hl 2 rfl) ?_
      refine zz_get (v := .ref (r 26)) S hw fgX10_55 0 rfl rfl dX10_away_6 ?_
      refine lv_aload_n hx hb dX10_away_9 rfl (lv_at hl 2 rfl) ?_
      refine zz_get (v := .int (nI lv)) S hw fgX10_236 0 rfl rfl dX10_away_10 ?_
      refine zz_iald (v := (nI pq)) S hw 1 rfl (vp_in_nI (n := lv) (by omega) (by decide)) (by rw [show ((nI lv) : Int32).toNatClampNeg = lv from nI_clamp (n := lv) (by omega)]; exact hpa) dX10_away_13 ?_
      refine lv_icmp_ge (tgt := 52) hx hb dX10_away_14 (by decide) (fun c14_12 => ?_) (fun c14_12 => ?_)
      · skip
        have c14_12n : pq ≤ vi1 := (zz_le (a := pq) (b := vi1) rfl rfl (by omega) (by omega)).mp c14_12
        refine lv_iload_n hx hb dX10_away_52 rfl (lv_at hl 1 rfl) ?_
        exact hret _ _ _ _ _ _ ⟨vy6, rfl, rfl, (zS_e hv4_10 (by omega))⟩ hw rfl dX10_away_53
      · skip
        have c14_12n : ¬ (pq ≤ vi1) := fun z => c14_12 ((zz_le (a := pq) (b := vi1) rfl rfl (by omega) (by omega)).mpr z)
        refine lv_iload_n hx hb dX10_away_17 rfl (lv_at hl 1 rfl) ?_
        refine lv_aload_n hx hb dX10_away_18 rfl (lv_at hl 2 rfl) ?_
        refine zz_get (v := .ref (r 48)) S hw fgX10_110 0 rfl rfl dX10_away_19 ?_
        refine W.eq (g2 := F0 m 22 ls [.ref (r 48), .int vy6]) rfl ?_
        refine lv_bipush (v := 21) hx hb dX10_away_22 (by decide) ?_
        refine lv_iload_n hx hb dX10_away_24 rfl (lv_at hl 0 rfl) ?_
        refine lv_iadd hx hb dX10_away_25 ?_
        refine zz_topi (y := (nI (21 + vi1))) (nI_add _ _) ?_
        refine zz_iald (v := (c48 (21 + vi1))) S hw 3 rfl (vp_in_nI (n := (21 + vi1)) (by omega) (by decide)) (congrArg c48 (nI_clamp (n := (21 + vi1)) (by omega))) dX10_away_26 ?_
        refine lv_aload_n hx hb dX10_away_27 rfl (lv_at hl 2 rfl) ?_
        refine zz_get (v := .ref (r 27)) S hw fgX10_58 0 rfl rfl dX10_away_28 ?_
        refine lv_bipush (v := 6) hx hb dX10_away_31 (by decide) ?_
        refine lv_aload_n hx hb dX10_away_33 rfl (lv_at hl 2 rfl) ?_
        refine zz_get (v := .int (nI lv)) S hw fgX10_236 0 rfl rfl dX10_away_34 ?_
        refine lv_imul hx hb dX10_away_37 ?_
        refine zz_topi (y := (nI (6 * lv))) (pk_mul _ _) ?_
        refine lv_iload_n hx hb dX10_away_38 rfl (lv_at hl 0 rfl) ?_
        refine lv_iadd hx hb dX10_away_39 ?_
        refine zz_topi (y := (nI ((6 * lv) + vi1))) (nI_add _ _) ?_
        refine zz_iald (v := (c27 ((6 * lv) + vi1))) S hw 2 rfl (vp_in_nI (n := ((6 * lv) + vi1)) (by omega) (by decide)) (congrArg c27 (nI_clamp (n := ((6 * lv) + vi1)) (by omega))) dX10_away_40 ?_
        refine zz_callS (As := [.int (c48 (21 + vi1)), .int (c27 ((6 * lv) + vi1))]) (rest := [.int vy6]) (wr := [((r 0), .inr (10, (zz_mo r [(0, j0), (2, j2), (4, j4), (10, j10), (11, j11), (12, j12), (13, j13), (14, j14), (15, j15), (16, j16), (17, j17), (18, (nI lv)), (19, j19), (20, j20), (34, j34), (40, j40), (44, j44), (47, j47), (50, j50), (51, j51), (56, j56), (61, j61)]))), ((r 26), .inl (G.2 0, 2, .inl c26)), ((r 27), .inl (G.2 0, 12, .inl c27)), ((r 48), .inl (G.2 0, 71, .inl c48))]) S hw hl.1 lX10_330 (c_x_roundOff l G (c48 (21 + vi1)) (c27 ((6 * lv) + vi1))) ⟨Nat.le_of_ble_eq_true rfl, Nat.le_of_ble_eq_true rfl⟩ ⟨Nat.le_of_ble_eq_true rfl, Nat.le_of_ble_eq_true rfl⟩ [] [0, 1, 2, 3] (by decide) rfl rfl (by decide) (by decide) rfl rfl (Nat.le_of_ble_eq_true rfl) dX10_away_41 ?_
        clear hw
        intro rr u H locs hp hw
        refine hp.elim fun rv_13 zg0 => zg0.elim fun zee1 zg1 => zg1.elim fun zee2 hq41_0 => ?_
        clear hp zg0 zg1
        subst zee1
        subst zee2
        replace hw : zz_w G A s [((r 0), .inr (10, (zz_mo r [(0, j0), (2, j2), (4, j4), (10, j10), (11, j11), (12, j12), (13, j13), (14, j14), (15, j15), (16, j16), (17, j17), (18, (nI lv)), (19, j19), (20, j20), (34, j34), (40, j40), (44, j44), (47, j47), (50, j50), (51, j51), (56, j56), (61, j61)]))), ((r 26), .inl (G.2 0, 2, .inl c26)), ((r 27), .inl (G.2 0, 12, .inl c27)), ((r 48), .inl (G.2 0, 71, .inl c48))] H _ := hw
        refine W.eq (g2 := F0 m 44 ls [.int rv_13, .int vy6]) rfl ?_
        refine W.eq (g2 := F0 m 44 ls [.int rv_13, .int vy6]) rfl ?_
        refine lv_iadd hx hb dX10_away_44 ?_
        refine lv_topi (fun z14 ez14 => ?_)
        refine lv_istore_n (lv' := [(1, .int z14), (2, .int (nI vi1)), (0, .ref (r 0))]) hx hb dX10_away_45 rfl hl (by decide) rfl (fun ls hl => ?_)
        refine lv_iinc (v := (nI (vi1 + 1))) (lv' := [(2, .int (nI (vi1 + 1))), (1, .int z14), (0, .ref (r 0))]) hx hb dX10_away_46 hl (k := 1) rfl (nI_add _ 1) (by decide) rfl (fun ls hl => ?_)
        refine lv_goto (tgt := 4) hx hb dX10_away_49 (by decide) ?_
        exact ih4 (vi1 + 1) z14 _ _ _ (by omega) (by omega) (zS_s hv4_10 (by assumption) hq41_0) hw (lv_sub hl [0, 1, 2] rfl)
  exact lp4_11 (pq + 1 - 0) 0 0 _ _ _ (by omega) (by omega) rfl hw (lv_sub hl [0, 1, 2] rfl)
theorem kd_ncX10_then : kd_ck 2099621084189339884893239652072147436576076783181668102745395446098425105173977372947476447675024132502287797218729661353590481944724679180032810 60 cX10_then.data.toList 0 = true := by decide +kernel
theorem dX10_then_0 : decode cX10_then 0 = .ok (.aload_n 0, 1) := kd_dk0 kd_o42 kd_ncX10_then rfl
theorem dX10_then_1 : decode cX10_then 1 = .ok (.iload_n 1, 1) := kd_dk0 kd_o27 kd_ncX10_then rfl
theorem dX10_then_2 : decode cX10_then 2 = .ok (.invokevirtual 382, 3) := kd_dk2 kd_o182 kd_ncX10_then rfl
theorem dX10_then_5 : decode cX10_then 5 = .ok (.ifCond .eq 19, 3) := kd_dj2 kd_o153 (w := 19) kd_ncX10_then rfl rfl
theorem dX10_then_8 : decode cX10_then 8 = .ok (.iload_n 2, 1) := kd_dk0 kd_o28 kd_ncX10_then rfl
theorem dX10_then_9 : decode cX10_then 9 = .ok (.invokestatic 394, 3) := kd_dk2 kd_o184 kd_ncX10_then rfl
theorem dX10_then_12 : decode cX10_then 12 = .ok (.ifCond .eq 12, 3) := kd_dj2 kd_o153 (w := 12) kd_ncX10_then rfl rfl
theorem dX10_then_15 : decode cX10_then 15 = .ok (.iload_n 3, 1) := kd_dk0 kd_o29 kd_ncX10_then rfl
theorem dX10_then_16 : decode cX10_then 16 = .ok (.iconst 0, 1) := kd_dk0 kd_o3 kd_ncX10_then rfl
theorem dX10_then_17 : decode cX10_then 17 = .ok (.iconst 1, 1) := kd_dk0 kd_o4 kd_ncX10_then rfl
theorem dX10_then_18 : decode cX10_then 18 = .ok (.invokestatic 313, 3) := kd_dk2 kd_o184 kd_ncX10_then rfl
theorem dX10_then_21 : decode cX10_then 21 = .ok (.ifCond .ne 5, 3) := kd_dj2 kd_o154 (w := 5) kd_ncX10_then rfl rfl
theorem dX10_then_24 : decode cX10_then 24 = .ok (.iconst (-1), 1) := kd_dk0 kd_o2 kd_ncX10_then rfl
theorem dX10_then_25 : decode cX10_then 25 = .ok (.ireturn, 1) := kd_dk0 kd_o172 kd_ncX10_then rfl
theorem dX10_then_26 : decode cX10_then 26 = .ok (.aload_n 0, 1) := kd_dk0 kd_o42 kd_ncX10_then rfl
theorem dX10_then_27 : decode cX10_then 27 = .ok (.invokevirtual 323, 3) := kd_dk2 kd_o182 kd_ncX10_then rfl
theorem dX10_then_30 : decode cX10_then 30 = .ok (.aload_n 0, 1) := kd_dk0 kd_o42 kd_ncX10_then rfl
theorem dX10_then_31 : decode cX10_then 31 = .ok (.iload_n 2, 1) := kd_dk0 kd_o28 kd_ncX10_then rfl
theorem dX10_then_32 : decode cX10_then 32 = .ok (.invokevirtual 397, 3) := kd_dk2 kd_o182 kd_ncX10_then rfl
theorem dX10_then_35 : decode cX10_then 35 = .ok (.iload_n 3, 1) := kd_dk0 kd_o29 kd_ncX10_then rfl
theorem dX10_then_36 : decode cX10_then 36 = .ok (.ifCond .ne 13, 3) := kd_dj2 kd_o154 (w := 13) kd_ncX10_then rfl rfl
theorem dX10_then_39 : decode cX10_then 39 = .ok (.aload_n 0, 1) := kd_dk0 kd_o42 kd_ncX10_then rfl
theorem dX10_then_40 : decode cX10_then 40 = .ok (.getfield 113, 3) := kd_dk2 kd_o180 kd_ncX10_then rfl
theorem dX10_then_43 : decode cX10_then 43 = .ok (.bipush 21, 2) := kd_dj1 kd_o16 (w := 21) kd_ncX10_then rfl rfl
theorem dX10_then_45 : decode cX10_then 45 = .ok (.iload_n 1, 1) := kd_dk0 kd_o27 kd_ncX10_then rfl
theorem dX10_then_46 : decode cX10_then 46 = .ok (.iadd, 1) := kd_dk0 kd_o96 kd_ncX10_then rfl
theorem dX10_then_47 : decode cX10_then 47 = .ok (.iaload, 1) := kd_dk0 kd_o46 kd_ncX10_then rfl
theorem dX10_then_48 : decode cX10_then 48 = .ok (.ireturn, 1) := kd_dk0 kd_o172 kd_ncX10_then rfl
theorem dX10_then_49 : decode cX10_then 49 = .ok (.aload_n 0, 1) := kd_dk0 kd_o42 kd_ncX10_then rfl
theorem dX10_then_50 : decode cX10_then 50 = .ok (.invokevirtual 351, 3) := kd_dk2 kd_o182 kd_ncX10_then rfl
theorem dX10_then_53 : decode cX10_then 53 = .ok (.aload_n 0, 1) := kd_dk0 kd_o42 kd_ncX10_then rfl
theorem dX10_then_54 : decode cX10_then 54 = .ok (.getfield 116, 3) := kd_dk2 kd_o180 kd_ncX10_then rfl
theorem dX10_then_57 : decode cX10_then 57 = .ok (.iload_n 1, 1) := kd_dk0 kd_o27 kd_ncX10_then rfl
theorem dX10_then_58 : decode cX10_then 58 = .ok (.iaload, 1) := kd_dk0 kd_o46 kd_ncX10_then rfl
theorem dX10_then_59 : decode cX10_then 59 = .ok (.ireturn, 1) := kd_dk0 kd_o172 kd_ncX10_then rfl
set_option maxHeartbeats 8000000 in
set_option maxRecDepth 100000 in
theorem c_x_then (l : Launch) (G : zz_G) (r : Nat → Nat) (j0 : Int32) (j2 : Int32) (j4 : Int32) (j10 : Int32) (j11 : Int32) (j12 : Int32) (j13 : Int32) (j14 : Int32) (j15 : Int32) (j16 : Int32) (j17 : Int32) (j19 : Int32) (j20 : Int32) (j34 : Int32) (j40 : Int32) (j44 : Int32) (j47 : Int32) (j50 : Int32) (j51 : Int32) (j56 : Int32) (j61 : Int32) (lv : Nat) (pp : Nat) (pq : Nat) (c22 : Nat → Int32) (c24 : Nat → Int32) (c25 : Nat → Int32) (c26 : Nat → Int32) (c28 : Nat → Int32) (c29 : Nat → Int32) (c30 : Nat → Int32) (c31 : Nat → Int32) (c32 : Nat → Int32) (c33 : Nat → Int32) (c35 : Nat → Int32) (c36 : Nat → Int32) (c37 : Nat → Int32) (c38 : Nat → Int32) (c39 : Nat → Int32) (c41 : Nat → Int32) (c42 : Nat → Int32) (c45 : Nat → Int32) (c46 : Nat → Int32) (c48 : Nat → Int32) (c49 : Nat → Int32) (c52 : Nat → Int32) (c53 : Nat → Int32) (c54 : Nat → Int32) (c55 : Nat → Int32) (ar1 : Int32) (ar2 : Int32) (ar3 : Int32) (hlv : lv ≤ 1) (hpe : c22 lv = nI pp) (hpp : pp ≤ 7) (hpa : c26 lv = nI pq) (hpq : pq ≤ 6) (hlw : zz_LW 2 0 0 c32 c33 c35 c36 c37 c38 c39 c41 c42) (hca : ∀ j, j < 6 → zz_ok 7 (c52 j)) : zz_M l G mX10_then 7 0 0 [.ref (r 0), .int ar1, .int ar2, .int ar3] [((r 0), .inr (10, (zz_mo r [(0, j0), (2, j2), (4, j4), (10, j10), (11, j11), (12, j12), (13, j13), (14, j14), (15, j15), (16, j16), (17, j17), (18, (nI lv)), (19, j19), (20, j20), (34, j34), (40, j40), (44, j44), (47, j47), (50, j50), (51, j51), (56, j56), (61, j61)]))), ((r 22), .inl (G.2 0, 2, .inl c22)), ((r 24), .inl (G.2 0, 14, .inl c24)), ((r 25), .inl (G.2 0, 14, .inl c25)), ((r 26), .inl (G.2 0, 2, .inl c26)), ((r 28), .inl (G.2 0, 12, .inl c28)), ((r 29), .inl (G.2 0, 12, .inl c29)), ((r 30), .inl (G.2 0, 2, .inl c30)), ((r 31), .inl (G.2 0, 2, .inl c31)), ((r 32), .inl (G.2 0, 8, .inl c32)), ((r 33), .inl (G.2 0, 8, .inl c33)), ((r 35), .inl (G.2 2, 260, .inl c35)), ((r 36), .inl (G.2 0, 260, .inl c36)), ((r 37), .inl (G.2 0, 260, .inl c37)), ((r 38), .inl (G.2 0, 260, .inl c38)), ((r 39), .inl (G.2 0, 260, .inl c39)), ((r 41), .inl (G.2 0, 840, .inl c41)), ((r 42), .inl (G.2 0, 840, .inl c42)), ((r 45), .inl (G.2 0, 9, .inl c45)), ((r 46), .inl (G.2 0, 400, .inl c46)), ((r 48), .inl (G.2 0, 71, .inl c48)), ((r 49), .inl (G.2 0, 71, .inl c49)), ((r 52), .inl (G.2 0, 6, .inl c52)), ((r 53), .inl (G.2 2, 6, .inl c53)), ((r 54), .inl (G.2 2, 6, .inl c54)), ((r 55), .inl (G.2 0, 6, .inl c55))] (fun rr u => ∃ (rv : Int32), ∃ (k47 : Int32), ∃ (k50 : Int32), ∃ (k51 : Int32), ∃ (d45 : Nat → Int32), ∃ (d46 : Nat → Int32), ∃ (d49 : Nat → Int32), ∃ (d52 : Nat → Int32), ∃ (d53 : Nat → Int32), ∃ (d54 : Nat → Int32), ∃ (d55 : Nat → Int32), rr = some (.int rv) ∧ u = [((r 0), .inr (10, (zz_mo r [(0, j0), (2, j2), (4, j4), (10, j10), (11, j11), (12, j12), (13, j13), (14, j14), (15, j15), (16, j16), (17, j17), (18, (nI lv)), (19, j19), (20, j20), (34, j34), (40, j40), (44, j44), (47, k47), (50, k50), (51, k51), (56, j56), (61, j61)]))), ((r 22), .inl (G.2 0, 2, .inl c22)), ((r 24), .inl (G.2 0, 14, .inl c24)), ((r 25), .inl (G.2 0, 14, .inl c25)), ((r 26), .inl (G.2 0, 2, .inl c26)), ((r 28), .inl (G.2 0, 12, .inl c28)), ((r 29), .inl (G.2 0, 12, .inl c29)), ((r 30), .inl (G.2 0, 2, .inl c30)), ((r 31), .inl (G.2 0, 2, .inl c31)), ((r 32), .inl (G.2 0, 8, .inl c32)), ((r 33), .inl (G.2 0, 8, .inl c33)), ((r 35), .inl (G.2 2, 260, .inl c35)), ((r 36), .inl (G.2 0, 260, .inl c36)), ((r 37), .inl (G.2 0, 260, .inl c37)), ((r 38), .inl (G.2 0, 260, .inl c38)), ((r 39), .inl (G.2 0, 260, .inl c39)), ((r 41), .inl (G.2 0, 840, .inl c41)), ((r 42), .inl (G.2 0, 840, .inl c42)), ((r 45), .inl (G.2 0, 9, .inl d45)), ((r 46), .inl (G.2 0, 400, .inl d46)), ((r 48), .inl (G.2 0, 71, .inl c48)), ((r 49), .inl (G.2 0, 71, .inl d49)), ((r 52), .inl (G.2 0, 6, .inl d52)), ((r 53), .inl (G.2 2, 6, .inl d53)), ((r 54), .inl (G.2 2, 6, .inl d54)), ((r 55), .inl (G.2 0, 6, .inl d55))] ∧ (zA (zz_In pq ar1 ∧ zz_In 61 ar2 ∧ zz_In 2 ar3) (∃ p k : Nat, p < pq ∧ k ≤ 60 ∧ ar1 = nI p ∧ ar2 = nI k ∧ zA_R (zr_go (zr_HD lv c32 c33 c35 c36 c37 c38 c39 c41 c42 (c30 lv)) lv c24 c28 c25 c29 (c30 lv) (c31 lv) 0 pp pq) c48 k (fun τ => (ar3 = nI 0 ∧ rv = τ (21 + p)) ∨ (ar3 = nI 1 ∧ ∃ C, zr_FX (zr_HD lv c32 c33 c35 c36 c37 c38 c39 c41 c42 (c30 lv)) (fun Λ => zr_Sx 99 lv τ c24 c28 c25 c29 (Λ 0)) (fun a => τ (14 + a) = 1) (c30 lv) pp pq C ∧ rv = C p))) rv (-1)) ∧ (∀ j, j < 6 → zz_ok 7 (d52 j))) := by
  refine zz_enteri (by decide +kernel) (Nat.le_of_ble_eq_true rfl) ?_
  intro p e s m args below meth c A Q ls S hnm hret hw hl
  have hl : lv_has ls 4 [(0, .ref (r 0)), (1, .int ar1), (2, .int ar2), (3, .int ar3)] := hl
  have hx := S.1
  have hb := S.2.1
  refine lv_aload_n hx hb dX10_then_0 rfl (lv_at hl 0 rfl) ?_
  refine lv_iload_n hx hb dX10_then_1 rfl (lv_at hl 1 rfl) ?_
  refine zz_callV (qb := 0) (As := [.int ar1]) (rest := []) (wr := [((r 22), .inl (G.2 0, 2, .inl c22)), ((r 24), .inl (G.2 0, 14, .inl c24)), ((r 25), .inl (G.2 0, 14, .inl c25)), ((r 28), .inl (G.2 0, 12, .inl c28)), ((r 29), .inl (G.2 0, 12, .inl c29)), ((r 30), .inl (G.2 0, 2, .inl c30)), ((r 31), .inl (G.2 0, 2, .inl c31)), ((r 32), .inl (G.2 0, 8, .inl c32)), ((r 33), .inl (G.2 0, 8, .inl c33)), ((r 35), .inl (G.2 2, 260, .inl c35)), ((r 36), .inl (G.2 0, 260, .inl c36)), ((r 37), .inl (G.2 0, 260, .inl c37)), ((r 38), .inl (G.2 0, 260, .inl c38)), ((r 39), .inl (G.2 0, 260, .inl c39)), ((r 41), .inl (G.2 0, 840, .inl c41)), ((r 42), .inl (G.2 0, 840, .inl c42)), ((r 45), .inl (G.2 0, 9, .inl c45)), ((r 46), .inl (G.2 0, 400, .inl c46)), ((r 48), .inl (G.2 0, 71, .inl c48)), ((r 49), .inl (G.2 0, 71, .inl c49)), ((r 52), .inl (G.2 0, 6, .inl c52)), ((r 53), .inl (G.2 2, 6, .inl c53)), ((r 54), .inl (G.2 2, 6, .inl c54)), ((r 55), .inl (G.2 0, 6, .inl c55))]) S hw hl.1 lX10_382 (c_x_isPart l G r j0 j2 j4 j10 j11 j12 j13 j14 j15 j16 j17 j19 j20 j34 j40 j44 j47 j50 j51 j56 j61 lv pq c26 ar1 (by first | assumption | omega | exact Or.inr ⟨_, by omega, rfl⟩ | (unfold zz_sok; decide) | decide | exact (fun j hj => (hv7 j hj).1)) (by first | assumption | omega | exact Or.inr ⟨_, by omega, rfl⟩ | (unfold zz_sok; decide) | decide | exact (fun j hj => (hv7 j hj).1)) (by first | assumption | omega | exact Or.inr ⟨_, by omega, rfl⟩ | (unfold zz_sok; decide) | decide | exact (fun j hj => (hv7 j hj).1))) ⟨Nat.le_of_ble_eq_true rfl, Nat.le_of_ble_eq_true rfl⟩ ⟨Nat.le_of_ble_eq_true rfl, Nat.le_of_ble_eq_true rfl⟩ [0, 4] [1, 2, 3, 5, 6, 7, 8, 9, 10, 11, 12, 13, 14, 15, 16, 17, 18, 19, 20, 21, 22, 23, 24, 25] (by decide +kernel) rfl rfl (by decide +kernel) (by decide +kernel) rfl rfl rfl rfl (Nat.le_of_ble_eq_true rfl) dX10_then_2 ?_
  clear hw
  intro rr u H locs hp hw
  refine hp.elim fun rv_1 zg0 => zg0.elim fun zee1 zg1 => zg1.elim fun zee2 zg2 => zg2.elim fun hq2_0 zg3 => zg3.elim fun hq2_1 hq2_2 => ?_
  clear hp zg0 zg1 zg2 zg3
  subst zee1
  subst zee2
  replace hw : zz_w G A s [((r 22), .inl (G.2 0, 2, .inl c22)), ((r 24), .inl (G.2 0, 14, .inl c24)), ((r 25), .inl (G.2 0, 14, .inl c25)), ((r 28), .inl (G.2 0, 12, .inl c28)), ((r 29), .inl (G.2 0, 12, .inl c29)), ((r 30), .inl (G.2 0, 2, .inl c30)), ((r 31), .inl (G.2 0, 2, .inl c31)), ((r 32), .inl (G.2 0, 8, .inl c32)), ((r 33), .inl (G.2 0, 8, .inl c33)), ((r 35), .inl (G.2 2, 260, .inl c35)), ((r 36), .inl (G.2 0, 260, .inl c36)), ((r 37), .inl (G.2 0, 260, .inl c37)), ((r 38), .inl (G.2 0, 260, .inl c38)), ((r 39), .inl (G.2 0, 260, .inl c39)), ((r 41), .inl (G.2 0, 840, .inl c41)), ((r 42), .inl (G.2 0, 840, .inl c42)), ((r 45), .inl (G.2 0, 9, .inl c45)), ((r 46), .inl (G.2 0, 400, .inl c46)), ((r 48), .inl (G.2 0, 71, .inl c48)), ((r 49), .inl (G.2 0, 71, .inl c49)), ((r 52), .inl (G.2 0, 6, .inl c52)), ((r 53), .inl (G.2 2, 6, .inl c53)), ((r 54), .inl (G.2 2, 6, .inl c54)), ((r 55), .inl (G.2 0, 6, .inl c55)), ((r 0), .inr (10, (zz_mo r [(0, j0), (2, j2), (4, j4), (10, j10), (11, j11), (12, j12), (13, j13), (14, j14), (15, j15), (16, j16), (17, j17), (18, (nI lv)), (19, j19), (20, j20), (34, j34), (40, j40), (44, j44), (47, j47), (50, j50), (51, j51), (56, j56), (61, j61)]))), ((r 26), .inl (G.2 0, 2, .inl c26))] H _ := hw
  refine W.eq (g2 := F0 m 5 ls [.int rv_1]) rfl ?_
  refine lv_if_eq (tgt := 24) hx hb dX10_then_5 (by decide) (fun c5_2 => ?_) (fun c5_2 => ?_)
  · skip
    refine lv_iconst (v := (-1)) hx hb dX10_then_24 (by decide) ?_
    exact hret _ _ _ _ _ _ ⟨(-1), j47, j50, j51, c45, c46, c49, c52, c53, c54, c55, rfl, rfl, (by first | exact zA0 (fun z => hq2_1 (by assumption) z.1) | exact zA0 (fun z => hq9_1 (by assumption) z.2.1) | exact zA0 (fun z => zz_innI (n := 1) (by omega) hq18_1 (by assumption) z.2.2) | exact zA1 ⟨⟨_, by assumption, rfl⟩, ⟨_, by omega, rfl⟩, ⟨_, by omega, rfl⟩⟩ ⟨_, _, by assumption, by assumption, rfl, rfl, _, _, hq27_0, zy_gos hq27_1 hq27_2 hq32_0, Or.inl ⟨zA_k (by omega), rfl⟩⟩ | exact zA1 ⟨⟨_, by assumption, rfl⟩, ⟨_, by omega, rfl⟩, ⟨_, by omega, rfl⟩⟩ ⟨_, _, by assumption, by assumption, rfl, rfl, _, _, hq27_0, zy_gos hq27_1 hq27_2 hq32_0, Or.inr ⟨zA_k (by omega), _, hq50_0, Eq.symm (by assumption)⟩⟩), (by first | assumption | exact Or.inl rfl | exact Or.inr rfl | omega | exact Or.inr (by assumption) | exact zz_oku (by assumption) (by first | exact Or.inl rfl | exact Or.inr ⟨_, by omega, rfl⟩))⟩ (hw.sub [24, 0, 1, 2, 25, 3, 4, 5, 6, 7, 8, 9, 10, 11, 12, 13, 14, 15, 16, 17, 18, 19, 20, 21, 22, 23] (by decide +kernel) rfl) rfl dX10_then_25
  · skip
    obtain ⟨vq3, hvq3, rfl⟩ := hq2_0.resolve_left c5_2
    refine lv_iload_n hx hb dX10_then_8 rfl (lv_at hl 2 rfl) ?_
    refine zz_callS (As := [.int ar2]) (rest := []) (wr := [((r 22), .inl (G.2 0, 2, .inl c22)), ((r 24), .inl (G.2 0, 14, .inl c24)), ((r 25), .inl (G.2 0, 14, .inl c25)), ((r 28), .inl (G.2 0, 12, .inl c28)), ((r 29), .inl (G.2 0, 12, .inl c29)), ((r 30), .inl (G.2 0, 2, .inl c30)), ((r 31), .inl (G.2 0, 2, .inl c31)), ((r 32), .inl (G.2 0, 8, .inl c32)), ((r 33), .inl (G.2 0, 8, .inl c33)), ((r 35), .inl (G.2 2, 260, .inl c35)), ((r 36), .inl (G.2 0, 260, .inl c36)), ((r 37), .inl (G.2 0, 260, .inl c37)), ((r 38), .inl (G.2 0, 260, .inl c38)), ((r 39), .inl (G.2 0, 260, .inl c39)), ((r 41), .inl (G.2 0, 840, .inl c41)), ((r 42), .inl (G.2 0, 840, .inl c42)), ((r 45), .inl (G.2 0, 9, .inl c45)), ((r 46), .inl (G.2 0, 400, .inl c46)), ((r 48), .inl (G.2 0, 71, .inl c48)), ((r 49), .inl (G.2 0, 71, .inl c49)), ((r 52), .inl (G.2 0, 6, .inl c52)), ((r 53), .inl (G.2 2, 6, .inl c53)), ((r 54), .inl (G.2 2, 6, .inl c54)), ((r 55), .inl (G.2 0, 6, .inl c55)), ((r 0), .inr (10, (zz_mo r [(0, j0), (2, j2), (4, j4), (10, j10), (11, j11), (12, j12), (13, j13), (14, j14), (15, j15), (16, j16), (17, j17), (18, (nI lv)), (19, j19), (20, j20), (34, j34), (40, j40), (44, j44), (47, j47), (50, j50), (51, j51), (56, j56), (61, j61)]))), ((r 26), .inl (G.2 0, 2, .inl c26))]) S hw hl.1 lX10_394 (c_x_isLong l G ar2) ⟨Nat.le_of_ble_eq_true rfl, Nat.le_of_ble_eq_true rfl⟩ ⟨Nat.le_of_ble_eq_true rfl, Nat.le_of_ble_eq_true rfl⟩ [] [0, 1, 2, 3, 4, 5, 6, 7, 8, 9, 10, 11, 12, 13, 14, 15, 16, 17, 18, 19, 20, 21, 22, 23, 24, 25] (by decide +kernel) rfl rfl (by decide +kernel) (by decide +kernel) rfl rfl (Nat.le_of_ble_eq_true rfl) dX10_then_9 ?_
    clear hw
    intro rr u H locs hp hw
    refine hp.elim fun rv_4 zg0 => zg0.elim fun zee1 zg1 => zg1.elim fun zee2 zg2 => zg2.elim fun hq9_0 zg3 => zg3.elim fun hq9_1 hq9_2 => ?_
    clear hp zg0 zg1 zg2 zg3
    subst zee1
    subst zee2
    replace hw : zz_w G A s [((r 22), .inl (G.2 0, 2, .inl c22)), ((r 24), .inl (G.2 0, 14, .inl c24)), ((r 25), .inl (G.2 0, 14, .inl c25)), ((r 28), .inl (G.2 0, 12, .inl c28)), ((r 29), .inl (G.2 0, 12, .inl c29)), ((r 30), .inl (G.2 0, 2, .inl c30)), ((r 31), .inl (G.2 0, 2, .inl c31)), ((r 32), .inl (G.2 0, 8, .inl c32)), ((r 33), .inl (G.2 0, 8, .inl c33)), ((r 35), .inl (G.2 2, 260, .inl c35)), ((r 36), .inl (G.2 0, 260, .inl c36)), ((r 37), .inl (G.2 0, 260, .inl c37)), ((r 38), .inl (G.2 0, 260, .inl c38)), ((r 39), .inl (G.2 0, 260, .inl c39)), ((r 41), .inl (G.2 0, 840, .inl c41)), ((r 42), .inl (G.2 0, 840, .inl c42)), ((r 45), .inl (G.2 0, 9, .inl c45)), ((r 46), .inl (G.2 0, 400, .inl c46)), ((r 48), .inl (G.2 0, 71, .inl c48)), ((r 49), .inl (G.2 0, 71, .inl c49)), ((r 52), .inl (G.2 0, 6, .inl c52)), ((r 53), .inl (G.2 2, 6, .inl c53)), ((r 54), .inl (G.2 2, 6, .inl c54)), ((r 55), .inl (G.2 0, 6, .inl c55)), ((r 0), .inr (10, (zz_mo r [(0, j0), (2, j2), (4, j4), (10, j10), (11, j11), (12, j12), (13, j13), (14, j14), (15, j15), (16, j16), (17, j17), (18, (nI lv)), (19, j19), (20, j20), (34, j34), (40, j40), (44, j44), (47, j47), (50, j50), (51, j51), (56, j56), (61, j61)]))), ((r 26), .inl (G.2 0, 2, .inl c26))] H _ := hw
    refine W.eq (g2 := F0 m 12 ls [.int rv_4]) rfl ?_
    refine lv_if_eq (tgt := 24) hx hb dX10_then_12 (by decide) (fun c12_5 => ?_) (fun c12_5 => ?_)
    · skip
      refine lv_iconst (v := (-1)) hx hb dX10_then_24 (by decide) ?_
      exact hret _ _ _ _ _ _ ⟨(-1), j47, j50, j51, c45, c46, c49, c52, c53, c54, c55, rfl, rfl, (by first | exact zA0 (fun z => hq2_1 (by assumption) z.1) | exact zA0 (fun z => hq9_1 (by assumption) z.2.1) | exact zA0 (fun z => zz_innI (n := 1) (by omega) hq18_1 (by assumption) z.2.2) | exact zA1 ⟨⟨_, by assumption, rfl⟩, ⟨_, by omega, rfl⟩, ⟨_, by omega, rfl⟩⟩ ⟨_, _, by assumption, by assumption, rfl, rfl, _, _, hq27_0, zy_gos hq27_1 hq27_2 hq32_0, Or.inl ⟨zA_k (by omega), rfl⟩⟩ | exact zA1 ⟨⟨_, by assumption, rfl⟩, ⟨_, by omega, rfl⟩, ⟨_, by omega, rfl⟩⟩ ⟨_, _, by assumption, by assumption, rfl, rfl, _, _, hq27_0, zy_gos hq27_1 hq27_2 hq32_0, Or.inr ⟨zA_k (by omega), _, hq50_0, Eq.symm (by assumption)⟩⟩), (by first | assumption | exact Or.inl rfl | exact Or.inr rfl | omega | exact Or.inr (by assumption) | exact zz_oku (by assumption) (by first | exact Or.inl rfl | exact Or.inr ⟨_, by omega, rfl⟩))⟩ (hw.sub [24, 0, 1, 2, 25, 3, 4, 5, 6, 7, 8, 9, 10, 11, 12, 13, 14, 15, 16, 17, 18, 19, 20, 21, 22, 23] (by decide +kernel) rfl) rfl dX10_then_25
    · skip
      obtain ⟨vq6, hvq6, rfl⟩ := hq9_0.resolve_left c12_5
      refine lv_iload_n hx hb dX10_then_15 rfl (lv_at hl 3 rfl) ?_
      refine lv_iconst (v := 0) hx hb dX10_then_16 (by decide) ?_
      refine lv_iconst (v := 1) hx hb dX10_then_17 (by decide) ?_
      refine zz_callS (As := [.int ar3, .int 0, .int 1]) (rest := []) (wr := [((r 22), .inl (G.2 0, 2, .inl c22)), ((r 24), .inl (G.2 0, 14, .inl c24)), ((r 25), .inl (G.2 0, 14, .inl c25)), ((r 28), .inl (G.2 0, 12, .inl c28)), ((r 29), .inl (G.2 0, 12, .inl c29)), ((r 30), .inl (G.2 0, 2, .inl c30)), ((r 31), .inl (G.2 0, 2, .inl c31)), ((r 32), .inl (G.2 0, 8, .inl c32)), ((r 33), .inl (G.2 0, 8, .inl c33)), ((r 35), .inl (G.2 2, 260, .inl c35)), ((r 36), .inl (G.2 0, 260, .inl c36)), ((r 37), .inl (G.2 0, 260, .inl c37)), ((r 38), .inl (G.2 0, 260, .inl c38)), ((r 39), .inl (G.2 0, 260, .inl c39)), ((r 41), .inl (G.2 0, 840, .inl c41)), ((r 42), .inl (G.2 0, 840, .inl c42)), ((r 45), .inl (G.2 0, 9, .inl c45)), ((r 46), .inl (G.2 0, 400, .inl c46)), ((r 48), .inl (G.2 0, 71, .inl c48)), ((r 49), .inl (G.2 0, 71, .inl c49)), ((r 52), .inl (G.2 0, 6, .inl c52)), ((r 53), .inl (G.2 2, 6, .inl c53)), ((r 54), .inl (G.2 2, 6, .inl c54)), ((r 55), .inl (G.2 0, 6, .inl c55)), ((r 0), .inr (10, (zz_mo r [(0, j0), (2, j2), (4, j4), (10, j10), (11, j11), (12, j12), (13, j13), (14, j14), (15, j15), (16, j16), (17, j17), (18, (nI lv)), (19, j19), (20, j20), (34, j34), (40, j40), (44, j44), (47, j47), (50, j50), (51, j51), (56, j56), (61, j61)]))), ((r 26), .inl (G.2 0, 2, .inl c26))]) S hw hl.1 lX10_313 (c_x_in l G ar3 0 1) ⟨Nat.le_of_ble_eq_true rfl, Nat.le_of_ble_eq_true rfl⟩ ⟨Nat.le_of_ble_eq_true rfl, Nat.le_of_ble_eq_true rfl⟩ [] [0, 1, 2, 3, 4, 5, 6, 7, 8, 9, 10, 11, 12, 13, 14, 15, 16, 17, 18, 19, 20, 21, 22, 23, 24, 25] (by decide +kernel) rfl rfl (by decide +kernel) (by decide +kernel) rfl rfl (Nat.le_of_ble_eq_true rfl) dX10_then_18 ?_
      clear hw
      intro rr u H locs hp hw
      refine hp.elim fun rv_7 zg0 => zg0.elim fun zee1 zg1 => zg1.elim fun zee2 zg2 => zg2.elim fun hq18_0 zg3 => zg3.elim fun hq18_1 hq18_2 => ?_
      clear hp zg0 zg1 zg2 zg3
      subst zee1
      subst zee2
      replace hw : zz_w G A s [((r 22), .inl (G.2 0, 2, .inl c22)), ((r 24), .inl (G.2 0, 14, .inl c24)), ((r 25), .inl (G.2 0, 14, .inl c25)), ((r 28), .inl (G.2 0, 12, .inl c28)), ((r 29), .inl (G.2 0, 12, .inl c29)), ((r 30), .inl (G.2 0, 2, .inl c30)), ((r 31), .inl (G.2 0, 2, .inl c31)), ((r 32), .inl (G.2 0, 8, .inl c32)), ((r 33), .inl (G.2 0, 8, .inl c33)), ((r 35), .inl (G.2 2, 260, .inl c35)), ((r 36), .inl (G.2 0, 260, .inl c36)), ((r 37), .inl (G.2 0, 260, .inl c37)), ((r 38), .inl (G.2 0, 260, .inl c38)), ((r 39), .inl (G.2 0, 260, .inl c39)), ((r 41), .inl (G.2 0, 840, .inl c41)), ((r 42), .inl (G.2 0, 840, .inl c42)), ((r 45), .inl (G.2 0, 9, .inl c45)), ((r 46), .inl (G.2 0, 400, .inl c46)), ((r 48), .inl (G.2 0, 71, .inl c48)), ((r 49), .inl (G.2 0, 71, .inl c49)), ((r 52), .inl (G.2 0, 6, .inl c52)), ((r 53), .inl (G.2 2, 6, .inl c53)), ((r 54), .inl (G.2 2, 6, .inl c54)), ((r 55), .inl (G.2 0, 6, .inl c55)), ((r 0), .inr (10, (zz_mo r [(0, j0), (2, j2), (4, j4), (10, j10), (11, j11), (12, j12), (13, j13), (14, j14), (15, j15), (16, j16), (17, j17), (18, (nI lv)), (19, j19), (20, j20), (34, j34), (40, j40), (44, j44), (47, j47), (50, j50), (51, j51), (56, j56), (61, j61)]))), ((r 26), .inl (G.2 0, 2, .inl c26))] H _ := hw
      refine W.eq (g2 := F0 m 21 ls [.int rv_7]) rfl ?_
      refine lv_if_ne (tgt := 26) hx hb dX10_then_21 (by decide) (fun c21_8 => ?_) (fun c21_8 => ?_)
      · skip
        have hq18_0i := hq18_0.resolve_left c21_8
        obtain ⟨vq9, hvq9, rfl⟩ : ∃ k : Nat, k ≤ 1 ∧ ar3 = nI k := zz_rng (zz_lo0 hq18_0i.1) hq18_0i.2 (by omega)
        refine lv_aload_n hx hb dX10_then_26 rfl (lv_at hl 0 rfl) ?_
        refine zz_callV (qb := 24) (As := []) (rest := []) (wr := [((r 22), .inl (G.2 0, 2, .inl c22)), ((r 24), .inl (G.2 0, 14, .inl c24)), ((r 25), .inl (G.2 0, 14, .inl c25)), ((r 28), .inl (G.2 0, 12, .inl c28)), ((r 29), .inl (G.2 0, 12, .inl c29)), ((r 30), .inl (G.2 0, 2, .inl c30)), ((r 32), .inl (G.2 0, 8, .inl c32)), ((r 33), .inl (G.2 0, 8, .inl c33)), ((r 35), .inl (G.2 2, 260, .inl c35)), ((r 36), .inl (G.2 0, 260, .inl c36)), ((r 37), .inl (G.2 0, 260, .inl c37)), ((r 38), .inl (G.2 0, 260, .inl c38)), ((r 39), .inl (G.2 0, 260, .inl c39)), ((r 41), .inl (G.2 0, 840, .inl c41)), ((r 42), .inl (G.2 0, 840, .inl c42)), ((r 45), .inl (G.2 0, 9, .inl c45)), ((r 46), .inl (G.2 0, 400, .inl c46)), ((r 52), .inl (G.2 0, 6, .inl c52)), ((r 53), .inl (G.2 2, 6, .inl c53)), ((r 54), .inl (G.2 2, 6, .inl c54)), ((r 55), .inl (G.2 0, 6, .inl c55)), ((r 26), .inl (G.2 0, 2, .inl c26))]) S hw hl.1 lX10_323 (c_x_copies l G r j0 j2 j4 j10 j11 j12 j13 j14 j15 j16 j17 j19 j20 j34 j40 j44 j47 j50 j51 j56 j61 lv c31 c48 c49 (by first | assumption | omega | exact Or.inr ⟨_, by omega, rfl⟩ | (unfold zz_sok; decide) | decide | exact (fun j hj => (hv7 j hj).1))) ⟨Nat.le_of_ble_eq_true rfl, Nat.le_of_ble_eq_true rfl⟩ ⟨Nat.le_of_ble_eq_true rfl, Nat.le_of_ble_eq_true rfl⟩ [24, 6, 18, 19] [0, 1, 2, 3, 4, 5, 7, 8, 9, 10, 11, 12, 13, 14, 15, 16, 17, 20, 21, 22, 23, 25] (by decide +kernel) rfl rfl (by decide +kernel) (by decide +kernel) rfl rfl rfl rfl (Nat.le_of_ble_eq_true rfl) dX10_then_27 ?_
        clear hw
        intro rr u H locs hp hw
        refine hp.elim fun k50_10 zg0 => zg0.elim fun k51_11 zg1 => zg1.elim fun d49_12 zg2 => zg2.elim fun zee1 zg3 => zg3.elim fun zee2 zg4 => zg4.elim fun hq27_0 zg5 => zg5.elim fun hq27_1 hq27_2 => ?_
        clear hp zg0 zg1 zg2 zg3 zg4 zg5
        subst zee1
        subst zee2
        replace hw : zz_w G A s [((r 22), .inl (G.2 0, 2, .inl c22)), ((r 24), .inl (G.2 0, 14, .inl c24)), ((r 25), .inl (G.2 0, 14, .inl c25)), ((r 28), .inl (G.2 0, 12, .inl c28)), ((r 29), .inl (G.2 0, 12, .inl c29)), ((r 30), .inl (G.2 0, 2, .inl c30)), ((r 32), .inl (G.2 0, 8, .inl c32)), ((r 33), .inl (G.2 0, 8, .inl c33)), ((r 35), .inl (G.2 2, 260, .inl c35)), ((r 36), .inl (G.2 0, 260, .inl c36)), ((r 37), .inl (G.2 0, 260, .inl c37)), ((r 38), .inl (G.2 0, 260, .inl c38)), ((r 39), .inl (G.2 0, 260, .inl c39)), ((r 41), .inl (G.2 0, 840, .inl c41)), ((r 42), .inl (G.2 0, 840, .inl c42)), ((r 45), .inl (G.2 0, 9, .inl c45)), ((r 46), .inl (G.2 0, 400, .inl c46)), ((r 52), .inl (G.2 0, 6, .inl c52)), ((r 53), .inl (G.2 2, 6, .inl c53)), ((r 54), .inl (G.2 2, 6, .inl c54)), ((r 55), .inl (G.2 0, 6, .inl c55)), ((r 26), .inl (G.2 0, 2, .inl c26)), ((r 0), .inr (10, (zz_mo r [(0, j0), (2, j2), (4, j4), (10, j10), (11, j11), (12, j12), (13, j13), (14, j14), (15, j15), (16, j16), (17, j17), (18, (nI lv)), (19, j19), (20, j20), (34, j34), (40, j40), (44, j44), (47, j47), (50, k50_10), (51, k51_11), (56, j56), (61, j61)]))), ((r 31), .inl (G.2 0, 2, .inl c31)), ((r 48), .inl (G.2 0, 71, .inl c48)), ((r 49), .inl (G.2 0, 71, .inl d49_12))] H _ := hw
        refine W.eq (g2 := F0 m 30 ls []) rfl ?_
        refine lv_aload_n hx hb dX10_then_30 rfl (lv_at hl 0 rfl) ?_
        refine W.eq (g2 := F0 m 31 ls [.ref (r 0)]) rfl ?_
        refine lv_iload_n hx hb dX10_then_31 rfl (lv_at hl 2 rfl) ?_
        refine zz_callV (qb := 22) (As := [.int (nI vq6)]) (rest := []) (wr := [((r 31), .inl (G.2 0, 2, .inl c31)), ((r 48), .inl (G.2 0, 71, .inl c48))]) S hw hl.1 lX10_397 (c_x_goes l G r j0 j2 j4 j10 j11 j12 j13 j14 j15 j16 j17 j19 j20 j34 j40 j44 j47 k50_10 k51_11 j56 j61 lv pp pq c22 c24 c25 c26 c28 c29 c30 c32 c33 c35 c36 c37 c38 c39 c41 c42 c45 c46 d49_12 c52 c53 c54 c55 vq6 (by first | assumption | omega | exact Or.inr ⟨_, by omega, rfl⟩ | (unfold zz_sok; decide) | decide | exact (fun j hj => (hv7 j hj).1)) (by first | assumption | omega | exact Or.inr ⟨_, by omega, rfl⟩ | (unfold zz_sok; decide) | decide | exact (fun j hj => (hv7 j hj).1)) (by first | assumption | omega | exact Or.inr ⟨_, by omega, rfl⟩ | (unfold zz_sok; decide) | decide | exact (fun j hj => (hv7 j hj).1)) (by first | assumption | omega | exact Or.inr ⟨_, by omega, rfl⟩ | (unfold zz_sok; decide) | decide | exact (fun j hj => (hv7 j hj).1)) (by first | assumption | omega | exact Or.inr ⟨_, by omega, rfl⟩ | (unfold zz_sok; decide) | decide | exact (fun j hj => (hv7 j hj).1)) (by first | assumption | omega | exact Or.inr ⟨_, by omega, rfl⟩ | (unfold zz_sok; decide) | decide | exact (fun j hj => (hv7 j hj).1)) (by first | assumption | omega | exact Or.inr ⟨_, by omega, rfl⟩ | (unfold zz_sok; decide) | decide | exact (fun j hj => (hv7 j hj).1)) (by first | assumption | omega | exact Or.inr ⟨_, by omega, rfl⟩ | (unfold zz_sok; decide) | decide | exact (fun j hj => (hv7 j hj).1))) ⟨Nat.le_of_ble_eq_true rfl, Nat.le_of_ble_eq_true rfl⟩ ⟨Nat.le_of_ble_eq_true rfl, Nat.le_of_ble_eq_true rfl⟩ [22, 0, 1, 2, 21, 3, 4, 5, 6, 7, 8, 9, 10, 11, 12, 13, 14, 15, 16, 25, 17, 18, 19, 20] [23, 24] (by decide +kernel) rfl rfl (by decide +kernel) (by decide +kernel) rfl rfl rfl rfl (Nat.le_of_ble_eq_true rfl) dX10_then_32 ?_
        clear hw
        intro rr u H locs hp hw
        refine hp.elim fun k47_13 zg0 => zg0.elim fun d45_14 zg1 => zg1.elim fun d46_15 zg2 => zg2.elim fun d49_16 zg3 => zg3.elim fun d52_17 zg4 => zg4.elim fun d53_18 zg5 => zg5.elim fun d54_19 zg6 => zg6.elim fun d55_20 zg7 => zg7.elim fun zee1 zg8 => zg8.elim fun zee2 zg9 => zg9.elim fun hq32_0 hq32_1 => ?_
        clear hp zg0 zg1 zg2 zg3 zg4 zg5 zg6 zg7 zg8 zg9
        subst zee1
        subst zee2
        replace hw : zz_w G A s [((r 31), .inl (G.2 0, 2, .inl c31)), ((r 48), .inl (G.2 0, 71, .inl c48)), ((r 0), .inr (10, (zz_mo r [(0, j0), (2, j2), (4, j4), (10, j10), (11, j11), (12, j12), (13, j13), (14, j14), (15, j15), (16, j16), (17, j17), (18, (nI lv)), (19, j19), (20, j20), (34, j34), (40, j40), (44, j44), (47, k47_13), (50, k50_10), (51, k51_11), (56, j56), (61, j61)]))), ((r 22), .inl (G.2 0, 2, .inl c22)), ((r 24), .inl (G.2 0, 14, .inl c24)), ((r 25), .inl (G.2 0, 14, .inl c25)), ((r 26), .inl (G.2 0, 2, .inl c26)), ((r 28), .inl (G.2 0, 12, .inl c28)), ((r 29), .inl (G.2 0, 12, .inl c29)), ((r 30), .inl (G.2 0, 2, .inl c30)), ((r 32), .inl (G.2 0, 8, .inl c32)), ((r 33), .inl (G.2 0, 8, .inl c33)), ((r 35), .inl (G.2 2, 260, .inl c35)), ((r 36), .inl (G.2 0, 260, .inl c36)), ((r 37), .inl (G.2 0, 260, .inl c37)), ((r 38), .inl (G.2 0, 260, .inl c38)), ((r 39), .inl (G.2 0, 260, .inl c39)), ((r 41), .inl (G.2 0, 840, .inl c41)), ((r 42), .inl (G.2 0, 840, .inl c42)), ((r 45), .inl (G.2 0, 9, .inl d45_14)), ((r 46), .inl (G.2 0, 400, .inl d46_15)), ((r 49), .inl (G.2 0, 71, .inl d49_16)), ((r 52), .inl (G.2 0, 6, .inl d52_17)), ((r 53), .inl (G.2 2, 6, .inl d53_18)), ((r 54), .inl (G.2 2, 6, .inl d54_19)), ((r 55), .inl (G.2 0, 6, .inl d55_20))] H _ := hw
        refine W.eq (g2 := F0 m 35 ls []) rfl ?_
        refine lv_iload_n hx hb dX10_then_35 rfl (lv_at hl 3 rfl) ?_
        refine lv_if_ne (tgt := 49) hx hb dX10_then_36 (by decide) (fun c36_21 => ?_) (fun c36_21 => ?_)
        · skip
          have c36_21n : ¬ (vq9 = 0) := fun z => c36_21 ((zz_eq (a := vq9) (b := 0) rfl rfl (by omega) (by omega)).mpr z)
          refine lv_aload_n hx hb dX10_then_49 rfl (lv_at hl 0 rfl) ?_
          refine zz_callV (qb := 2) (As := []) (rest := []) (wr := [((r 31), .inl (G.2 0, 2, .inl c31)), ((r 48), .inl (G.2 0, 71, .inl c48)), ((r 53), .inl (G.2 2, 6, .inl d53_18)), ((r 54), .inl (G.2 2, 6, .inl d54_19)), ((r 55), .inl (G.2 0, 6, .inl d55_20))]) S hw hl.1 lX10_351 (c_x_casts l G r j0 j2 j4 j10 j11 j12 j13 j14 j15 j16 j17 j19 j20 j34 j40 j44 k47_13 k50_10 k51_11 j56 j61 lv pp pq c22 c24 c25 c26 c28 c29 c30 c32 c33 c35 c36 c37 c38 c39 c41 c42 d45_14 d46_15 d49_16 d52_17 (by first | assumption | omega | exact Or.inr ⟨_, by omega, rfl⟩ | (unfold zz_sok; decide) | decide | exact (fun j hj => (hv7 j hj).1)) (by first | assumption | omega | exact Or.inr ⟨_, by omega, rfl⟩ | (unfold zz_sok; decide) | decide | exact (fun j hj => (hv7 j hj).1)) (by first | assumption | omega | exact Or.inr ⟨_, by omega, rfl⟩ | (unfold zz_sok; decide) | decide | exact (fun j hj => (hv7 j hj).1)) (by first | assumption | omega | exact Or.inr ⟨_, by omega, rfl⟩ | (unfold zz_sok; decide) | decide | exact (fun j hj => (hv7 j hj).1)) (by first | assumption | omega | exact Or.inr ⟨_, by omega, rfl⟩ | (unfold zz_sok; decide) | decide | exact (fun j hj => (hv7 j hj).1)) (by first | assumption | omega | exact Or.inr ⟨_, by omega, rfl⟩ | (unfold zz_sok; decide) | decide | exact (fun j hj => (hv7 j hj).1)) (by first | assumption | omega | exact Or.inr ⟨_, by omega, rfl⟩ | (unfold zz_sok; decide) | decide | exact (fun j hj => (hv7 j hj).1))) ⟨Nat.le_of_ble_eq_true rfl, Nat.le_of_ble_eq_true rfl⟩ ⟨Nat.le_of_ble_eq_true rfl, Nat.le_of_ble_eq_true rfl⟩ [2, 3, 4, 5, 6, 7, 8, 9, 10, 11, 12, 13, 14, 15, 16, 17, 18, 19, 20, 21, 22] [0, 1, 23, 24, 25] (by decide +kernel) rfl rfl (by decide +kernel) (by decide +kernel) rfl rfl rfl rfl (Nat.le_of_ble_eq_true rfl) dX10_then_50 ?_
          clear hw
          intro rr u H locs hp hw
          refine hp.elim fun k47_22 zg0 => zg0.elim fun d45_23 zg1 => zg1.elim fun d46_24 zg2 => zg2.elim fun d52_25 zg3 => zg3.elim fun zee1 zg4 => zg4.elim fun zee2 zg5 => zg5.elim fun hq50_0 hq50_1 => ?_
          clear hp zg0 zg1 zg2 zg3 zg4 zg5
          subst zee1
          subst zee2
          replace hw : zz_w G A s [((r 31), .inl (G.2 0, 2, .inl c31)), ((r 48), .inl (G.2 0, 71, .inl c48)), ((r 53), .inl (G.2 2, 6, .inl d53_18)), ((r 54), .inl (G.2 2, 6, .inl d54_19)), ((r 55), .inl (G.2 0, 6, .inl d55_20)), ((r 0), .inr (10, (zz_mo r [(0, j0), (2, j2), (4, j4), (10, j10), (11, j11), (12, j12), (13, j13), (14, j14), (15, j15), (16, j16), (17, j17), (18, (nI lv)), (19, j19), (20, j20), (34, j34), (40, j40), (44, j44), (47, k47_22), (50, k50_10), (51, k51_11), (56, j56), (61, j61)]))), ((r 22), .inl (G.2 0, 2, .inl c22)), ((r 24), .inl (G.2 0, 14, .inl c24)), ((r 25), .inl (G.2 0, 14, .inl c25)), ((r 26), .inl (G.2 0, 2, .inl c26)), ((r 28), .inl (G.2 0, 12, .inl c28)), ((r 29), .inl (G.2 0, 12, .inl c29)), ((r 30), .inl (G.2 0, 2, .inl c30)), ((r 32), .inl (G.2 0, 8, .inl c32)), ((r 33), .inl (G.2 0, 8, .inl c33)), ((r 35), .inl (G.2 2, 260, .inl c35)), ((r 36), .inl (G.2 0, 260, .inl c36)), ((r 37), .inl (G.2 0, 260, .inl c37)), ((r 38), .inl (G.2 0, 260, .inl c38)), ((r 39), .inl (G.2 0, 260, .inl c39)), ((r 41), .inl (G.2 0, 840, .inl c41)), ((r 42), .inl (G.2 0, 840, .inl c42)), ((r 45), .inl (G.2 0, 9, .inl d45_23)), ((r 46), .inl (G.2 0, 400, .inl d46_24)), ((r 49), .inl (G.2 0, 71, .inl d49_16)), ((r 52), .inl (G.2 0, 6, .inl d52_25))] H _ := hw
          refine W.eq (g2 := F0 m 53 ls []) rfl ?_
          refine lv_aload_n hx hb dX10_then_53 rfl (lv_at hl 0 rfl) ?_
          refine zz_get (v := .ref (r 52)) S hw fgX10_116 5 rfl rfl dX10_then_54 ?_
          refine lv_iload_n hx hb dX10_then_57 rfl (lv_at hl 1 rfl) ?_
          obtain ⟨vz26, hvz26, evz26⟩ : ∃ z : Int32, zz_ok 7 z ∧ d52_25 vq3 = z := ⟨_, (show ∀ j, j < 6 → zz_ok 7 (d52_25 j) from by assumption) vq3 (by omega), rfl⟩
          refine zz_iald (v := vz26) S hw 25 rfl (vp_in_nI (n := vq3) (by omega) (by decide)) (by rw [show ((nI vq3) : Int32).toNatClampNeg = vq3 from nI_clamp (n := vq3) (by omega)]; exact evz26) dX10_then_58 ?_
          exact hret _ _ _ _ _ _ ⟨vz26, k47_22, k50_10, k51_11, d45_23, d46_24, d49_16, d52_25, d53_18, d54_19, d55_20, rfl, rfl, (by first | exact zA0 (fun z => hq2_1 (by assumption) z.1) | exact zA0 (fun z => hq9_1 (by assumption) z.2.1) | exact zA0 (fun z => zz_innI (n := 1) (by omega) hq18_1 (by assumption) z.2.2) | exact zA1 ⟨⟨_, by assumption, rfl⟩, ⟨_, by omega, rfl⟩, ⟨_, by omega, rfl⟩⟩ ⟨_, _, by assumption, by assumption, rfl, rfl, _, _, hq27_0, zy_gos hq27_1 hq27_2 hq32_0, Or.inl ⟨zA_k (by omega), rfl⟩⟩ | exact zA1 ⟨⟨_, by assumption, rfl⟩, ⟨_, by omega, rfl⟩, ⟨_, by omega, rfl⟩⟩ ⟨_, _, by assumption, by assumption, rfl, rfl, _, _, hq27_0, zy_gos hq27_1 hq27_2 hq32_0, Or.inr ⟨zA_k (by omega), _, hq50_0, Eq.symm (by assumption)⟩⟩), (by first | assumption | exact Or.inl rfl | exact Or.inr rfl | omega | exact Or.inr (by assumption) | exact zz_oku (by assumption) (by first | exact Or.inl rfl | exact Or.inr ⟨_, by omega, rfl⟩))⟩ (hw.sub [5, 6, 7, 8, 9, 10, 11, 12, 0, 13, 14, 15, 16, 17, 18, 19, 20, 21, 22, 23, 1, 24, 25, 2, 3, 4] (by decide +kernel) rfl) rfl dX10_then_59
        · skip
          have c36_21n : vq9 = 0 := (zz_eq (a := vq9) (b := 0) rfl rfl (by omega) (by omega)).mp c36_21
          refine lv_aload_n hx hb dX10_then_39 rfl (lv_at hl 0 rfl) ?_
          refine zz_get (v := .ref (r 49)) S hw fgX10_113 2 rfl rfl dX10_then_40 ?_
          refine lv_bipush (v := 21) hx hb dX10_then_43 (by decide) ?_
          refine lv_iload_n hx hb dX10_then_45 rfl (lv_at hl 1 rfl) ?_
          refine lv_iadd hx hb dX10_then_46 ?_
          refine zz_topi (y := (nI (21 + vq3))) (nI_add _ _) ?_
          refine W.eq (g2 := F0 m 47 ls [.int (nI (21 + vq3)), .ref (r 49)]) rfl ?_
          refine zz_iald (v := (d49_16 (21 + vq3))) S hw 21 rfl (vp_in_nI (n := (21 + vq3)) (by omega) (by decide)) (congrArg d49_16 (nI_clamp (n := (21 + vq3)) (by omega))) dX10_then_47 ?_
          exact hret _ _ _ _ _ _ ⟨(d49_16 (21 + vq3)), k47_13, k50_10, k51_11, d45_14, d46_15, d49_16, d52_17, d53_18, d54_19, d55_20, rfl, rfl, (by first | exact zA0 (fun z => hq2_1 (by assumption) z.1) | exact zA0 (fun z => hq9_1 (by assumption) z.2.1) | exact zA0 (fun z => zz_innI (n := 1) (by omega) hq18_1 (by assumption) z.2.2) | exact zA1 ⟨⟨_, by assumption, rfl⟩, ⟨_, by omega, rfl⟩, ⟨_, by omega, rfl⟩⟩ ⟨_, _, by assumption, by assumption, rfl, rfl, _, _, hq27_0, zy_gos hq27_1 hq27_2 hq32_0, Or.inl ⟨zA_k (by omega), rfl⟩⟩ | exact zA1 ⟨⟨_, by assumption, rfl⟩, ⟨_, by omega, rfl⟩, ⟨_, by omega, rfl⟩⟩ ⟨_, _, by assumption, by assumption, rfl, rfl, _, _, hq27_0, zy_gos hq27_1 hq27_2 hq32_0, Or.inr ⟨zA_k (by omega), _, hq50_0, Eq.symm (by assumption)⟩⟩), (by first | assumption | exact Or.inl rfl | exact Or.inr rfl | omega | exact Or.inr (by assumption) | exact zz_oku (by assumption) (by first | exact Or.inl rfl | exact Or.inr ⟨_, by omega, rfl⟩))⟩ (hw.sub [2, 3, 4, 5, 6, 7, 8, 9, 0, 10, 11, 12, 13, 14, 15, 16, 17, 18, 19, 20, 1, 21, 22, 23, 24, 25] (by decide +kernel) rfl) rfl dX10_then_48
      · skip
        refine lv_iconst (v := (-1)) hx hb dX10_then_24 (by decide) ?_
        exact hret _ _ _ _ _ _ ⟨(-1), j47, j50, j51, c45, c46, c49, c52, c53, c54, c55, rfl, rfl, (by first | exact zA0 (fun z => hq2_1 (by assumption) z.1) | exact zA0 (fun z => hq9_1 (by assumption) z.2.1) | exact zA0 (fun z => zz_innI (n := 1) (by omega) hq18_1 (by assumption) z.2.2) | exact zA1 ⟨⟨_, by assumption, rfl⟩, ⟨_, by omega, rfl⟩, ⟨_, by omega, rfl⟩⟩ ⟨_, _, by assumption, by assumption, rfl, rfl, _, _, hq27_0, zy_gos hq27_1 hq27_2 hq32_0, Or.inl ⟨zA_k (by omega), rfl⟩⟩ | exact zA1 ⟨⟨_, by assumption, rfl⟩, ⟨_, by omega, rfl⟩, ⟨_, by omega, rfl⟩⟩ ⟨_, _, by assumption, by assumption, rfl, rfl, _, _, hq27_0, zy_gos hq27_1 hq27_2 hq32_0, Or.inr ⟨zA_k (by omega), _, hq50_0, Eq.symm (by assumption)⟩⟩), (by first | assumption | exact Or.inl rfl | exact Or.inr rfl | omega | exact Or.inr (by assumption) | exact zz_oku (by assumption) (by first | exact Or.inl rfl | exact Or.inr ⟨_, by omega, rfl⟩))⟩ (hw.sub [24, 0, 1, 2, 25, 3, 4, 5, 6, 7, 8, 9, 10, 11, 12, 13, 14, 15, 16, 17, 18, 19, 20, 21, 22, 23] (by decide +kernel) rfl) rfl dX10_then_25
theorem kd_ncX10_marksIn : kd_ck 334490971615363955990364517990765186969661205505477987899049661170320120174181667445546 36 cX10_marksIn.data.toList 0 = true := by decide +kernel
theorem dX10_marksIn_0 : decode cX10_marksIn 0 = .ok (.aload_n 0, 1) := kd_dk0 kd_o42 kd_ncX10_marksIn rfl
theorem dX10_marksIn_1 : decode cX10_marksIn 1 = .ok (.iload_n 1, 1) := kd_dk0 kd_o27 kd_ncX10_marksIn rfl
theorem dX10_marksIn_2 : decode cX10_marksIn 2 = .ok (.invokevirtual 373, 3) := kd_dk2 kd_o182 kd_ncX10_marksIn rfl
theorem dX10_marksIn_5 : decode cX10_marksIn 5 = .ok (.ifCond .eq 10, 3) := kd_dj2 kd_o153 (w := 10) kd_ncX10_marksIn rfl rfl
theorem dX10_marksIn_8 : decode cX10_marksIn 8 = .ok (.iload_n 2, 1) := kd_dk0 kd_o28 kd_ncX10_marksIn rfl
theorem dX10_marksIn_9 : decode cX10_marksIn 9 = .ok (.invokestatic 394, 3) := kd_dk2 kd_o184 kd_ncX10_marksIn rfl
theorem dX10_marksIn_12 : decode cX10_marksIn 12 = .ok (.ifCond .ne 5, 3) := kd_dj2 kd_o154 (w := 5) kd_ncX10_marksIn rfl rfl
theorem dX10_marksIn_15 : decode cX10_marksIn 15 = .ok (.iconst (-1), 1) := kd_dk0 kd_o2 kd_ncX10_marksIn rfl
theorem dX10_marksIn_16 : decode cX10_marksIn 16 = .ok (.ireturn, 1) := kd_dk0 kd_o172 kd_ncX10_marksIn rfl
theorem dX10_marksIn_17 : decode cX10_marksIn 17 = .ok (.aload_n 0, 1) := kd_dk0 kd_o42 kd_ncX10_marksIn rfl
theorem dX10_marksIn_18 : decode cX10_marksIn 18 = .ok (.invokevirtual 323, 3) := kd_dk2 kd_o182 kd_ncX10_marksIn rfl
theorem dX10_marksIn_21 : decode cX10_marksIn 21 = .ok (.aload_n 0, 1) := kd_dk0 kd_o42 kd_ncX10_marksIn rfl
theorem dX10_marksIn_22 : decode cX10_marksIn 22 = .ok (.iload_n 2, 1) := kd_dk0 kd_o28 kd_ncX10_marksIn rfl
theorem dX10_marksIn_23 : decode cX10_marksIn 23 = .ok (.invokevirtual 397, 3) := kd_dk2 kd_o182 kd_ncX10_marksIn rfl
theorem dX10_marksIn_26 : decode cX10_marksIn 26 = .ok (.aload_n 0, 1) := kd_dk0 kd_o42 kd_ncX10_marksIn rfl
theorem dX10_marksIn_27 : decode cX10_marksIn 27 = .ok (.getfield 113, 3) := kd_dk2 kd_o180 kd_ncX10_marksIn rfl
theorem dX10_marksIn_30 : decode cX10_marksIn 30 = .ok (.bipush 7, 2) := kd_dj1 kd_o16 (w := 7) kd_ncX10_marksIn rfl rfl
theorem dX10_marksIn_32 : decode cX10_marksIn 32 = .ok (.iload_n 1, 1) := kd_dk0 kd_o27 kd_ncX10_marksIn rfl
theorem dX10_marksIn_33 : decode cX10_marksIn 33 = .ok (.iadd, 1) := kd_dk0 kd_o96 kd_ncX10_marksIn rfl
theorem dX10_marksIn_34 : decode cX10_marksIn 34 = .ok (.iaload, 1) := kd_dk0 kd_o46 kd_ncX10_marksIn rfl
theorem dX10_marksIn_35 : decode cX10_marksIn 35 = .ok (.ireturn, 1) := kd_dk0 kd_o172 kd_ncX10_marksIn rfl
set_option maxHeartbeats 8000000 in
set_option maxRecDepth 100000 in
theorem c_x_marksIn (l : Launch) (G : zz_G) (r : Nat → Nat) (j0 : Int32) (j2 : Int32) (j4 : Int32) (j10 : Int32) (j11 : Int32) (j12 : Int32) (j13 : Int32) (j14 : Int32) (j15 : Int32) (j16 : Int32) (j17 : Int32) (j19 : Int32) (j20 : Int32) (j34 : Int32) (j40 : Int32) (j44 : Int32) (j47 : Int32) (j50 : Int32) (j51 : Int32) (j56 : Int32) (j61 : Int32) (lv : Nat) (pp : Nat) (pq : Nat) (c22 : Nat → Int32) (c24 : Nat → Int32) (c25 : Nat → Int32) (c26 : Nat → Int32) (c28 : Nat → Int32) (c29 : Nat → Int32) (c30 : Nat → Int32) (c31 : Nat → Int32) (c32 : Nat → Int32) (c33 : Nat → Int32) (c35 : Nat → Int32) (c36 : Nat → Int32) (c37 : Nat → Int32) (c38 : Nat → Int32) (c39 : Nat → Int32) (c41 : Nat → Int32) (c42 : Nat → Int32) (c45 : Nat → Int32) (c46 : Nat → Int32) (c48 : Nat → Int32) (c49 : Nat → Int32) (c52 : Nat → Int32) (c53 : Nat → Int32) (c54 : Nat → Int32) (c55 : Nat → Int32) (ar1 : Int32) (ar2 : Int32) (hlv : lv ≤ 1) (hpe : c22 lv = nI pp) (hpp : pp ≤ 7) (hpa : c26 lv = nI pq) (hpq : pq ≤ 6) (hlw : zz_LW 2 0 0 c32 c33 c35 c36 c37 c38 c39 c41 c42) (hca : ∀ j, j < 6 → zz_ok 7 (c52 j)) : zz_M l G mX10_marksIn 7 0 0 [.ref (r 0), .int ar1, .int ar2] [((r 0), .inr (10, (zz_mo r [(0, j0), (2, j2), (4, j4), (10, j10), (11, j11), (12, j12), (13, j13), (14, j14), (15, j15), (16, j16), (17, j17), (18, (nI lv)), (19, j19), (20, j20), (34, j34), (40, j40), (44, j44), (47, j47), (50, j50), (51, j51), (56, j56), (61, j61)]))), ((r 22), .inl (G.2 0, 2, .inl c22)), ((r 24), .inl (G.2 0, 14, .inl c24)), ((r 25), .inl (G.2 0, 14, .inl c25)), ((r 26), .inl (G.2 0, 2, .inl c26)), ((r 28), .inl (G.2 0, 12, .inl c28)), ((r 29), .inl (G.2 0, 12, .inl c29)), ((r 30), .inl (G.2 0, 2, .inl c30)), ((r 31), .inl (G.2 0, 2, .inl c31)), ((r 32), .inl (G.2 0, 8, .inl c32)), ((r 33), .inl (G.2 0, 8, .inl c33)), ((r 35), .inl (G.2 2, 260, .inl c35)), ((r 36), .inl (G.2 0, 260, .inl c36)), ((r 37), .inl (G.2 0, 260, .inl c37)), ((r 38), .inl (G.2 0, 260, .inl c38)), ((r 39), .inl (G.2 0, 260, .inl c39)), ((r 41), .inl (G.2 0, 840, .inl c41)), ((r 42), .inl (G.2 0, 840, .inl c42)), ((r 45), .inl (G.2 0, 9, .inl c45)), ((r 46), .inl (G.2 0, 400, .inl c46)), ((r 48), .inl (G.2 0, 71, .inl c48)), ((r 49), .inl (G.2 0, 71, .inl c49)), ((r 52), .inl (G.2 0, 6, .inl c52)), ((r 53), .inl (G.2 2, 6, .inl c53)), ((r 54), .inl (G.2 2, 6, .inl c54)), ((r 55), .inl (G.2 0, 6, .inl c55))] (fun rr u => ∃ (rv : Int32), ∃ (k47 : Int32), ∃ (k50 : Int32), ∃ (k51 : Int32), ∃ (d45 : Nat → Int32), ∃ (d46 : Nat → Int32), ∃ (d49 : Nat → Int32), ∃ (d52 : Nat → Int32), ∃ (d53 : Nat → Int32), ∃ (d54 : Nat → Int32), ∃ (d55 : Nat → Int32), rr = some (.int rv) ∧ u = [((r 0), .inr (10, (zz_mo r [(0, j0), (2, j2), (4, j4), (10, j10), (11, j11), (12, j12), (13, j13), (14, j14), (15, j15), (16, j16), (17, j17), (18, (nI lv)), (19, j19), (20, j20), (34, j34), (40, j40), (44, j44), (47, k47), (50, k50), (51, k51), (56, j56), (61, j61)]))), ((r 22), .inl (G.2 0, 2, .inl c22)), ((r 24), .inl (G.2 0, 14, .inl c24)), ((r 25), .inl (G.2 0, 14, .inl c25)), ((r 26), .inl (G.2 0, 2, .inl c26)), ((r 28), .inl (G.2 0, 12, .inl c28)), ((r 29), .inl (G.2 0, 12, .inl c29)), ((r 30), .inl (G.2 0, 2, .inl c30)), ((r 31), .inl (G.2 0, 2, .inl c31)), ((r 32), .inl (G.2 0, 8, .inl c32)), ((r 33), .inl (G.2 0, 8, .inl c33)), ((r 35), .inl (G.2 2, 260, .inl c35)), ((r 36), .inl (G.2 0, 260, .inl c36)), ((r 37), .inl (G.2 0, 260, .inl c37)), ((r 38), .inl (G.2 0, 260, .inl c38)), ((r 39), .inl (G.2 0, 260, .inl c39)), ((r 41), .inl (G.2 0, 840, .inl c41)), ((r 42), .inl (G.2 0, 840, .inl c42)), ((r 45), .inl (G.2 0, 9, .inl d45)), ((r 46), .inl (G.2 0, 400, .inl d46)), ((r 48), .inl (G.2 0, 71, .inl c48)), ((r 49), .inl (G.2 0, 71, .inl d49)), ((r 52), .inl (G.2 0, 6, .inl d52)), ((r 53), .inl (G.2 2, 6, .inl d53)), ((r 54), .inl (G.2 2, 6, .inl d54)), ((r 55), .inl (G.2 0, 6, .inl d55))] ∧ (zA (zz_In pp ar1 ∧ zz_In 61 ar2) (∃ a k : Nat, a < pp ∧ k ≤ 60 ∧ ar1 = nI a ∧ ar2 = nI k ∧ zA_R (zr_go (zr_HD lv c32 c33 c35 c36 c37 c38 c39 c41 c42 (c30 lv)) lv c24 c28 c25 c29 (c30 lv) (c31 lv) 0 pp pq) c48 k (fun τ => rv = τ (7 + a))) rv (-1)) ∧ (∀ j, j < 6 → zz_ok 7 (d52 j))) := by
  refine zz_enteri (by decide +kernel) (Nat.le_of_ble_eq_true rfl) ?_
  intro p e s m args below meth c A Q ls S hnm hret hw hl
  have hl : lv_has ls 3 [(0, .ref (r 0)), (1, .int ar1), (2, .int ar2)] := hl
  have hx := S.1
  have hb := S.2.1
  refine lv_aload_n hx hb dX10_marksIn_0 rfl (lv_at hl 0 rfl) ?_
  refine lv_iload_n hx hb dX10_marksIn_1 rfl (lv_at hl 1 rfl) ?_
  refine zz_callV (qb := 0) (As := [.int ar1]) (rest := []) (wr := [((r 24), .inl (G.2 0, 14, .inl c24)), ((r 25), .inl (G.2 0, 14, .inl c25)), ((r 26), .inl (G.2 0, 2, .inl c26)), ((r 28), .inl (G.2 0, 12, .inl c28)), ((r 29), .inl (G.2 0, 12, .inl c29)), ((r 30), .inl (G.2 0, 2, .inl c30)), ((r 31), .inl (G.2 0, 2, .inl c31)), ((r 32), .inl (G.2 0, 8, .inl c32)), ((r 33), .inl (G.2 0, 8, .inl c33)), ((r 35), .inl (G.2 2, 260, .inl c35)), ((r 36), .inl (G.2 0, 260, .inl c36)), ((r 37), .inl (G.2 0, 260, .inl c37)), ((r 38), .inl (G.2 0, 260, .inl c38)), ((r 39), .inl (G.2 0, 260, .inl c39)), ((r 41), .inl (G.2 0, 840, .inl c41)), ((r 42), .inl (G.2 0, 840, .inl c42)), ((r 45), .inl (G.2 0, 9, .inl c45)), ((r 46), .inl (G.2 0, 400, .inl c46)), ((r 48), .inl (G.2 0, 71, .inl c48)), ((r 49), .inl (G.2 0, 71, .inl c49)), ((r 52), .inl (G.2 0, 6, .inl c52)), ((r 53), .inl (G.2 2, 6, .inl c53)), ((r 54), .inl (G.2 2, 6, .inl c54)), ((r 55), .inl (G.2 0, 6, .inl c55))]) S hw hl.1 lX10_373 (c_x_isPerson l G r j0 j2 j4 j10 j11 j12 j13 j14 j15 j16 j17 j19 j20 j34 j40 j44 j47 j50 j51 j56 j61 lv pp c22 ar1 (by first | assumption | omega | exact Or.inr ⟨_, by omega, rfl⟩ | (unfold zz_sok; decide) | decide | exact (fun j hj => (hv7 j hj).1)) (by first | assumption | omega | exact Or.inr ⟨_, by omega, rfl⟩ | (unfold zz_sok; decide) | decide | exact (fun j hj => (hv7 j hj).1)) (by first | assumption | omega | exact Or.inr ⟨_, by omega, rfl⟩ | (unfold zz_sok; decide) | decide | exact (fun j hj => (hv7 j hj).1))) ⟨Nat.le_of_ble_eq_true rfl, Nat.le_of_ble_eq_true rfl⟩ ⟨Nat.le_of_ble_eq_true rfl, Nat.le_of_ble_eq_true rfl⟩ [0, 1] [2, 3, 4, 5, 6, 7, 8, 9, 10, 11, 12, 13, 14, 15, 16, 17, 18, 19, 20, 21, 22, 23, 24, 25] (by decide +kernel) rfl rfl (by decide +kernel) (by decide +kernel) rfl rfl rfl rfl (Nat.le_of_ble_eq_true rfl) dX10_marksIn_2 ?_
  clear hw
  intro rr u H locs hp hw
  refine hp.elim fun rv_1 zg0 => zg0.elim fun zee1 zg1 => zg1.elim fun zee2 zg2 => zg2.elim fun hq2_0 zg3 => zg3.elim fun hq2_1 hq2_2 => ?_
  clear hp zg0 zg1 zg2 zg3
  subst zee1
  subst zee2
  replace hw : zz_w G A s [((r 24), .inl (G.2 0, 14, .inl c24)), ((r 25), .inl (G.2 0, 14, .inl c25)), ((r 26), .inl (G.2 0, 2, .inl c26)), ((r 28), .inl (G.2 0, 12, .inl c28)), ((r 29), .inl (G.2 0, 12, .inl c29)), ((r 30), .inl (G.2 0, 2, .inl c30)), ((r 31), .inl (G.2 0, 2, .inl c31)), ((r 32), .inl (G.2 0, 8, .inl c32)), ((r 33), .inl (G.2 0, 8, .inl c33)), ((r 35), .inl (G.2 2, 260, .inl c35)), ((r 36), .inl (G.2 0, 260, .inl c36)), ((r 37), .inl (G.2 0, 260, .inl c37)), ((r 38), .inl (G.2 0, 260, .inl c38)), ((r 39), .inl (G.2 0, 260, .inl c39)), ((r 41), .inl (G.2 0, 840, .inl c41)), ((r 42), .inl (G.2 0, 840, .inl c42)), ((r 45), .inl (G.2 0, 9, .inl c45)), ((r 46), .inl (G.2 0, 400, .inl c46)), ((r 48), .inl (G.2 0, 71, .inl c48)), ((r 49), .inl (G.2 0, 71, .inl c49)), ((r 52), .inl (G.2 0, 6, .inl c52)), ((r 53), .inl (G.2 2, 6, .inl c53)), ((r 54), .inl (G.2 2, 6, .inl c54)), ((r 55), .inl (G.2 0, 6, .inl c55)), ((r 0), .inr (10, (zz_mo r [(0, j0), (2, j2), (4, j4), (10, j10), (11, j11), (12, j12), (13, j13), (14, j14), (15, j15), (16, j16), (17, j17), (18, (nI lv)), (19, j19), (20, j20), (34, j34), (40, j40), (44, j44), (47, j47), (50, j50), (51, j51), (56, j56), (61, j61)]))), ((r 22), .inl (G.2 0, 2, .inl c22))] H _ := hw
  refine W.eq (g2 := F0 m 5 ls [.int rv_1]) rfl ?_
  refine lv_if_eq (tgt := 15) hx hb dX10_marksIn_5 (by decide) (fun c5_2 => ?_) (fun c5_2 => ?_)
  · skip
    refine lv_iconst (v := (-1)) hx hb dX10_marksIn_15 (by decide) ?_
    exact hret _ _ _ _ _ _ ⟨(-1), j47, j50, j51, c45, c46, c49, c52, c53, c54, c55, rfl, rfl, (by first | exact zA0 (fun z => hq2_1 (by assumption) z.1) | exact zA0 (fun z => hq9_1 (by assumption) z.2) | exact zA1 ⟨⟨_, by assumption, rfl⟩, ⟨_, by omega, rfl⟩⟩ ⟨_, _, by assumption, by assumption, rfl, rfl, _, _, hq18_0, zy_gos hq18_1 hq18_2 hq23_0, rfl⟩), (by first | assumption | exact Or.inl rfl | exact Or.inr rfl | omega | exact Or.inr (by assumption) | exact zz_oku (by assumption) (by first | exact Or.inl rfl | exact Or.inr ⟨_, by omega, rfl⟩))⟩ (hw.sub [24, 25, 0, 1, 2, 3, 4, 5, 6, 7, 8, 9, 10, 11, 12, 13, 14, 15, 16, 17, 18, 19, 20, 21, 22, 23] (by decide +kernel) rfl) rfl dX10_marksIn_16
  · skip
    obtain ⟨vq3, hvq3, rfl⟩ := hq2_0.resolve_left c5_2
    refine lv_iload_n hx hb dX10_marksIn_8 rfl (lv_at hl 2 rfl) ?_
    refine zz_callS (As := [.int ar2]) (rest := []) (wr := [((r 24), .inl (G.2 0, 14, .inl c24)), ((r 25), .inl (G.2 0, 14, .inl c25)), ((r 26), .inl (G.2 0, 2, .inl c26)), ((r 28), .inl (G.2 0, 12, .inl c28)), ((r 29), .inl (G.2 0, 12, .inl c29)), ((r 30), .inl (G.2 0, 2, .inl c30)), ((r 31), .inl (G.2 0, 2, .inl c31)), ((r 32), .inl (G.2 0, 8, .inl c32)), ((r 33), .inl (G.2 0, 8, .inl c33)), ((r 35), .inl (G.2 2, 260, .inl c35)), ((r 36), .inl (G.2 0, 260, .inl c36)), ((r 37), .inl (G.2 0, 260, .inl c37)), ((r 38), .inl (G.2 0, 260, .inl c38)), ((r 39), .inl (G.2 0, 260, .inl c39)), ((r 41), .inl (G.2 0, 840, .inl c41)), ((r 42), .inl (G.2 0, 840, .inl c42)), ((r 45), .inl (G.2 0, 9, .inl c45)), ((r 46), .inl (G.2 0, 400, .inl c46)), ((r 48), .inl (G.2 0, 71, .inl c48)), ((r 49), .inl (G.2 0, 71, .inl c49)), ((r 52), .inl (G.2 0, 6, .inl c52)), ((r 53), .inl (G.2 2, 6, .inl c53)), ((r 54), .inl (G.2 2, 6, .inl c54)), ((r 55), .inl (G.2 0, 6, .inl c55)), ((r 0), .inr (10, (zz_mo r [(0, j0), (2, j2), (4, j4), (10, j10), (11, j11), (12, j12), (13, j13), (14, j14), (15, j15), (16, j16), (17, j17), (18, (nI lv)), (19, j19), (20, j20), (34, j34), (40, j40), (44, j44), (47, j47), (50, j50), (51, j51), (56, j56), (61, j61)]))), ((r 22), .inl (G.2 0, 2, .inl c22))]) S hw hl.1 lX10_394 (c_x_isLong l G ar2) ⟨Nat.le_of_ble_eq_true rfl, Nat.le_of_ble_eq_true rfl⟩ ⟨Nat.le_of_ble_eq_true rfl, Nat.le_of_ble_eq_true rfl⟩ [] [0, 1, 2, 3, 4, 5, 6, 7, 8, 9, 10, 11, 12, 13, 14, 15, 16, 17, 18, 19, 20, 21, 22, 23, 24, 25] (by decide +kernel) rfl rfl (by decide +kernel) (by decide +kernel) rfl rfl (Nat.le_of_ble_eq_true rfl) dX10_marksIn_9 ?_
    clear hw
    intro rr u H locs hp hw
    refine hp.elim fun rv_4 zg0 => zg0.elim fun zee1 zg1 => zg1.elim fun zee2 zg2 => zg2.elim fun hq9_0 zg3 => zg3.elim fun hq9_1 hq9_2 => ?_
    clear hp zg0 zg1 zg2 zg3
    subst zee1
    subst zee2
    replace hw : zz_w G A s [((r 24), .inl (G.2 0, 14, .inl c24)), ((r 25), .inl (G.2 0, 14, .inl c25)), ((r 26), .inl (G.2 0, 2, .inl c26)), ((r 28), .inl (G.2 0, 12, .inl c28)), ((r 29), .inl (G.2 0, 12, .inl c29)), ((r 30), .inl (G.2 0, 2, .inl c30)), ((r 31), .inl (G.2 0, 2, .inl c31)), ((r 32), .inl (G.2 0, 8, .inl c32)), ((r 33), .inl (G.2 0, 8, .inl c33)), ((r 35), .inl (G.2 2, 260, .inl c35)), ((r 36), .inl (G.2 0, 260, .inl c36)), ((r 37), .inl (G.2 0, 260, .inl c37)), ((r 38), .inl (G.2 0, 260, .inl c38)), ((r 39), .inl (G.2 0, 260, .inl c39)), ((r 41), .inl (G.2 0, 840, .inl c41)), ((r 42), .inl (G.2 0, 840, .inl c42)), ((r 45), .inl (G.2 0, 9, .inl c45)), ((r 46), .inl (G.2 0, 400, .inl c46)), ((r 48), .inl (G.2 0, 71, .inl c48)), ((r 49), .inl (G.2 0, 71, .inl c49)), ((r 52), .inl (G.2 0, 6, .inl c52)), ((r 53), .inl (G.2 2, 6, .inl c53)), ((r 54), .inl (G.2 2, 6, .inl c54)), ((r 55), .inl (G.2 0, 6, .inl c55)), ((r 0), .inr (10, (zz_mo r [(0, j0), (2, j2), (4, j4), (10, j10), (11, j11), (12, j12), (13, j13), (14, j14), (15, j15), (16, j16), (17, j17), (18, (nI lv)), (19, j19), (20, j20), (34, j34), (40, j40), (44, j44), (47, j47), (50, j50), (51, j51), (56, j56), (61, j61)]))), ((r 22), .inl (G.2 0, 2, .inl c22))] H _ := hw
    refine W.eq (g2 := F0 m 12 ls [.int rv_4]) rfl ?_
    refine lv_if_ne (tgt := 17) hx hb dX10_marksIn_12 (by decide) (fun c12_5 => ?_) (fun c12_5 => ?_)
    · skip
      obtain ⟨vq6, hvq6, rfl⟩ := hq9_0.resolve_left c12_5
      refine lv_aload_n hx hb dX10_marksIn_17 rfl (lv_at hl 0 rfl) ?_
      refine zz_callV (qb := 24) (As := []) (rest := []) (wr := [((r 24), .inl (G.2 0, 14, .inl c24)), ((r 25), .inl (G.2 0, 14, .inl c25)), ((r 26), .inl (G.2 0, 2, .inl c26)), ((r 28), .inl (G.2 0, 12, .inl c28)), ((r 29), .inl (G.2 0, 12, .inl c29)), ((r 30), .inl (G.2 0, 2, .inl c30)), ((r 32), .inl (G.2 0, 8, .inl c32)), ((r 33), .inl (G.2 0, 8, .inl c33)), ((r 35), .inl (G.2 2, 260, .inl c35)), ((r 36), .inl (G.2 0, 260, .inl c36)), ((r 37), .inl (G.2 0, 260, .inl c37)), ((r 38), .inl (G.2 0, 260, .inl c38)), ((r 39), .inl (G.2 0, 260, .inl c39)), ((r 41), .inl (G.2 0, 840, .inl c41)), ((r 42), .inl (G.2 0, 840, .inl c42)), ((r 45), .inl (G.2 0, 9, .inl c45)), ((r 46), .inl (G.2 0, 400, .inl c46)), ((r 52), .inl (G.2 0, 6, .inl c52)), ((r 53), .inl (G.2 2, 6, .inl c53)), ((r 54), .inl (G.2 2, 6, .inl c54)), ((r 55), .inl (G.2 0, 6, .inl c55)), ((r 22), .inl (G.2 0, 2, .inl c22))]) S hw hl.1 lX10_323 (c_x_copies l G r j0 j2 j4 j10 j11 j12 j13 j14 j15 j16 j17 j19 j20 j34 j40 j44 j47 j50 j51 j56 j61 lv c31 c48 c49 (by first | assumption | omega | exact Or.inr ⟨_, by omega, rfl⟩ | (unfold zz_sok; decide) | decide | exact (fun j hj => (hv7 j hj).1))) ⟨Nat.le_of_ble_eq_true rfl, Nat.le_of_ble_eq_true rfl⟩ ⟨Nat.le_of_ble_eq_true rfl, Nat.le_of_ble_eq_true rfl⟩ [24, 6, 18, 19] [0, 1, 2, 3, 4, 5, 7, 8, 9, 10, 11, 12, 13, 14, 15, 16, 17, 20, 21, 22, 23, 25] (by decide +kernel) rfl rfl (by decide +kernel) (by decide +kernel) rfl rfl rfl rfl (Nat.le_of_ble_eq_true rfl) dX10_marksIn_18 ?_
      clear hw
      intro rr u H locs hp hw
      refine hp.elim fun k50_7 zg0 => zg0.elim fun k51_8 zg1 => zg1.elim fun d49_9 zg2 => zg2.elim fun zee1 zg3 => zg3.elim fun zee2 zg4 => zg4.elim fun hq18_0 zg5 => zg5.elim fun hq18_1 hq18_2 => ?_
      clear hp zg0 zg1 zg2 zg3 zg4 zg5
      subst zee1
      subst zee2
      replace hw : zz_w G A s [((r 24), .inl (G.2 0, 14, .inl c24)), ((r 25), .inl (G.2 0, 14, .inl c25)), ((r 26), .inl (G.2 0, 2, .inl c26)), ((r 28), .inl (G.2 0, 12, .inl c28)), ((r 29), .inl (G.2 0, 12, .inl c29)), ((r 30), .inl (G.2 0, 2, .inl c30)), ((r 32), .inl (G.2 0, 8, .inl c32)), ((r 33), .inl (G.2 0, 8, .inl c33)), ((r 35), .inl (G.2 2, 260, .inl c35)), ((r 36), .inl (G.2 0, 260, .inl c36)), ((r 37), .inl (G.2 0, 260, .inl c37)), ((r 38), .inl (G.2 0, 260, .inl c38)), ((r 39), .inl (G.2 0, 260, .inl c39)), ((r 41), .inl (G.2 0, 840, .inl c41)), ((r 42), .inl (G.2 0, 840, .inl c42)), ((r 45), .inl (G.2 0, 9, .inl c45)), ((r 46), .inl (G.2 0, 400, .inl c46)), ((r 52), .inl (G.2 0, 6, .inl c52)), ((r 53), .inl (G.2 2, 6, .inl c53)), ((r 54), .inl (G.2 2, 6, .inl c54)), ((r 55), .inl (G.2 0, 6, .inl c55)), ((r 22), .inl (G.2 0, 2, .inl c22)), ((r 0), .inr (10, (zz_mo r [(0, j0), (2, j2), (4, j4), (10, j10), (11, j11), (12, j12), (13, j13), (14, j14), (15, j15), (16, j16), (17, j17), (18, (nI lv)), (19, j19), (20, j20), (34, j34), (40, j40), (44, j44), (47, j47), (50, k50_7), (51, k51_8), (56, j56), (61, j61)]))), ((r 31), .inl (G.2 0, 2, .inl c31)), ((r 48), .inl (G.2 0, 71, .inl c48)), ((r 49), .inl (G.2 0, 71, .inl d49_9))] H _ := hw
      refine W.eq (g2 := F0 m 21 ls []) rfl ?_
      refine lv_aload_n hx hb dX10_marksIn_21 rfl (lv_at hl 0 rfl) ?_
      refine lv_iload_n hx hb dX10_marksIn_22 rfl (lv_at hl 2 rfl) ?_
      refine zz_callV (qb := 22) (As := [.int (nI vq6)]) (rest := []) (wr := [((r 31), .inl (G.2 0, 2, .inl c31)), ((r 48), .inl (G.2 0, 71, .inl c48))]) S hw hl.1 lX10_397 (c_x_goes l G r j0 j2 j4 j10 j11 j12 j13 j14 j15 j16 j17 j19 j20 j34 j40 j44 j47 k50_7 k51_8 j56 j61 lv pp pq c22 c24 c25 c26 c28 c29 c30 c32 c33 c35 c36 c37 c38 c39 c41 c42 c45 c46 d49_9 c52 c53 c54 c55 vq6 (by first | assumption | omega | exact Or.inr ⟨_, by omega, rfl⟩ | (unfold zz_sok; decide) | decide | exact (fun j hj => (hv7 j hj).1)) (by first | assumption | omega | exact Or.inr ⟨_, by omega, rfl⟩ | (unfold zz_sok; decide) | decide | exact (fun j hj => (hv7 j hj).1)) (by first | assumption | omega | exact Or.inr ⟨_, by omega, rfl⟩ | (unfold zz_sok; decide) | decide | exact (fun j hj => (hv7 j hj).1)) (by first | assumption | omega | exact Or.inr ⟨_, by omega, rfl⟩ | (unfold zz_sok; decide) | decide | exact (fun j hj => (hv7 j hj).1)) (by first | assumption | omega | exact Or.inr ⟨_, by omega, rfl⟩ | (unfold zz_sok; decide) | decide | exact (fun j hj => (hv7 j hj).1)) (by first | assumption | omega | exact Or.inr ⟨_, by omega, rfl⟩ | (unfold zz_sok; decide) | decide | exact (fun j hj => (hv7 j hj).1)) (by first | assumption | omega | exact Or.inr ⟨_, by omega, rfl⟩ | (unfold zz_sok; decide) | decide | exact (fun j hj => (hv7 j hj).1)) (by first | assumption | omega | exact Or.inr ⟨_, by omega, rfl⟩ | (unfold zz_sok; decide) | decide | exact (fun j hj => (hv7 j hj).1))) ⟨Nat.le_of_ble_eq_true rfl, Nat.le_of_ble_eq_true rfl⟩ ⟨Nat.le_of_ble_eq_true rfl, Nat.le_of_ble_eq_true rfl⟩ [22, 21, 0, 1, 2, 3, 4, 5, 6, 7, 8, 9, 10, 11, 12, 13, 14, 15, 16, 25, 17, 18, 19, 20] [23, 24] (by decide +kernel) rfl rfl (by decide +kernel) (by decide +kernel) rfl rfl rfl rfl (Nat.le_of_ble_eq_true rfl) dX10_marksIn_23 ?_
      clear hw
      intro rr u H locs hp hw
      refine hp.elim fun k47_10 zg0 => zg0.elim fun d45_11 zg1 => zg1.elim fun d46_12 zg2 => zg2.elim fun d49_13 zg3 => zg3.elim fun d52_14 zg4 => zg4.elim fun d53_15 zg5 => zg5.elim fun d54_16 zg6 => zg6.elim fun d55_17 zg7 => zg7.elim fun zee1 zg8 => zg8.elim fun zee2 zg9 => zg9.elim fun hq23_0 hq23_1 => ?_
      clear hp zg0 zg1 zg2 zg3 zg4 zg5 zg6 zg7 zg8 zg9
      subst zee1
      subst zee2
      replace hw : zz_w G A s [((r 31), .inl (G.2 0, 2, .inl c31)), ((r 48), .inl (G.2 0, 71, .inl c48)), ((r 0), .inr (10, (zz_mo r [(0, j0), (2, j2), (4, j4), (10, j10), (11, j11), (12, j12), (13, j13), (14, j14), (15, j15), (16, j16), (17, j17), (18, (nI lv)), (19, j19), (20, j20), (34, j34), (40, j40), (44, j44), (47, k47_10), (50, k50_7), (51, k51_8), (56, j56), (61, j61)]))), ((r 22), .inl (G.2 0, 2, .inl c22)), ((r 24), .inl (G.2 0, 14, .inl c24)), ((r 25), .inl (G.2 0, 14, .inl c25)), ((r 26), .inl (G.2 0, 2, .inl c26)), ((r 28), .inl (G.2 0, 12, .inl c28)), ((r 29), .inl (G.2 0, 12, .inl c29)), ((r 30), .inl (G.2 0, 2, .inl c30)), ((r 32), .inl (G.2 0, 8, .inl c32)), ((r 33), .inl (G.2 0, 8, .inl c33)), ((r 35), .inl (G.2 2, 260, .inl c35)), ((r 36), .inl (G.2 0, 260, .inl c36)), ((r 37), .inl (G.2 0, 260, .inl c37)), ((r 38), .inl (G.2 0, 260, .inl c38)), ((r 39), .inl (G.2 0, 260, .inl c39)), ((r 41), .inl (G.2 0, 840, .inl c41)), ((r 42), .inl (G.2 0, 840, .inl c42)), ((r 45), .inl (G.2 0, 9, .inl d45_11)), ((r 46), .inl (G.2 0, 400, .inl d46_12)), ((r 49), .inl (G.2 0, 71, .inl d49_13)), ((r 52), .inl (G.2 0, 6, .inl d52_14)), ((r 53), .inl (G.2 2, 6, .inl d53_15)), ((r 54), .inl (G.2 2, 6, .inl d54_16)), ((r 55), .inl (G.2 0, 6, .inl d55_17))] H _ := hw
      refine W.eq (g2 := F0 m 26 ls []) rfl ?_
      refine lv_aload_n hx hb dX10_marksIn_26 rfl (lv_at hl 0 rfl) ?_
      refine zz_get (v := .ref (r 49)) S hw fgX10_113 2 rfl rfl dX10_marksIn_27 ?_
      refine lv_bipush (v := 7) hx hb dX10_marksIn_30 (by decide) ?_
      refine W.eq (g2 := F0 m 32 ls [.int 7, .ref (r 49)]) rfl ?_
      refine lv_iload_n hx hb dX10_marksIn_32 rfl (lv_at hl 1 rfl) ?_
      refine lv_iadd hx hb dX10_marksIn_33 ?_
      refine zz_topi (y := (nI (7 + vq3))) (nI_add _ _) ?_
      refine zz_iald (v := (d49_13 (7 + vq3))) S hw 21 rfl (vp_in_nI (n := (7 + vq3)) (by omega) (by decide)) (congrArg d49_13 (nI_clamp (n := (7 + vq3)) (by omega))) dX10_marksIn_34 ?_
      exact hret _ _ _ _ _ _ ⟨(d49_13 (7 + vq3)), k47_10, k50_7, k51_8, d45_11, d46_12, d49_13, d52_14, d53_15, d54_16, d55_17, rfl, rfl, (by first | exact zA0 (fun z => hq2_1 (by assumption) z.1) | exact zA0 (fun z => hq9_1 (by assumption) z.2) | exact zA1 ⟨⟨_, by assumption, rfl⟩, ⟨_, by omega, rfl⟩⟩ ⟨_, _, by assumption, by assumption, rfl, rfl, _, _, hq18_0, zy_gos hq18_1 hq18_2 hq23_0, rfl⟩), (by first | assumption | exact Or.inl rfl | exact Or.inr rfl | omega | exact Or.inr (by assumption) | exact zz_oku (by assumption) (by first | exact Or.inl rfl | exact Or.inr ⟨_, by omega, rfl⟩))⟩ (hw.sub [2, 3, 4, 5, 6, 7, 8, 9, 0, 10, 11, 12, 13, 14, 15, 16, 17, 18, 19, 20, 1, 21, 22, 23, 24, 25] (by decide +kernel) rfl) rfl dX10_marksIn_35
    · skip
      refine lv_iconst (v := (-1)) hx hb dX10_marksIn_15 (by decide) ?_
      exact hret _ _ _ _ _ _ ⟨(-1), j47, j50, j51, c45, c46, c49, c52, c53, c54, c55, rfl, rfl, (by first | exact zA0 (fun z => hq2_1 (by assumption) z.1) | exact zA0 (fun z => hq9_1 (by assumption) z.2) | exact zA1 ⟨⟨_, by assumption, rfl⟩, ⟨_, by omega, rfl⟩⟩ ⟨_, _, by assumption, by assumption, rfl, rfl, _, _, hq18_0, zy_gos hq18_1 hq18_2 hq23_0, rfl⟩), (by first | assumption | exact Or.inl rfl | exact Or.inr rfl | omega | exact Or.inr (by assumption) | exact zz_oku (by assumption) (by first | exact Or.inl rfl | exact Or.inr ⟨_, by omega, rfl⟩))⟩ (hw.sub [24, 25, 0, 1, 2, 3, 4, 5, 6, 7, 8, 9, 10, 11, 12, 13, 14, 15, 16, 17, 18, 19, 20, 21, 22, 23] (by decide +kernel) rfl) rfl dX10_marksIn_16
theorem kd_ncX10_star : kd_ck 109861234680368126199689241325512712340285253279204111479409569587927953487404527415386776045620779292295616236557919199343610708512022196758027015117651984670185755939938210722165430174580579868684774507115492661966469183314057685167745444386411090011342272682983123236170746785329624331143198747 123 cX10_star.data.toList 0 = true := by decide +kernel
theorem dX10_star_0 : decode cX10_star 0 = .ok (.iload_n 1, 1) := kd_dk0 kd_o27 kd_ncX10_star rfl
theorem dX10_star_1 : decode cX10_star 1 = .ok (.invokestatic 449, 3) := kd_dk2 kd_o184 kd_ncX10_star rfl
theorem dX10_star_4 : decode cX10_star 4 = .ok (.ifCond .eq 12, 3) := kd_dj2 kd_o153 (w := 12) kd_ncX10_star rfl rfl
theorem dX10_star_7 : decode cX10_star 7 = .ok (.iload_n 2, 1) := kd_dk0 kd_o28 kd_ncX10_star rfl
theorem dX10_star_8 : decode cX10_star 8 = .ok (.iconst 0, 1) := kd_dk0 kd_o3 kd_ncX10_star rfl
theorem dX10_star_9 : decode cX10_star 9 = .ok (.iconst 1, 1) := kd_dk0 kd_o4 kd_ncX10_star rfl
theorem dX10_star_10 : decode cX10_star 10 = .ok (.invokestatic 313, 3) := kd_dk2 kd_o184 kd_ncX10_star rfl
theorem dX10_star_13 : decode cX10_star 13 = .ok (.ifCond .ne 5, 3) := kd_dj2 kd_o154 (w := 5) kd_ncX10_star rfl rfl
theorem dX10_star_16 : decode cX10_star 16 = .ok (.iconst (-1), 1) := kd_dk0 kd_o2 kd_ncX10_star rfl
theorem dX10_star_17 : decode cX10_star 17 = .ok (.ireturn, 1) := kd_dk0 kd_o172 kd_ncX10_star rfl
theorem dX10_star_18 : decode cX10_star 18 = .ok (.aload_n 0, 1) := kd_dk0 kd_o42 kd_ncX10_star rfl
theorem dX10_star_19 : decode cX10_star 19 = .ok (.invokevirtual 442, 3) := kd_dk2 kd_o182 kd_ncX10_star rfl
theorem dX10_star_22 : decode cX10_star 22 = .ok (.aload_n 0, 1) := kd_dk0 kd_o42 kd_ncX10_star rfl
theorem dX10_star_23 : decode cX10_star 23 = .ok (.iload_n 1, 1) := kd_dk0 kd_o27 kd_ncX10_star rfl
theorem dX10_star_24 : decode cX10_star 24 = .ok (.invokevirtual 397, 3) := kd_dk2 kd_o182 kd_ncX10_star rfl
theorem dX10_star_27 : decode cX10_star 27 = .ok (.bipush (-2), 2) := kd_dj1 kd_o16 (w := 254) kd_ncX10_star rfl rfl
theorem dX10_star_29 : decode cX10_star 29 = .ok (.istore_n 3, 1) := kd_dk0 kd_o62 kd_ncX10_star rfl
theorem dX10_star_30 : decode cX10_star 30 = .ok (.bipush (-2), 2) := kd_dj1 kd_o16 (w := 254) kd_ncX10_star rfl rfl
theorem dX10_star_32 : decode cX10_star 32 = .ok (.istore 4, 2) := kd_dk1 kd_o54 kd_ncX10_star rfl
theorem dX10_star_34 : decode cX10_star 34 = .ok (.iconst 0, 1) := kd_dk0 kd_o3 kd_ncX10_star rfl
theorem dX10_star_35 : decode cX10_star 35 = .ok (.istore 5, 2) := kd_dk1 kd_o54 kd_ncX10_star rfl
theorem dX10_star_37 : decode cX10_star 37 = .ok (.iload 5, 2) := kd_dk1 kd_o21 kd_ncX10_star rfl
theorem dX10_star_39 : decode cX10_star 39 = .ok (.aload_n 0, 1) := kd_dk0 kd_o42 kd_ncX10_star rfl
theorem dX10_star_40 : decode cX10_star 40 = .ok (.getfield 43, 3) := kd_dk2 kd_o180 kd_ncX10_star rfl
theorem dX10_star_43 : decode cX10_star 43 = .ok (.aload_n 0, 1) := kd_dk0 kd_o42 kd_ncX10_star rfl
theorem dX10_star_44 : decode cX10_star 44 = .ok (.getfield 236, 3) := kd_dk2 kd_o180 kd_ncX10_star rfl
theorem dX10_star_47 : decode cX10_star 47 = .ok (.iaload, 1) := kd_dk0 kd_o46 kd_ncX10_star rfl
theorem dX10_star_48 : decode cX10_star 48 = .ok (.if_icmp .ge 64, 3) := kd_dj2 kd_o162 (w := 64) kd_ncX10_star rfl rfl
theorem dX10_star_51 : decode cX10_star 51 = .ok (.aload_n 0, 1) := kd_dk0 kd_o42 kd_ncX10_star rfl
theorem dX10_star_52 : decode cX10_star 52 = .ok (.getfield 113, 3) := kd_dk2 kd_o180 kd_ncX10_star rfl
theorem dX10_star_55 : decode cX10_star 55 = .ok (.bipush 7, 2) := kd_dj1 kd_o16 (w := 7) kd_ncX10_star rfl rfl
theorem dX10_star_57 : decode cX10_star 57 = .ok (.iload 5, 2) := kd_dk1 kd_o21 kd_ncX10_star rfl
theorem dX10_star_59 : decode cX10_star 59 = .ok (.iadd, 1) := kd_dk0 kd_o96 kd_ncX10_star rfl
theorem dX10_star_60 : decode cX10_star 60 = .ok (.iaload, 1) := kd_dk0 kd_o46 kd_ncX10_star rfl
theorem dX10_star_61 : decode cX10_star 61 = .ok (.aload_n 0, 1) := kd_dk0 kd_o42 kd_ncX10_star rfl
theorem dX10_star_62 : decode cX10_star 62 = .ok (.getfield 110, 3) := kd_dk2 kd_o180 kd_ncX10_star rfl
theorem dX10_star_65 : decode cX10_star 65 = .ok (.bipush 7, 2) := kd_dj1 kd_o16 (w := 7) kd_ncX10_star rfl rfl
theorem dX10_star_67 : decode cX10_star 67 = .ok (.iload 5, 2) := kd_dk1 kd_o21 kd_ncX10_star rfl
theorem dX10_star_69 : decode cX10_star 69 = .ok (.iadd, 1) := kd_dk0 kd_o96 kd_ncX10_star rfl
theorem dX10_star_70 : decode cX10_star 70 = .ok (.iaload, 1) := kd_dk0 kd_o46 kd_ncX10_star rfl
theorem dX10_star_71 : decode cX10_star 71 = .ok (.isub, 1) := kd_dk0 kd_o100 kd_ncX10_star rfl
theorem dX10_star_72 : decode cX10_star 72 = .ok (.iload 4, 2) := kd_dk1 kd_o21 kd_ncX10_star rfl
theorem dX10_star_74 : decode cX10_star 74 = .ok (.if_icmp .gt 6, 3) := kd_dj2 kd_o163 (w := 6) kd_ncX10_star rfl rfl
theorem dX10_star_77 : decode cX10_star 77 = .ok (.goto 29, 3) := kd_dj2 kd_o167 (w := 29) kd_ncX10_star rfl rfl
theorem dX10_star_80 : decode cX10_star 80 = .ok (.iload 5, 2) := kd_dk1 kd_o21 kd_ncX10_star rfl
theorem dX10_star_82 : decode cX10_star 82 = .ok (.istore_n 3, 1) := kd_dk0 kd_o62 kd_ncX10_star rfl
theorem dX10_star_83 : decode cX10_star 83 = .ok (.aload_n 0, 1) := kd_dk0 kd_o42 kd_ncX10_star rfl
theorem dX10_star_84 : decode cX10_star 84 = .ok (.getfield 113, 3) := kd_dk2 kd_o180 kd_ncX10_star rfl
theorem dX10_star_87 : decode cX10_star 87 = .ok (.bipush 7, 2) := kd_dj1 kd_o16 (w := 7) kd_ncX10_star rfl rfl
theorem dX10_star_89 : decode cX10_star 89 = .ok (.iload 5, 2) := kd_dk1 kd_o21 kd_ncX10_star rfl
theorem dX10_star_91 : decode cX10_star 91 = .ok (.iadd, 1) := kd_dk0 kd_o96 kd_ncX10_star rfl
theorem dX10_star_92 : decode cX10_star 92 = .ok (.iaload, 1) := kd_dk0 kd_o46 kd_ncX10_star rfl
theorem dX10_star_93 : decode cX10_star 93 = .ok (.aload_n 0, 1) := kd_dk0 kd_o42 kd_ncX10_star rfl
theorem dX10_star_94 : decode cX10_star 94 = .ok (.getfield 110, 3) := kd_dk2 kd_o180 kd_ncX10_star rfl
theorem dX10_star_97 : decode cX10_star 97 = .ok (.bipush 7, 2) := kd_dj1 kd_o16 (w := 7) kd_ncX10_star rfl rfl
theorem dX10_star_99 : decode cX10_star 99 = .ok (.iload 5, 2) := kd_dk1 kd_o21 kd_ncX10_star rfl
theorem dX10_star_101 : decode cX10_star 101 = .ok (.iadd, 1) := kd_dk0 kd_o96 kd_ncX10_star rfl
theorem dX10_star_102 : decode cX10_star 102 = .ok (.iaload, 1) := kd_dk0 kd_o46 kd_ncX10_star rfl
theorem dX10_star_103 : decode cX10_star 103 = .ok (.isub, 1) := kd_dk0 kd_o100 kd_ncX10_star rfl
theorem dX10_star_104 : decode cX10_star 104 = .ok (.istore 4, 2) := kd_dk1 kd_o54 kd_ncX10_star rfl
theorem dX10_star_106 : decode cX10_star 106 = .ok (.iinc 5 1, 3) := kd_dji kd_o132 (w := 1) kd_ncX10_star rfl rfl
theorem dX10_star_109 : decode cX10_star 109 = .ok (.goto (-72), 3) := kd_dj2 kd_o167 (w := 65464) kd_ncX10_star rfl rfl
theorem dX10_star_112 : decode cX10_star 112 = .ok (.iload_n 2, 1) := kd_dk0 kd_o28 kd_ncX10_star rfl
theorem dX10_star_113 : decode cX10_star 113 = .ok (.ifCond .ne 7, 3) := kd_dj2 kd_o154 (w := 7) kd_ncX10_star rfl rfl
theorem dX10_star_116 : decode cX10_star 116 = .ok (.iload_n 3, 1) := kd_dk0 kd_o29 kd_ncX10_star rfl
theorem dX10_star_117 : decode cX10_star 117 = .ok (.goto 5, 3) := kd_dj2 kd_o167 (w := 5) kd_ncX10_star rfl rfl
theorem dX10_star_120 : decode cX10_star 120 = .ok (.iload 4, 2) := kd_dk1 kd_o21 kd_ncX10_star rfl
theorem dX10_star_122 : decode cX10_star 122 = .ok (.ireturn, 1) := kd_dk0 kd_o172 kd_ncX10_star rfl
set_option maxHeartbeats 8000000 in
set_option maxRecDepth 100000 in
theorem c_x_star (l : Launch) (G : zz_G) (r : Nat → Nat) (j0 : Int32) (j2 : Int32) (j4 : Int32) (j10 : Int32) (j11 : Int32) (j12 : Int32) (j13 : Int32) (j14 : Int32) (j15 : Int32) (j16 : Int32) (j17 : Int32) (j19 : Int32) (j20 : Int32) (j34 : Int32) (j40 : Int32) (j44 : Int32) (j47 : Int32) (j50 : Int32) (j51 : Int32) (j56 : Int32) (j61 : Int32) (lv : Nat) (pp : Nat) (pq : Nat) (c22 : Nat → Int32) (c24 : Nat → Int32) (c25 : Nat → Int32) (c26 : Nat → Int32) (c28 : Nat → Int32) (c29 : Nat → Int32) (c30 : Nat → Int32) (c31 : Nat → Int32) (c32 : Nat → Int32) (c33 : Nat → Int32) (c35 : Nat → Int32) (c36 : Nat → Int32) (c37 : Nat → Int32) (c38 : Nat → Int32) (c39 : Nat → Int32) (c41 : Nat → Int32) (c42 : Nat → Int32) (c45 : Nat → Int32) (c46 : Nat → Int32) (c48 : Nat → Int32) (c49 : Nat → Int32) (c52 : Nat → Int32) (c53 : Nat → Int32) (c54 : Nat → Int32) (c55 : Nat → Int32) (ar1 : Int32) (ar2 : Int32) (hlv : lv ≤ 1) (hpe : c22 lv = nI pp) (hpp : pp ≤ 7) (hpa : c26 lv = nI pq) (hpq : pq ≤ 6) (hlw : zz_LW 2 0 0 c32 c33 c35 c36 c37 c38 c39 c41 c42) (hca : ∀ j, j < 6 → zz_ok 7 (c52 j)) : zz_M l G mX10_star 7 0 0 [.ref (r 0), .int ar1, .int ar2] [((r 0), .inr (10, (zz_mo r [(0, j0), (2, j2), (4, j4), (10, j10), (11, j11), (12, j12), (13, j13), (14, j14), (15, j15), (16, j16), (17, j17), (18, (nI lv)), (19, j19), (20, j20), (34, j34), (40, j40), (44, j44), (47, j47), (50, j50), (51, j51), (56, j56), (61, j61)]))), ((r 22), .inl (G.2 0, 2, .inl c22)), ((r 24), .inl (G.2 0, 14, .inl c24)), ((r 25), .inl (G.2 0, 14, .inl c25)), ((r 26), .inl (G.2 0, 2, .inl c26)), ((r 28), .inl (G.2 0, 12, .inl c28)), ((r 29), .inl (G.2 0, 12, .inl c29)), ((r 30), .inl (G.2 0, 2, .inl c30)), ((r 31), .inl (G.2 0, 2, .inl c31)), ((r 32), .inl (G.2 0, 8, .inl c32)), ((r 33), .inl (G.2 0, 8, .inl c33)), ((r 35), .inl (G.2 2, 260, .inl c35)), ((r 36), .inl (G.2 0, 260, .inl c36)), ((r 37), .inl (G.2 0, 260, .inl c37)), ((r 38), .inl (G.2 0, 260, .inl c38)), ((r 39), .inl (G.2 0, 260, .inl c39)), ((r 41), .inl (G.2 0, 840, .inl c41)), ((r 42), .inl (G.2 0, 840, .inl c42)), ((r 45), .inl (G.2 0, 9, .inl c45)), ((r 46), .inl (G.2 0, 400, .inl c46)), ((r 48), .inl (G.2 0, 71, .inl c48)), ((r 49), .inl (G.2 0, 71, .inl c49)), ((r 52), .inl (G.2 0, 6, .inl c52)), ((r 53), .inl (G.2 2, 6, .inl c53)), ((r 54), .inl (G.2 2, 6, .inl c54)), ((r 55), .inl (G.2 0, 6, .inl c55))] (fun rr u => ∃ (rv : Int32), ∃ (k47 : Int32), ∃ (k50 : Int32), ∃ (k51 : Int32), ∃ (d45 : Nat → Int32), ∃ (d46 : Nat → Int32), ∃ (d49 : Nat → Int32), ∃ (d52 : Nat → Int32), ∃ (d53 : Nat → Int32), ∃ (d54 : Nat → Int32), ∃ (d55 : Nat → Int32), rr = some (.int rv) ∧ u = [((r 0), .inr (10, (zz_mo r [(0, j0), (2, j2), (4, j4), (10, j10), (11, j11), (12, j12), (13, j13), (14, j14), (15, j15), (16, j16), (17, j17), (18, (nI lv)), (19, j19), (20, j20), (34, j34), (40, j40), (44, j44), (47, k47), (50, k50), (51, k51), (56, j56), (61, j61)]))), ((r 22), .inl (G.2 0, 2, .inl c22)), ((r 24), .inl (G.2 0, 14, .inl c24)), ((r 25), .inl (G.2 0, 14, .inl c25)), ((r 26), .inl (G.2 0, 2, .inl c26)), ((r 28), .inl (G.2 0, 12, .inl c28)), ((r 29), .inl (G.2 0, 12, .inl c29)), ((r 30), .inl (G.2 0, 2, .inl c30)), ((r 31), .inl (G.2 0, 2, .inl c31)), ((r 32), .inl (G.2 0, 8, .inl c32)), ((r 33), .inl (G.2 0, 8, .inl c33)), ((r 35), .inl (G.2 2, 260, .inl c35)), ((r 36), .inl (G.2 0, 260, .inl c36)), ((r 37), .inl (G.2 0, 260, .inl c37)), ((r 38), .inl (G.2 0, 260, .inl c38)), ((r 39), .inl (G.2 0, 260, .inl c39)), ((r 41), .inl (G.2 0, 840, .inl c41)), ((r 42), .inl (G.2 0, 840, .inl c42)), ((r 45), .inl (G.2 0, 9, .inl d45)), ((r 46), .inl (G.2 0, 400, .inl d46)), ((r 48), .inl (G.2 0, 71, .inl c48)), ((r 49), .inl (G.2 0, 71, .inl d49)), ((r 52), .inl (G.2 0, 6, .inl d52)), ((r 53), .inl (G.2 2, 6, .inl d53)), ((r 54), .inl (G.2 2, 6, .inl d54)), ((r 55), .inl (G.2 0, 6, .inl d55))] ∧ (zA ((zz_In 61 ar1 ∧ ¬ ar1 = 0) ∧ zz_In 2 ar2) (∃ k : Nat, k ≤ 60 ∧ ar1 = nI k ∧ zA_R (zr_go (zr_HD lv c32 c33 c35 c36 c37 c38 c39 c41 c42 (c30 lv)) lv c24 c28 c25 c29 (c30 lv) (c31 lv) 1 pp pq) c48 k (fun τ => rv = zP ar2 (zB (-2, -2) (fun a => τ (7 + a) - c48 (7 + a)) pp))) rv (-1)) ∧ (∀ j, j < 6 → zz_ok 7 (d52 j))) := by
  refine zz_enteri (by decide +kernel) (Nat.le_of_ble_eq_true rfl) ?_
  intro p e s m args below meth c A Q ls S hnm hret hw hl
  have hl : lv_has ls 6 [(0, .ref (r 0)), (1, .int ar1), (2, .int ar2)] := hl
  have hx := S.1
  have hb := S.2.1
  refine lv_iload_n hx hb dX10_star_0 rfl (lv_at hl 1 rfl) ?_
  refine zz_callS (As := [.int ar1]) (rest := []) (wr := [((r 0), .inr (10, (zz_mo r [(0, j0), (2, j2), (4, j4), (10, j10), (11, j11), (12, j12), (13, j13), (14, j14), (15, j15), (16, j16), (17, j17), (18, (nI lv)), (19, j19), (20, j20), (34, j34), (40, j40), (44, j44), (47, j47), (50, j50), (51, j51), (56, j56), (61, j61)]))), ((r 22), .inl (G.2 0, 2, .inl c22)), ((r 24), .inl (G.2 0, 14, .inl c24)), ((r 25), .inl (G.2 0, 14, .inl c25)), ((r 26), .inl (G.2 0, 2, .inl c26)), ((r 28), .inl (G.2 0, 12, .inl c28)), ((r 29), .inl (G.2 0, 12, .inl c29)), ((r 30), .inl (G.2 0, 2, .inl c30)), ((r 31), .inl (G.2 0, 2, .inl c31)), ((r 32), .inl (G.2 0, 8, .inl c32)), ((r 33), .inl (G.2 0, 8, .inl c33)), ((r 35), .inl (G.2 2, 260, .inl c35)), ((r 36), .inl (G.2 0, 260, .inl c36)), ((r 37), .inl (G.2 0, 260, .inl c37)), ((r 38), .inl (G.2 0, 260, .inl c38)), ((r 39), .inl (G.2 0, 260, .inl c39)), ((r 41), .inl (G.2 0, 840, .inl c41)), ((r 42), .inl (G.2 0, 840, .inl c42)), ((r 45), .inl (G.2 0, 9, .inl c45)), ((r 46), .inl (G.2 0, 400, .inl c46)), ((r 48), .inl (G.2 0, 71, .inl c48)), ((r 49), .inl (G.2 0, 71, .inl c49)), ((r 52), .inl (G.2 0, 6, .inl c52)), ((r 53), .inl (G.2 2, 6, .inl c53)), ((r 54), .inl (G.2 2, 6, .inl c54)), ((r 55), .inl (G.2 0, 6, .inl c55))]) S hw hl.1 lX10_449 (c_x_isSome l G ar1) ⟨Nat.le_of_ble_eq_true rfl, Nat.le_of_ble_eq_true rfl⟩ ⟨Nat.le_of_ble_eq_true rfl, Nat.le_of_ble_eq_true rfl⟩ [] [0, 1, 2, 3, 4, 5, 6, 7, 8, 9, 10, 11, 12, 13, 14, 15, 16, 17, 18, 19, 20, 21, 22, 23, 24, 25] (by decide +kernel) rfl rfl (by decide +kernel) (by decide +kernel) rfl rfl (Nat.le_of_ble_eq_true rfl) dX10_star_1 ?_
  clear hw
  intro rr u H locs hp hw
  refine hp.elim fun rv_1 zg0 => zg0.elim fun zee1 zg1 => zg1.elim fun zee2 zg2 => zg2.elim fun hq1_0 zg3 => zg3.elim fun hq1_1 hq1_2 => ?_
  clear hp zg0 zg1 zg2 zg3
  subst zee1
  subst zee2
  replace hw : zz_w G A s [((r 0), .inr (10, (zz_mo r [(0, j0), (2, j2), (4, j4), (10, j10), (11, j11), (12, j12), (13, j13), (14, j14), (15, j15), (16, j16), (17, j17), (18, (nI lv)), (19, j19), (20, j20), (34, j34), (40, j40), (44, j44), (47, j47), (50, j50), (51, j51), (56, j56), (61, j61)]))), ((r 22), .inl (G.2 0, 2, .inl c22)), ((r 24), .inl (G.2 0, 14, .inl c24)), ((r 25), .inl (G.2 0, 14, .inl c25)), ((r 26), .inl (G.2 0, 2, .inl c26)), ((r 28), .inl (G.2 0, 12, .inl c28)), ((r 29), .inl (G.2 0, 12, .inl c29)), ((r 30), .inl (G.2 0, 2, .inl c30)), ((r 31), .inl (G.2 0, 2, .inl c31)), ((r 32), .inl (G.2 0, 8, .inl c32)), ((r 33), .inl (G.2 0, 8, .inl c33)), ((r 35), .inl (G.2 2, 260, .inl c35)), ((r 36), .inl (G.2 0, 260, .inl c36)), ((r 37), .inl (G.2 0, 260, .inl c37)), ((r 38), .inl (G.2 0, 260, .inl c38)), ((r 39), .inl (G.2 0, 260, .inl c39)), ((r 41), .inl (G.2 0, 840, .inl c41)), ((r 42), .inl (G.2 0, 840, .inl c42)), ((r 45), .inl (G.2 0, 9, .inl c45)), ((r 46), .inl (G.2 0, 400, .inl c46)), ((r 48), .inl (G.2 0, 71, .inl c48)), ((r 49), .inl (G.2 0, 71, .inl c49)), ((r 52), .inl (G.2 0, 6, .inl c52)), ((r 53), .inl (G.2 2, 6, .inl c53)), ((r 54), .inl (G.2 2, 6, .inl c54)), ((r 55), .inl (G.2 0, 6, .inl c55))] H _ := hw
  refine W.eq (g2 := F0 m 4 ls [.int rv_1]) rfl ?_
  refine lv_if_eq (tgt := 16) hx hb dX10_star_4 (by decide) (fun c4_2 => ?_) (fun c4_2 => ?_)
  · skip
    refine lv_iconst (v := (-1)) hx hb dX10_star_16 (by decide) ?_
    exact hret _ _ _ _ _ _ ⟨(-1), j47, j50, j51, c45, c46, c49, c52, c53, c54, c55, rfl, rfl, (by first | exact zA0 (fun z => zA_sn hq1_1 (by assumption) z.1) | exact zA0 (fun z => zz_innI (n := 1) (by omega) hq10_1 (by assumption) z.2) | exact zA1 ⟨zA_sy hq1_1 (by assumption) (by assumption), ⟨_, by omega, rfl⟩⟩ ⟨_, by assumption, rfl, _, _, hq19_0, zy_gos hq19_1 hq19_2 hq24_0, zP_0 (zB_e hdry (by omega)) (by assumption)⟩ | exact zA1 ⟨zA_sy hq1_1 (by assumption) (by assumption), ⟨_, by omega, rfl⟩⟩ ⟨_, by assumption, rfl, _, _, hq19_0, zy_gos hq19_1 hq19_2 hq24_0, zP_1 (zB_e hdry (by omega)) (by assumption)⟩), (by first | assumption | exact Or.inl rfl | exact Or.inr rfl | omega | exact Or.inr (by assumption) | exact zz_oku (by assumption) (by first | exact Or.inl rfl | exact Or.inr ⟨_, by omega, rfl⟩))⟩ hw rfl dX10_star_17
  · skip
    obtain ⟨vq3, hvq3, rfl⟩ := hq1_0.resolve_left c4_2
    refine lv_iload_n hx hb dX10_star_7 rfl (lv_at hl 2 rfl) ?_
    refine lv_iconst (v := 0) hx hb dX10_star_8 (by decide) ?_
    refine lv_iconst (v := 1) hx hb dX10_star_9 (by decide) ?_
    refine zz_callS (As := [.int ar2, .int 0, .int 1]) (rest := []) (wr := [((r 0), .inr (10, (zz_mo r [(0, j0), (2, j2), (4, j4), (10, j10), (11, j11), (12, j12), (13, j13), (14, j14), (15, j15), (16, j16), (17, j17), (18, (nI lv)), (19, j19), (20, j20), (34, j34), (40, j40), (44, j44), (47, j47), (50, j50), (51, j51), (56, j56), (61, j61)]))), ((r 22), .inl (G.2 0, 2, .inl c22)), ((r 24), .inl (G.2 0, 14, .inl c24)), ((r 25), .inl (G.2 0, 14, .inl c25)), ((r 26), .inl (G.2 0, 2, .inl c26)), ((r 28), .inl (G.2 0, 12, .inl c28)), ((r 29), .inl (G.2 0, 12, .inl c29)), ((r 30), .inl (G.2 0, 2, .inl c30)), ((r 31), .inl (G.2 0, 2, .inl c31)), ((r 32), .inl (G.2 0, 8, .inl c32)), ((r 33), .inl (G.2 0, 8, .inl c33)), ((r 35), .inl (G.2 2, 260, .inl c35)), ((r 36), .inl (G.2 0, 260, .inl c36)), ((r 37), .inl (G.2 0, 260, .inl c37)), ((r 38), .inl (G.2 0, 260, .inl c38)), ((r 39), .inl (G.2 0, 260, .inl c39)), ((r 41), .inl (G.2 0, 840, .inl c41)), ((r 42), .inl (G.2 0, 840, .inl c42)), ((r 45), .inl (G.2 0, 9, .inl c45)), ((r 46), .inl (G.2 0, 400, .inl c46)), ((r 48), .inl (G.2 0, 71, .inl c48)), ((r 49), .inl (G.2 0, 71, .inl c49)), ((r 52), .inl (G.2 0, 6, .inl c52)), ((r 53), .inl (G.2 2, 6, .inl c53)), ((r 54), .inl (G.2 2, 6, .inl c54)), ((r 55), .inl (G.2 0, 6, .inl c55))]) S hw hl.1 lX10_313 (c_x_in l G ar2 0 1) ⟨Nat.le_of_ble_eq_true rfl, Nat.le_of_ble_eq_true rfl⟩ ⟨Nat.le_of_ble_eq_true rfl, Nat.le_of_ble_eq_true rfl⟩ [] [0, 1, 2, 3, 4, 5, 6, 7, 8, 9, 10, 11, 12, 13, 14, 15, 16, 17, 18, 19, 20, 21, 22, 23, 24, 25] (by decide +kernel) rfl rfl (by decide +kernel) (by decide +kernel) rfl rfl (Nat.le_of_ble_eq_true rfl) dX10_star_10 ?_
    clear hw
    intro rr u H locs hp hw
    refine hp.elim fun rv_4 zg0 => zg0.elim fun zee1 zg1 => zg1.elim fun zee2 zg2 => zg2.elim fun hq10_0 zg3 => zg3.elim fun hq10_1 hq10_2 => ?_
    clear hp zg0 zg1 zg2 zg3
    subst zee1
    subst zee2
    replace hw : zz_w G A s [((r 0), .inr (10, (zz_mo r [(0, j0), (2, j2), (4, j4), (10, j10), (11, j11), (12, j12), (13, j13), (14, j14), (15, j15), (16, j16), (17, j17), (18, (nI lv)), (19, j19), (20, j20), (34, j34), (40, j40), (44, j44), (47, j47), (50, j50), (51, j51), (56, j56), (61, j61)]))), ((r 22), .inl (G.2 0, 2, .inl c22)), ((r 24), .inl (G.2 0, 14, .inl c24)), ((r 25), .inl (G.2 0, 14, .inl c25)), ((r 26), .inl (G.2 0, 2, .inl c26)), ((r 28), .inl (G.2 0, 12, .inl c28)), ((r 29), .inl (G.2 0, 12, .inl c29)), ((r 30), .inl (G.2 0, 2, .inl c30)), ((r 31), .inl (G.2 0, 2, .inl c31)), ((r 32), .inl (G.2 0, 8, .inl c32)), ((r 33), .inl (G.2 0, 8, .inl c33)), ((r 35), .inl (G.2 2, 260, .inl c35)), ((r 36), .inl (G.2 0, 260, .inl c36)), ((r 37), .inl (G.2 0, 260, .inl c37)), ((r 38), .inl (G.2 0, 260, .inl c38)), ((r 39), .inl (G.2 0, 260, .inl c39)), ((r 41), .inl (G.2 0, 840, .inl c41)), ((r 42), .inl (G.2 0, 840, .inl c42)), ((r 45), .inl (G.2 0, 9, .inl c45)), ((r 46), .inl (G.2 0, 400, .inl c46)), ((r 48), .inl (G.2 0, 71, .inl c48)), ((r 49), .inl (G.2 0, 71, .inl c49)), ((r 52), .inl (G.2 0, 6, .inl c52)), ((r 53), .inl (G.2 2, 6, .inl c53)), ((r 54), .inl (G.2 2, 6, .inl c54)), ((r 55), .inl (G.2 0, 6, .inl c55))] H _ := hw
    refine W.eq (g2 := F0 m 13 ls [.int rv_4]) rfl ?_
    refine lv_if_ne (tgt := 18) hx hb dX10_star_13 (by decide) (fun c13_5 => ?_) (fun c13_5 => ?_)
    · skip
      have hq10_0i := hq10_0.resolve_left c13_5
      obtain ⟨vq6, hvq6, rfl⟩ : ∃ k : Nat, k ≤ 1 ∧ ar2 = nI k := zz_rng (zz_lo0 hq10_0i.1) hq10_0i.2 (by omega)
      refine lv_aload_n hx hb dX10_star_18 rfl (lv_at hl 0 rfl) ?_
      refine zz_callV (qb := 0) (As := []) (rest := []) (wr := [((r 22), .inl (G.2 0, 2, .inl c22)), ((r 24), .inl (G.2 0, 14, .inl c24)), ((r 25), .inl (G.2 0, 14, .inl c25)), ((r 26), .inl (G.2 0, 2, .inl c26)), ((r 28), .inl (G.2 0, 12, .inl c28)), ((r 29), .inl (G.2 0, 12, .inl c29)), ((r 30), .inl (G.2 0, 2, .inl c30)), ((r 32), .inl (G.2 0, 8, .inl c32)), ((r 33), .inl (G.2 0, 8, .inl c33)), ((r 35), .inl (G.2 2, 260, .inl c35)), ((r 36), .inl (G.2 0, 260, .inl c36)), ((r 37), .inl (G.2 0, 260, .inl c37)), ((r 38), .inl (G.2 0, 260, .inl c38)), ((r 39), .inl (G.2 0, 260, .inl c39)), ((r 41), .inl (G.2 0, 840, .inl c41)), ((r 42), .inl (G.2 0, 840, .inl c42)), ((r 45), .inl (G.2 0, 9, .inl c45)), ((r 46), .inl (G.2 0, 400, .inl c46)), ((r 52), .inl (G.2 0, 6, .inl c52)), ((r 53), .inl (G.2 2, 6, .inl c53)), ((r 54), .inl (G.2 2, 6, .inl c54)), ((r 55), .inl (G.2 0, 6, .inl c55))]) S hw hl.1 lX10_442 (c_x_copiesStill l G r j0 j2 j4 j10 j11 j12 j13 j14 j15 j16 j17 j19 j20 j34 j40 j44 j47 j50 j51 j56 j61 lv c31 c48 c49 (by first | assumption | omega | exact Or.inr ⟨_, by omega, rfl⟩ | (unfold zz_sok; decide) | decide | exact (fun j hj => (hv7 j hj).1))) ⟨Nat.le_of_ble_eq_true rfl, Nat.le_of_ble_eq_true rfl⟩ ⟨Nat.le_of_ble_eq_true rfl, Nat.le_of_ble_eq_true rfl⟩ [0, 8, 20, 21] [1, 2, 3, 4, 5, 6, 7, 9, 10, 11, 12, 13, 14, 15, 16, 17, 18, 19, 22, 23, 24, 25] (by decide +kernel) rfl rfl (by decide +kernel) (by decide +kernel) rfl rfl rfl rfl (Nat.le_of_ble_eq_true rfl) dX10_star_19 ?_
      clear hw
      intro rr u H locs hp hw
      refine hp.elim fun k50_7 zg0 => zg0.elim fun k51_8 zg1 => zg1.elim fun d49_9 zg2 => zg2.elim fun zee1 zg3 => zg3.elim fun zee2 zg4 => zg4.elim fun hq19_0 zg5 => zg5.elim fun hq19_1 hq19_2 => ?_
      clear hp zg0 zg1 zg2 zg3 zg4 zg5
      subst zee1
      subst zee2
      replace hw : zz_w G A s [((r 22), .inl (G.2 0, 2, .inl c22)), ((r 24), .inl (G.2 0, 14, .inl c24)), ((r 25), .inl (G.2 0, 14, .inl c25)), ((r 26), .inl (G.2 0, 2, .inl c26)), ((r 28), .inl (G.2 0, 12, .inl c28)), ((r 29), .inl (G.2 0, 12, .inl c29)), ((r 30), .inl (G.2 0, 2, .inl c30)), ((r 32), .inl (G.2 0, 8, .inl c32)), ((r 33), .inl (G.2 0, 8, .inl c33)), ((r 35), .inl (G.2 2, 260, .inl c35)), ((r 36), .inl (G.2 0, 260, .inl c36)), ((r 37), .inl (G.2 0, 260, .inl c37)), ((r 38), .inl (G.2 0, 260, .inl c38)), ((r 39), .inl (G.2 0, 260, .inl c39)), ((r 41), .inl (G.2 0, 840, .inl c41)), ((r 42), .inl (G.2 0, 840, .inl c42)), ((r 45), .inl (G.2 0, 9, .inl c45)), ((r 46), .inl (G.2 0, 400, .inl c46)), ((r 52), .inl (G.2 0, 6, .inl c52)), ((r 53), .inl (G.2 2, 6, .inl c53)), ((r 54), .inl (G.2 2, 6, .inl c54)), ((r 55), .inl (G.2 0, 6, .inl c55)), ((r 0), .inr (10, (zz_mo r [(0, j0), (2, j2), (4, j4), (10, j10), (11, j11), (12, j12), (13, j13), (14, j14), (15, j15), (16, j16), (17, j17), (18, (nI lv)), (19, j19), (20, j20), (34, j34), (40, j40), (44, j44), (47, j47), (50, k50_7), (51, k51_8), (56, j56), (61, j61)]))), ((r 31), .inl (G.2 0, 2, .inl c31)), ((r 48), .inl (G.2 0, 71, .inl c48)), ((r 49), .inl (G.2 0, 71, .inl d49_9))] H _ := hw
      refine W.eq (g2 := F0 m 22 ls []) rfl ?_
      refine lv_aload_n hx hb dX10_star_22 rfl (lv_at hl 0 rfl) ?_
      refine lv_iload_n hx hb dX10_star_23 rfl (lv_at hl 1 rfl) ?_
      refine zz_callV (qb := 22) (As := [.int (nI vq3)]) (rest := []) (wr := [((r 31), .inl (G.2 0, 2, .inl c31)), ((r 48), .inl (G.2 0, 71, .inl c48))]) S hw hl.1 lX10_397 (c_x_goes l G r j0 j2 j4 j10 j11 j12 j13 j14 j15 j16 j17 j19 j20 j34 j40 j44 j47 k50_7 k51_8 j56 j61 lv pp pq c22 c24 c25 c26 c28 c29 c30 c32 c33 c35 c36 c37 c38 c39 c41 c42 c45 c46 d49_9 c52 c53 c54 c55 vq3 (by first | assumption | omega | exact Or.inr ⟨_, by omega, rfl⟩ | (unfold zz_sok; decide) | decide | exact (fun j hj => (hv7 j hj).1)) (by first | assumption | omega | exact Or.inr ⟨_, by omega, rfl⟩ | (unfold zz_sok; decide) | decide | exact (fun j hj => (hv7 j hj).1)) (by first | assumption | omega | exact Or.inr ⟨_, by omega, rfl⟩ | (unfold zz_sok; decide) | decide | exact (fun j hj => (hv7 j hj).1)) (by first | assumption | omega | exact Or.inr ⟨_, by omega, rfl⟩ | (unfold zz_sok; decide) | decide | exact (fun j hj => (hv7 j hj).1)) (by first | assumption | omega | exact Or.inr ⟨_, by omega, rfl⟩ | (unfold zz_sok; decide) | decide | exact (fun j hj => (hv7 j hj).1)) (by first | assumption | omega | exact Or.inr ⟨_, by omega, rfl⟩ | (unfold zz_sok; decide) | decide | exact (fun j hj => (hv7 j hj).1)) (by first | assumption | omega | exact Or.inr ⟨_, by omega, rfl⟩ | (unfold zz_sok; decide) | decide | exact (fun j hj => (hv7 j hj).1)) (by first | assumption | omega | exact Or.inr ⟨_, by omega, rfl⟩ | (unfold zz_sok; decide) | decide | exact (fun j hj => (hv7 j hj).1))) ⟨Nat.le_of_ble_eq_true rfl, Nat.le_of_ble_eq_true rfl⟩ ⟨Nat.le_of_ble_eq_true rfl, Nat.le_of_ble_eq_true rfl⟩ [22, 0, 1, 2, 3, 4, 5, 6, 7, 8, 9, 10, 11, 12, 13, 14, 15, 16, 17, 25, 18, 19, 20, 21] [23, 24] (by decide +kernel) rfl rfl (by decide +kernel) (by decide +kernel) rfl rfl rfl rfl (Nat.le_of_ble_eq_true rfl) dX10_star_24 ?_
      clear hw
      intro rr u H locs hp hw
      refine hp.elim fun k47_10 zg0 => zg0.elim fun d45_11 zg1 => zg1.elim fun d46_12 zg2 => zg2.elim fun d49_13 zg3 => zg3.elim fun d52_14 zg4 => zg4.elim fun d53_15 zg5 => zg5.elim fun d54_16 zg6 => zg6.elim fun d55_17 zg7 => zg7.elim fun zee1 zg8 => zg8.elim fun zee2 zg9 => zg9.elim fun hq24_0 hq24_1 => ?_
      clear hp zg0 zg1 zg2 zg3 zg4 zg5 zg6 zg7 zg8 zg9
      subst zee1
      subst zee2
      replace hw : zz_w G A s [((r 31), .inl (G.2 0, 2, .inl c31)), ((r 48), .inl (G.2 0, 71, .inl c48)), ((r 0), .inr (10, (zz_mo r [(0, j0), (2, j2), (4, j4), (10, j10), (11, j11), (12, j12), (13, j13), (14, j14), (15, j15), (16, j16), (17, j17), (18, (nI lv)), (19, j19), (20, j20), (34, j34), (40, j40), (44, j44), (47, k47_10), (50, k50_7), (51, k51_8), (56, j56), (61, j61)]))), ((r 22), .inl (G.2 0, 2, .inl c22)), ((r 24), .inl (G.2 0, 14, .inl c24)), ((r 25), .inl (G.2 0, 14, .inl c25)), ((r 26), .inl (G.2 0, 2, .inl c26)), ((r 28), .inl (G.2 0, 12, .inl c28)), ((r 29), .inl (G.2 0, 12, .inl c29)), ((r 30), .inl (G.2 0, 2, .inl c30)), ((r 32), .inl (G.2 0, 8, .inl c32)), ((r 33), .inl (G.2 0, 8, .inl c33)), ((r 35), .inl (G.2 2, 260, .inl c35)), ((r 36), .inl (G.2 0, 260, .inl c36)), ((r 37), .inl (G.2 0, 260, .inl c37)), ((r 38), .inl (G.2 0, 260, .inl c38)), ((r 39), .inl (G.2 0, 260, .inl c39)), ((r 41), .inl (G.2 0, 840, .inl c41)), ((r 42), .inl (G.2 0, 840, .inl c42)), ((r 45), .inl (G.2 0, 9, .inl d45_11)), ((r 46), .inl (G.2 0, 400, .inl d46_12)), ((r 49), .inl (G.2 0, 71, .inl d49_13)), ((r 52), .inl (G.2 0, 6, .inl d52_14)), ((r 53), .inl (G.2 2, 6, .inl d53_15)), ((r 54), .inl (G.2 2, 6, .inl d54_16)), ((r 55), .inl (G.2 0, 6, .inl d55_17))] H _ := hw
      refine W.eq (g2 := F0 m 27 ls []) rfl ?_
      refine lv_bipush (v := (-2)) hx hb dX10_star_27 (by decide) ?_
      refine lv_istore_n (lv' := [(3, .int (-2)), (0, .ref (r 0)), (1, .int (nI vq3)), (2, .int (nI vq6))]) hx hb dX10_star_29 rfl hl (by decide) rfl (fun ls hl => ?_)
      refine W.eq (g2 := F0 m 30 ls []) rfl ?_
      refine lv_bipush (v := (-2)) hx hb dX10_star_30 (by decide) ?_
      refine lv_istore (lv' := [(4, .int (-2)), (3, .int (-2)), (0, .ref (r 0)), (1, .int (nI vq3)), (2, .int (nI vq6))]) hx hb dX10_star_32 hl (by decide) rfl (fun ls hl => ?_)
      refine lv_iconst (v := 0) hx hb dX10_star_34 (by decide) ?_
      refine lv_istore (lv' := [(5, .int 0), (4, .int (-2)), (3, .int (-2)), (0, .ref (r 0)), (1, .int (nI vq3)), (2, .int (nI vq6))]) hx hb dX10_star_35 hl (by decide) rfl (fun ls hl => ?_)
      have lp37_36 : ∀ (vn19 vi18 : Nat) (vy28 : Int32) (vy29 : Int32) (H : Heap) (locs : List Loc) (ls : Array Slot), vi18 ≤ pp → pp < vi18 + vn19 → (vy29, vy28) = zB (-2, -2) (fun a => d49_13 (7 + a) - c48 (7 + a)) vi18 → zz_w G A s [((r 31), .inl (G.2 0, 2, .inl c31)), ((r 48), .inl (G.2 0, 71, .inl c48)), ((r 0), .inr (10, (zz_mo r [(0, j0), (2, j2), (4, j4), (10, j10), (11, j11), (12, j12), (13, j13), (14, j14), (15, j15), (16, j16), (17, j17), (18, (nI lv)), (19, j19), (20, j20), (34, j34), (40, j40), (44, j44), (47, k47_10), (50, k50_7), (51, k51_8), (56, j56), (61, j61)]))), ((r 22), .inl (G.2 0, 2, .inl c22)), ((r 24), .inl (G.2 0, 14, .inl c24)), ((r 25), .inl (G.2 0, 14, .inl c25)), ((r 26), .inl (G.2 0, 2, .inl c26)), ((r 28), .inl (G.2 0, 12, .inl c28)), ((r 29), .inl (G.2 0, 12, .inl c29)), ((r 30), .inl (G.2 0, 2, .inl c30)), ((r 32), .inl (G.2 0, 8, .inl c32)), ((r 33), .inl (G.2 0, 8, .inl c33)), ((r 35), .inl (G.2 2, 260, .inl c35)), ((r 36), .inl (G.2 0, 260, .inl c36)), ((r 37), .inl (G.2 0, 260, .inl c37)), ((r 38), .inl (G.2 0, 260, .inl c38)), ((r 39), .inl (G.2 0, 260, .inl c39)), ((r 41), .inl (G.2 0, 840, .inl c41)), ((r 42), .inl (G.2 0, 840, .inl c42)), ((r 45), .inl (G.2 0, 9, .inl d45_11)), ((r 46), .inl (G.2 0, 400, .inl d46_12)), ((r 49), .inl (G.2 0, 71, .inl d49_13)), ((r 52), .inl (G.2 0, 6, .inl d52_14)), ((r 53), .inl (G.2 2, 6, .inl d53_15)), ((r 54), .inl (G.2 2, 6, .inl d54_16)), ((r 55), .inl (G.2 0, 6, .inl d55_17))] H locs → lv_has ls 6 [(5, .int (nI vi18)), (4, .int vy28), (3, .int vy29), (0, .ref (r 0)), (1, .int (nI vq3)), (2, .int (nI vq6))] → W p l e (zz_rm 7 0 0) s m args below meth c H locs (0) (0) Q (F0 m 37 ls []) := by
        intro vn19
        induction vn19 with
        | zero => intro vi18 vy28 vy29 H locs ls hi1 hi2; exact absurd hi2 (by omega)
        | succ vn19 ih37 =>
          intro vi18 vy28 vy29 H locs ls hi37a hi37b hv37_35 hw hl
          refine lv_iload hx hb dX10_star_37 (lv_at hl 0 rfl) ?_
          refine lv_aload_n hx hb dX10_star_39 rfl (lv_at hl 3 rfl) ?_
          refine zz_get (v := .ref (r 22)) S hw fgX10_43 2 rfl rfl dX10_star_40 ?_
          refine lv_aload_n hx hb dX10_star_43 rfl (lv_at hl 3 rfl) ?_
          refine zz_get (v := .int (nI lv)) S hw fgX10_236 2 rfl rfl dX10_star_44 ?_
          refine zz_iald (v := (nI pp)) S hw 3 rfl (vp_in_nI (n := lv) (by omega) (by decide)) (by rw [show ((nI lv) : Int32).toNatClampNeg = lv from nI_clamp (n := lv) (by omega)]; exact hpe) dX10_star_47 ?_
          refine lv_icmp_ge (tgt := 112) hx hb dX10_star_48 (by decide) (fun c48_37 => ?_) (fun c48_37 => ?_)
          · skip
            have c48_37n : pp ≤ vi18 := (zz_le (a := pp) (b := vi18) rfl rfl (by omega) (by omega)).mp c48_37
            refine lv_iload_n hx hb dX10_star_112 rfl (lv_at hl 5 rfl) ?_
            refine lv_if_ne (tgt := 120) hx hb dX10_star_113 (by decide) (fun c113_38 => ?_) (fun c113_38 => ?_)
            · skip
              have c113_38n : ¬ (vq6 = 0) := fun z => c113_38 ((zz_eq (a := vq6) (b := 0) rfl rfl (by omega) (by omega)).mpr z)
              refine lv_iload hx hb dX10_star_120 (lv_at hl 1 rfl) ?_
              exact hret _ _ _ _ _ _ ⟨vy28, k47_10, k50_7, k51_8, d45_11, d46_12, d49_13, d52_14, d53_15, d54_16, d55_17, rfl, rfl, (by first | exact zA0 (fun z => zA_sn hq1_1 (by assumption) z.1) | exact zA0 (fun z => zz_innI (n := 1) (by omega) hq10_1 (by assumption) z.2) | exact zA1 ⟨zA_sy hq1_1 (by assumption) (by assumption), ⟨_, by omega, rfl⟩⟩ ⟨_, by assumption, rfl, _, _, hq19_0, zy_gos hq19_1 hq19_2 hq24_0, zP_0 (zB_e hv37_35 (by omega)) (by assumption)⟩ | exact zA1 ⟨zA_sy hq1_1 (by assumption) (by assumption), ⟨_, by omega, rfl⟩⟩ ⟨_, by assumption, rfl, _, _, hq19_0, zy_gos hq19_1 hq19_2 hq24_0, zP_1 (zB_e hv37_35 (by omega)) (by assumption)⟩), (by first | assumption | exact Or.inl rfl | exact Or.inr rfl | omega | exact Or.inr (by assumption) | exact zz_oku (by assumption) (by first | exact Or.inl rfl | exact Or.inr ⟨_, by omega, rfl⟩))⟩ (hw.sub [2, 3, 4, 5, 6, 7, 8, 9, 0, 10, 11, 12, 13, 14, 15, 16, 17, 18, 19, 20, 1, 21, 22, 23, 24, 25] (by decide +kernel) rfl) rfl dX10_star_122
            · skip
              have c113_38n : vq6 = 0 := (zz_eq (a := vq6) (b := 0) rfl rfl (by omega) (by omega)).mp c113_38
              refine lv_iload_n hx hb dX10_star_116 rfl (lv_at hl 2 rfl) ?_
              refine lv_goto (tgt := 122) hx hb dX10_star_117 (by decide) ?_
              refine W.eq (g2 := F0 m 122 ls [.int vy29]) rfl ?_
              exact hret _ _ _ _ _ _ ⟨vy29, k47_10, k50_7, k51_8, d45_11, d46_12, d49_13, d52_14, d53_15, d54_16, d55_17, rfl, rfl, (by first | exact zA0 (fun z => zA_sn hq1_1 (by assumption) z.1) | exact zA0 (fun z => zz_innI (n := 1) (by omega) hq10_1 (by assumption) z.2) | exact zA1 ⟨zA_sy hq1_1 (by assumption) (by assumption), ⟨_, by omega, rfl⟩⟩ ⟨_, by assumption, rfl, _, _, hq19_0, zy_gos hq19_1 hq19_2 hq24_0, zP_0 (zB_e hv37_35 (by omega)) (by assumption)⟩ | exact zA1 ⟨zA_sy hq1_1 (by assumption) (by assumption), ⟨_, by omega, rfl⟩⟩ ⟨_, by assumption, rfl, _, _, hq19_0, zy_gos hq19_1 hq19_2 hq24_0, zP_1 (zB_e hv37_35 (by omega)) (by assumption)⟩), (by first | assumption | exact Or.inl rfl | exact Or.inr rfl | omega | exact Or.inr (by assumption) | exact zz_oku (by assumption) (by first | exact Or.inl rfl | exact Or.inr ⟨_, by omega, rfl⟩))⟩ (hw.sub [2, 3, 4, 5, 6, 7, 8, 9, 0, 10, 11, 12, 13, 14, 15, 16, 17, 18, 19, 20, 1, 21, 22, 23, 24, 25] (by decide +kernel) rfl) rfl dX10_star_122
          · skip
            have c48_37n : ¬ (pp ≤ vi18) := fun z => c48_37 ((zz_le (a := pp) (b := vi18) rfl rfl (by omega) (by omega)).mpr z)
            refine lv_aload_n hx hb dX10_star_51 rfl (lv_at hl 3 rfl) ?_
            refine zz_get (v := .ref (r 49)) S hw fgX10_113 2 rfl rfl dX10_star_52 ?_
            refine lv_bipush (v := 7) hx hb dX10_star_55 (by decide) ?_
            refine lv_iload hx hb dX10_star_57 (lv_at hl 0 rfl) ?_
            refine lv_iadd hx hb dX10_star_59 ?_
            refine zz_topi (y := (nI (7 + vi18))) (nI_add _ _) ?_
            refine zz_iald (v := (d49_13 (7 + vi18))) S hw 21 rfl (vp_in_nI (n := (7 + vi18)) (by omega) (by decide)) (congrArg d49_13 (nI_clamp (n := (7 + vi18)) (by omega))) dX10_star_60 ?_
            refine lv_aload_n hx hb dX10_star_61 rfl (lv_at hl 3 rfl) ?_
            refine zz_get (v := .ref (r 48)) S hw fgX10_110 2 rfl rfl dX10_star_62 ?_
            refine lv_bipush (v := 7) hx hb dX10_star_65 (by decide) ?_
            refine lv_iload hx hb dX10_star_67 (lv_at hl 0 rfl) ?_
            refine lv_iadd hx hb dX10_star_69 ?_
            refine zz_topi (y := (nI (7 + vi18))) (nI_add _ _) ?_
            refine zz_iald (v := (c48 (7 + vi18))) S hw 1 rfl (vp_in_nI (n := (7 + vi18)) (by omega) (by decide)) (congrArg c48 (nI_clamp (n := (7 + vi18)) (by omega))) dX10_star_70 ?_
            refine lv_isub hx hb dX10_star_71 ?_
            refine lv_topi (fun z39 ez39 => ?_)
            refine lv_iload hx hb dX10_star_72 (lv_at hl 1 rfl) ?_
            refine W.eq (g2 := F0 m 74 ls [.int vy28, .int z39]) rfl ?_
            refine lv_icmp_gt (tgt := 80) hx hb dX10_star_74 (by decide) (fun c74_40 => ?_) (fun c74_40 => ?_)
            · skip
              refine lv_iload hx hb dX10_star_80 (lv_at hl 0 rfl) ?_
              refine lv_istore_n (lv' := [(3, .int (nI vi18)), (5, .int (nI vi18)), (4, .int vy28), (0, .ref (r 0)), (1, .int (nI vq3)), (2, .int (nI vq6))]) hx hb dX10_star_82 rfl hl (by decide) rfl (fun ls hl => ?_)
              refine lv_aload_n hx hb dX10_star_83 rfl (lv_at hl 3 rfl) ?_
              refine zz_get (v := .ref (r 49)) S hw fgX10_113 2 rfl rfl dX10_star_84 ?_
              refine lv_bipush (v := 7) hx hb dX10_star_87 (by decide) ?_
              refine lv_iload hx hb dX10_star_89 (lv_at hl 1 rfl) ?_
              refine lv_iadd hx hb dX10_star_91 ?_
              refine zz_topi (y := (nI (7 + vi18))) (nI_add _ _) ?_
              refine zz_iald (v := (d49_13 (7 + vi18))) S hw 21 rfl (vp_in_nI (n := (7 + vi18)) (by omega) (by decide)) (congrArg d49_13 (nI_clamp (n := (7 + vi18)) (by omega))) dX10_star_92 ?_
              refine lv_aload_n hx hb dX10_star_93 rfl (lv_at hl 3 rfl) ?_
              refine zz_get (v := .ref (r 48)) S hw fgX10_110 2 rfl rfl dX10_star_94 ?_
              refine lv_bipush (v := 7) hx hb dX10_star_97 (by decide) ?_
              refine lv_iload hx hb dX10_star_99 (lv_at hl 1 rfl) ?_
              refine lv_iadd hx hb dX10_star_101 ?_
              refine zz_topi (y := (nI (7 + vi18))) (nI_add _ _) ?_
              refine zz_iald (v := (c48 (7 + vi18))) S hw 1 rfl (vp_in_nI (n := (7 + vi18)) (by omega) (by decide)) (congrArg c48 (nI_clamp (n := (7 + vi18)) (by omega))) dX10_star_102 ?_
              refine W.eq (g2 := F0 m 103 ls [.int (c48 (7 + vi18)), .int (d49_13 (7 + vi18))]) rfl ?_
              refine lv_isub hx hb dX10_star_103 ?_
              refine lv_topi (fun z41 ez41 => ?_)
              refine lv_istore (lv' := [(4, .int z41), (3, .int (nI vi18)), (5, .int (nI vi18)), (0, .ref (r 0)), (1, .int (nI vq3)), (2, .int (nI vq6))]) hx hb dX10_star_104 hl (by decide) rfl (fun ls hl => ?_)
              refine lv_iinc (v := (nI (vi18 + 1))) (lv' := [(5, .int (nI (vi18 + 1))), (4, .int z41), (3, .int (nI vi18)), (0, .ref (r 0)), (1, .int (nI vq3)), (2, .int (nI vq6))]) hx hb dX10_star_106 hl (k := 2) rfl (nI_add _ 1) (by decide) rfl (fun ls hl => ?_)
              refine lv_goto (tgt := 37) hx hb dX10_star_109 (by decide) ?_
              exact ih37 (vi18 + 1) z41 (nI vi18) _ _ _ (by omega) (by omega) (by first | exact zB_y2 hv37_35 ez39 ez41 (by first | assumption | exact Int32.not_le.mp (by assumption)) | exact zB_n hv37_35 ez39 (by first | assumption | exact Int32.not_lt.mpr (by assumption)) | exact zB_n hv37_35 ez41 (by first | assumption | exact Int32.not_lt.mpr (by assumption))) hw (lv_sub hl [0, 1, 2, 3, 4, 5] rfl)
            · skip
              refine lv_goto (tgt := 106) hx hb dX10_star_77 (by decide) ?_
              refine lv_iinc (v := (nI (vi18 + 1))) (lv' := [(5, .int (nI (vi18 + 1))), (4, .int vy28), (3, .int vy29), (0, .ref (r 0)), (1, .int (nI vq3)), (2, .int (nI vq6))]) hx hb dX10_star_106 hl (k := 0) rfl (nI_add _ 1) (by decide) rfl (fun ls hl => ?_)
              refine lv_goto (tgt := 37) hx hb dX10_star_109 (by decide) ?_
              exact ih37 (vi18 + 1) vy28 vy29 _ _ _ (by omega) (by omega) (by first | exact zB_y2 hv37_35 ez39 ez41 (by first | assumption | exact Int32.not_le.mp (by assumption)) | exact zB_n hv37_35 ez39 (by first | assumption | exact Int32.not_lt.mpr (by assumption)) | exact zB_n hv37_35 ez41 (by first | assumption | exact Int32.not_lt.mpr (by assumption))) hw (lv_sub hl [0, 1, 2, 3, 4, 5] rfl)
      exact lp37_36 (pp + 1 - 0) 0 (-2) (-2) _ _ _ (by omega) (by omega) rfl hw (lv_sub hl [0, 1, 2, 3, 4, 5] rfl)
    · skip
      refine lv_iconst (v := (-1)) hx hb dX10_star_16 (by decide) ?_
      exact hret _ _ _ _ _ _ ⟨(-1), j47, j50, j51, c45, c46, c49, c52, c53, c54, c55, rfl, rfl, (by first | exact zA0 (fun z => zA_sn hq1_1 (by assumption) z.1) | exact zA0 (fun z => zz_innI (n := 1) (by omega) hq10_1 (by assumption) z.2) | exact zA1 ⟨zA_sy hq1_1 (by assumption) (by assumption), ⟨_, by omega, rfl⟩⟩ ⟨_, by assumption, rfl, _, _, hq19_0, zy_gos hq19_1 hq19_2 hq24_0, zP_0 (zB_e hdry (by omega)) (by assumption)⟩ | exact zA1 ⟨zA_sy hq1_1 (by assumption) (by assumption), ⟨_, by omega, rfl⟩⟩ ⟨_, by assumption, rfl, _, _, hq19_0, zy_gos hq19_1 hq19_2 hq24_0, zP_1 (zB_e hdry (by omega)) (by assumption)⟩), (by first | assumption | exact Or.inl rfl | exact Or.inr rfl | omega | exact Or.inr (by assumption) | exact zz_oku (by assumption) (by first | exact Or.inl rfl | exact Or.inr ⟨_, by omega, rfl⟩))⟩ hw rfl dX10_star_17
theorem kd_ncX10_year : kd_ck 166287713176757160586201609164965713739047937841493166828889374227860147248590296553347712518856389216269876623616511294345225803690620523688077607999763769190391925520316443 72 cX10_year.data.toList 0 = true := by decide +kernel
theorem dX10_year_0 : decode cX10_year 0 = .ok (.iload_n 1, 1) := kd_dk0 kd_o27 kd_ncX10_year rfl
theorem dX10_year_1 : decode cX10_year 1 = .ok (.invokestatic 394, 3) := kd_dk2 kd_o184 kd_ncX10_year rfl
theorem dX10_year_4 : decode cX10_year 4 = .ok (.ifCond .eq 13, 3) := kd_dj2 kd_o153 (w := 13) kd_ncX10_year rfl rfl
theorem dX10_year_7 : decode cX10_year 7 = .ok (.iload_n 2, 1) := kd_dk0 kd_o28 kd_ncX10_year rfl
theorem dX10_year_8 : decode cX10_year 8 = .ok (.iconst 1, 1) := kd_dk0 kd_o4 kd_ncX10_year rfl
theorem dX10_year_9 : decode cX10_year 9 = .ok (.bipush 20, 2) := kd_dj1 kd_o16 (w := 20) kd_ncX10_year rfl rfl
theorem dX10_year_11 : decode cX10_year 11 = .ok (.invokestatic 313, 3) := kd_dk2 kd_o184 kd_ncX10_year rfl
theorem dX10_year_14 : decode cX10_year 14 = .ok (.ifCond .ne 5, 3) := kd_dj2 kd_o154 (w := 5) kd_ncX10_year rfl rfl
theorem dX10_year_17 : decode cX10_year 17 = .ok (.iconst (-1), 1) := kd_dk0 kd_o2 kd_ncX10_year rfl
theorem dX10_year_18 : decode cX10_year 18 = .ok (.ireturn, 1) := kd_dk0 kd_o172 kd_ncX10_year rfl
theorem dX10_year_19 : decode cX10_year 19 = .ok (.iconst 0, 1) := kd_dk0 kd_o3 kd_ncX10_year rfl
theorem dX10_year_20 : decode cX10_year 20 = .ok (.istore_n 3, 1) := kd_dk0 kd_o62 kd_ncX10_year rfl
theorem dX10_year_21 : decode cX10_year 21 = .ok (.iconst 0, 1) := kd_dk0 kd_o3 kd_ncX10_year rfl
theorem dX10_year_22 : decode cX10_year 22 = .ok (.istore 4, 2) := kd_dk1 kd_o54 kd_ncX10_year rfl
theorem dX10_year_24 : decode cX10_year 24 = .ok (.iload 4, 2) := kd_dk1 kd_o21 kd_ncX10_year rfl
theorem dX10_year_26 : decode cX10_year 26 = .ok (.iload_n 2, 1) := kd_dk0 kd_o28 kd_ncX10_year rfl
theorem dX10_year_27 : decode cX10_year 27 = .ok (.if_icmp .ge 43, 3) := kd_dj2 kd_o162 (w := 43) kd_ncX10_year rfl rfl
theorem dX10_year_30 : decode cX10_year 30 = .ok (.aload_n 0, 1) := kd_dk0 kd_o42 kd_ncX10_year rfl
theorem dX10_year_31 : decode cX10_year 31 = .ok (.invokevirtual 323, 3) := kd_dk2 kd_o182 kd_ncX10_year rfl
theorem dX10_year_34 : decode cX10_year 34 = .ok (.aload_n 0, 1) := kd_dk0 kd_o42 kd_ncX10_year rfl
theorem dX10_year_35 : decode cX10_year 35 = .ok (.dup, 1) := kd_dk0 kd_o89 kd_ncX10_year rfl
theorem dX10_year_36 : decode cX10_year 36 = .ok (.getfield 317, 3) := kd_dk2 kd_o180 kd_ncX10_year rfl
theorem dX10_year_39 : decode cX10_year 39 = .ok (.iload 4, 2) := kd_dk1 kd_o21 kd_ncX10_year rfl
theorem dX10_year_41 : decode cX10_year 41 = .ok (.iadd, 1) := kd_dk0 kd_o96 kd_ncX10_year rfl
theorem dX10_year_42 : decode cX10_year 42 = .ok (.putfield 317, 3) := kd_dk2 kd_o181 kd_ncX10_year rfl
theorem dX10_year_45 : decode cX10_year 45 = .ok (.aload_n 0, 1) := kd_dk0 kd_o42 kd_ncX10_year rfl
theorem dX10_year_46 : decode cX10_year 46 = .ok (.iload_n 1, 1) := kd_dk0 kd_o27 kd_ncX10_year rfl
theorem dX10_year_47 : decode cX10_year 47 = .ok (.invokevirtual 397, 3) := kd_dk2 kd_o182 kd_ncX10_year rfl
theorem dX10_year_50 : decode cX10_year 50 = .ok (.aload_n 0, 1) := kd_dk0 kd_o42 kd_ncX10_year rfl
theorem dX10_year_51 : decode cX10_year 51 = .ok (.invokevirtual 351, 3) := kd_dk2 kd_o182 kd_ncX10_year rfl
theorem dX10_year_54 : decode cX10_year 54 = .ok (.aload_n 0, 1) := kd_dk0 kd_o42 kd_ncX10_year rfl
theorem dX10_year_55 : decode cX10_year 55 = .ok (.invokevirtual 400, 3) := kd_dk2 kd_o182 kd_ncX10_year rfl
theorem dX10_year_58 : decode cX10_year 58 = .ok (.ifCond .ne 6, 3) := kd_dj2 kd_o154 (w := 6) kd_ncX10_year rfl rfl
theorem dX10_year_61 : decode cX10_year 61 = .ok (.iinc 3 1, 3) := kd_dji kd_o132 (w := 1) kd_ncX10_year rfl rfl
theorem dX10_year_64 : decode cX10_year 64 = .ok (.iinc 4 1, 3) := kd_dji kd_o132 (w := 1) kd_ncX10_year rfl rfl
theorem dX10_year_67 : decode cX10_year 67 = .ok (.goto (-43), 3) := kd_dj2 kd_o167 (w := 65493) kd_ncX10_year rfl rfl
theorem dX10_year_70 : decode cX10_year 70 = .ok (.iload_n 3, 1) := kd_dk0 kd_o29 kd_ncX10_year rfl
theorem dX10_year_71 : decode cX10_year 71 = .ok (.ireturn, 1) := kd_dk0 kd_o172 kd_ncX10_year rfl
set_option maxHeartbeats 8000000 in
set_option maxRecDepth 100000 in
theorem c_x_year (l : Launch) (G : zz_G) (r : Nat → Nat) (j0 : Int32) (j2 : Int32) (j4 : Int32) (j10 : Int32) (j11 : Int32) (j12 : Int32) (j13 : Int32) (j14 : Int32) (j15 : Int32) (j16 : Int32) (j17 : Int32) (j19 : Int32) (j20 : Int32) (j34 : Int32) (j40 : Int32) (j44 : Int32) (j47 : Int32) (j50 : Int32) (j51 : Int32) (j56 : Int32) (j61 : Int32) (lv : Nat) (pp : Nat) (pq : Nat) (c22 : Nat → Int32) (c24 : Nat → Int32) (c25 : Nat → Int32) (c26 : Nat → Int32) (c28 : Nat → Int32) (c29 : Nat → Int32) (c30 : Nat → Int32) (c31 : Nat → Int32) (c32 : Nat → Int32) (c33 : Nat → Int32) (c35 : Nat → Int32) (c36 : Nat → Int32) (c37 : Nat → Int32) (c38 : Nat → Int32) (c39 : Nat → Int32) (c41 : Nat → Int32) (c42 : Nat → Int32) (c45 : Nat → Int32) (c46 : Nat → Int32) (c48 : Nat → Int32) (c49 : Nat → Int32) (c52 : Nat → Int32) (c53 : Nat → Int32) (c54 : Nat → Int32) (c55 : Nat → Int32) (ar1 : Int32) (ar2 : Int32) (hlv : lv ≤ 1) (hpe : c22 lv = nI pp) (hpp : pp ≤ 7) (hpa : c26 lv = nI pq) (hpq : pq ≤ 6) (hlw : zz_LW 2 0 0 c32 c33 c35 c36 c37 c38 c39 c41 c42) (hca : ∀ j, j < 6 → zz_ok 7 (c52 j)) : zz_M l G mX10_year 7 0 0 [.ref (r 0), .int ar1, .int ar2] [((r 0), .inr (10, (zz_mo r [(0, j0), (2, j2), (4, j4), (10, j10), (11, j11), (12, j12), (13, j13), (14, j14), (15, j15), (16, j16), (17, j17), (18, (nI lv)), (19, j19), (20, j20), (34, j34), (40, j40), (44, j44), (47, j47), (50, j50), (51, j51), (56, j56), (61, j61)]))), ((r 22), .inl (G.2 0, 2, .inl c22)), ((r 24), .inl (G.2 0, 14, .inl c24)), ((r 25), .inl (G.2 0, 14, .inl c25)), ((r 26), .inl (G.2 0, 2, .inl c26)), ((r 28), .inl (G.2 0, 12, .inl c28)), ((r 29), .inl (G.2 0, 12, .inl c29)), ((r 30), .inl (G.2 0, 2, .inl c30)), ((r 31), .inl (G.2 0, 2, .inl c31)), ((r 32), .inl (G.2 0, 8, .inl c32)), ((r 33), .inl (G.2 0, 8, .inl c33)), ((r 35), .inl (G.2 2, 260, .inl c35)), ((r 36), .inl (G.2 0, 260, .inl c36)), ((r 37), .inl (G.2 0, 260, .inl c37)), ((r 38), .inl (G.2 0, 260, .inl c38)), ((r 39), .inl (G.2 0, 260, .inl c39)), ((r 41), .inl (G.2 0, 840, .inl c41)), ((r 42), .inl (G.2 0, 840, .inl c42)), ((r 45), .inl (G.2 0, 9, .inl c45)), ((r 46), .inl (G.2 0, 400, .inl c46)), ((r 48), .inl (G.2 0, 71, .inl c48)), ((r 49), .inl (G.2 0, 71, .inl c49)), ((r 52), .inl (G.2 0, 6, .inl c52)), ((r 53), .inl (G.2 2, 6, .inl c53)), ((r 54), .inl (G.2 2, 6, .inl c54)), ((r 55), .inl (G.2 0, 6, .inl c55))] (fun rr u => ∃ (rv : Int32), ∃ (k47 : Int32), ∃ (k50 : Int32), ∃ (k51 : Int32), ∃ (d45 : Nat → Int32), ∃ (d46 : Nat → Int32), ∃ (d49 : Nat → Int32), ∃ (d52 : Nat → Int32), ∃ (d53 : Nat → Int32), ∃ (d54 : Nat → Int32), ∃ (d55 : Nat → Int32), rr = some (.int rv) ∧ u = [((r 0), .inr (10, (zz_mo r [(0, j0), (2, j2), (4, j4), (10, j10), (11, j11), (12, j12), (13, j13), (14, j14), (15, j15), (16, j16), (17, j17), (18, (nI lv)), (19, j19), (20, j20), (34, j34), (40, j40), (44, j44), (47, k47), (50, k50), (51, k51), (56, j56), (61, j61)]))), ((r 22), .inl (G.2 0, 2, .inl c22)), ((r 24), .inl (G.2 0, 14, .inl c24)), ((r 25), .inl (G.2 0, 14, .inl c25)), ((r 26), .inl (G.2 0, 2, .inl c26)), ((r 28), .inl (G.2 0, 12, .inl c28)), ((r 29), .inl (G.2 0, 12, .inl c29)), ((r 30), .inl (G.2 0, 2, .inl c30)), ((r 31), .inl (G.2 0, 2, .inl c31)), ((r 32), .inl (G.2 0, 8, .inl c32)), ((r 33), .inl (G.2 0, 8, .inl c33)), ((r 35), .inl (G.2 2, 260, .inl c35)), ((r 36), .inl (G.2 0, 260, .inl c36)), ((r 37), .inl (G.2 0, 260, .inl c37)), ((r 38), .inl (G.2 0, 260, .inl c38)), ((r 39), .inl (G.2 0, 260, .inl c39)), ((r 41), .inl (G.2 0, 840, .inl c41)), ((r 42), .inl (G.2 0, 840, .inl c42)), ((r 45), .inl (G.2 0, 9, .inl d45)), ((r 46), .inl (G.2 0, 400, .inl d46)), ((r 48), .inl (G.2 0, 71, .inl c48)), ((r 49), .inl (G.2 0, 71, .inl d49)), ((r 52), .inl (G.2 0, 6, .inl d52)), ((r 53), .inl (G.2 2, 6, .inl d53)), ((r 54), .inl (G.2 2, 6, .inl d54)), ((r 55), .inl (G.2 0, 6, .inl d55))] ∧ (zA (zz_In 61 ar1 ∧ (zz_In 21 ar2 ∧ ¬ ar2 = 0)) (∃ k s : Nat, k ≤ 60 ∧ s ≤ 20 ∧ ar1 = nI k ∧ ar2 = nI s ∧ zE (fun i v => zA_R (zr_go (zr_HD lv c32 c33 c35 c36 c37 c38 c39 c41 c42 (c30 lv)) lv c24 c28 c25 c29 (c30 lv) (c31 lv + nI i) 0 pp pq) c48 k (fun τ => ∃ C, zr_FX (zr_HD lv c32 c33 c35 c36 c37 c38 c39 c41 c42 (c30 lv)) (fun Λ => zr_Sx 99 lv τ c24 c28 c25 c29 (Λ 0)) (fun a => τ (14 + a) = 1) (c30 lv) pp pq C ∧ v = zC1 (zO (fun p => C p < 0) pq = 0))) s rv) rv (-1)) ∧ (∀ j, j < 6 → zz_ok 7 (d52 j))) := by
  refine zz_enteri (by decide +kernel) (Nat.le_of_ble_eq_true rfl) ?_
  intro p e s m args below meth c A Q ls S hnm hret hw hl
  have hl : lv_has ls 5 [(0, .ref (r 0)), (1, .int ar1), (2, .int ar2)] := hl
  have hx := S.1
  have hb := S.2.1
  refine lv_iload_n hx hb dX10_year_0 rfl (lv_at hl 1 rfl) ?_
  refine zz_callS (As := [.int ar1]) (rest := []) (wr := [((r 0), .inr (10, (zz_mo r [(0, j0), (2, j2), (4, j4), (10, j10), (11, j11), (12, j12), (13, j13), (14, j14), (15, j15), (16, j16), (17, j17), (18, (nI lv)), (19, j19), (20, j20), (34, j34), (40, j40), (44, j44), (47, j47), (50, j50), (51, j51), (56, j56), (61, j61)]))), ((r 22), .inl (G.2 0, 2, .inl c22)), ((r 24), .inl (G.2 0, 14, .inl c24)), ((r 25), .inl (G.2 0, 14, .inl c25)), ((r 26), .inl (G.2 0, 2, .inl c26)), ((r 28), .inl (G.2 0, 12, .inl c28)), ((r 29), .inl (G.2 0, 12, .inl c29)), ((r 30), .inl (G.2 0, 2, .inl c30)), ((r 31), .inl (G.2 0, 2, .inl c31)), ((r 32), .inl (G.2 0, 8, .inl c32)), ((r 33), .inl (G.2 0, 8, .inl c33)), ((r 35), .inl (G.2 2, 260, .inl c35)), ((r 36), .inl (G.2 0, 260, .inl c36)), ((r 37), .inl (G.2 0, 260, .inl c37)), ((r 38), .inl (G.2 0, 260, .inl c38)), ((r 39), .inl (G.2 0, 260, .inl c39)), ((r 41), .inl (G.2 0, 840, .inl c41)), ((r 42), .inl (G.2 0, 840, .inl c42)), ((r 45), .inl (G.2 0, 9, .inl c45)), ((r 46), .inl (G.2 0, 400, .inl c46)), ((r 48), .inl (G.2 0, 71, .inl c48)), ((r 49), .inl (G.2 0, 71, .inl c49)), ((r 52), .inl (G.2 0, 6, .inl c52)), ((r 53), .inl (G.2 2, 6, .inl c53)), ((r 54), .inl (G.2 2, 6, .inl c54)), ((r 55), .inl (G.2 0, 6, .inl c55))]) S hw hl.1 lX10_394 (c_x_isLong l G ar1) ⟨Nat.le_of_ble_eq_true rfl, Nat.le_of_ble_eq_true rfl⟩ ⟨Nat.le_of_ble_eq_true rfl, Nat.le_of_ble_eq_true rfl⟩ [] [0, 1, 2, 3, 4, 5, 6, 7, 8, 9, 10, 11, 12, 13, 14, 15, 16, 17, 18, 19, 20, 21, 22, 23, 24, 25] (by decide +kernel) rfl rfl (by decide +kernel) (by decide +kernel) rfl rfl (Nat.le_of_ble_eq_true rfl) dX10_year_1 ?_
  clear hw
  intro rr u H locs hp hw
  refine hp.elim fun rv_1 zg0 => zg0.elim fun zee1 zg1 => zg1.elim fun zee2 zg2 => zg2.elim fun hq1_0 zg3 => zg3.elim fun hq1_1 hq1_2 => ?_
  clear hp zg0 zg1 zg2 zg3
  subst zee1
  subst zee2
  replace hw : zz_w G A s [((r 0), .inr (10, (zz_mo r [(0, j0), (2, j2), (4, j4), (10, j10), (11, j11), (12, j12), (13, j13), (14, j14), (15, j15), (16, j16), (17, j17), (18, (nI lv)), (19, j19), (20, j20), (34, j34), (40, j40), (44, j44), (47, j47), (50, j50), (51, j51), (56, j56), (61, j61)]))), ((r 22), .inl (G.2 0, 2, .inl c22)), ((r 24), .inl (G.2 0, 14, .inl c24)), ((r 25), .inl (G.2 0, 14, .inl c25)), ((r 26), .inl (G.2 0, 2, .inl c26)), ((r 28), .inl (G.2 0, 12, .inl c28)), ((r 29), .inl (G.2 0, 12, .inl c29)), ((r 30), .inl (G.2 0, 2, .inl c30)), ((r 31), .inl (G.2 0, 2, .inl c31)), ((r 32), .inl (G.2 0, 8, .inl c32)), ((r 33), .inl (G.2 0, 8, .inl c33)), ((r 35), .inl (G.2 2, 260, .inl c35)), ((r 36), .inl (G.2 0, 260, .inl c36)), ((r 37), .inl (G.2 0, 260, .inl c37)), ((r 38), .inl (G.2 0, 260, .inl c38)), ((r 39), .inl (G.2 0, 260, .inl c39)), ((r 41), .inl (G.2 0, 840, .inl c41)), ((r 42), .inl (G.2 0, 840, .inl c42)), ((r 45), .inl (G.2 0, 9, .inl c45)), ((r 46), .inl (G.2 0, 400, .inl c46)), ((r 48), .inl (G.2 0, 71, .inl c48)), ((r 49), .inl (G.2 0, 71, .inl c49)), ((r 52), .inl (G.2 0, 6, .inl c52)), ((r 53), .inl (G.2 2, 6, .inl c53)), ((r 54), .inl (G.2 2, 6, .inl c54)), ((r 55), .inl (G.2 0, 6, .inl c55))] H _ := hw
  refine W.eq (g2 := F0 m 4 ls [.int rv_1]) rfl ?_
  refine lv_if_eq (tgt := 17) hx hb dX10_year_4 (by decide) (fun c4_2 => ?_) (fun c4_2 => ?_)
  · skip
    refine lv_iconst (v := (-1)) hx hb dX10_year_17 (by decide) ?_
    exact hret _ _ _ _ _ _ ⟨(-1), j47, j50, j51, c45, c46, c49, c52, c53, c54, c55, rfl, rfl, (by first | exact zA0 (fun z => hq1_1 (by assumption) z.1) | exact zA0 (fun z => zA_s20 hq11_1 (by assumption) z.2) | exact zA1 ⟨⟨_, by omega, rfl⟩, zA_y20 hq11_1 (by assumption) (by assumption)⟩ ⟨_, _, by assumption, by assumption, rfl, rfl, zE_e hdry (by omega)⟩), (by first | assumption | exact Or.inl rfl | exact Or.inr rfl | omega | exact Or.inr (by assumption) | exact zz_oku (by assumption) (by first | exact Or.inl rfl | exact Or.inr ⟨_, by omega, rfl⟩))⟩ hw rfl dX10_year_18
  · skip
    obtain ⟨vq3, hvq3, rfl⟩ := hq1_0.resolve_left c4_2
    refine lv_iload_n hx hb dX10_year_7 rfl (lv_at hl 2 rfl) ?_
    refine lv_iconst (v := 1) hx hb dX10_year_8 (by decide) ?_
    refine lv_bipush (v := 20) hx hb dX10_year_9 (by decide) ?_
    refine zz_callS (As := [.int ar2, .int 1, .int 20]) (rest := []) (wr := [((r 0), .inr (10, (zz_mo r [(0, j0), (2, j2), (4, j4), (10, j10), (11, j11), (12, j12), (13, j13), (14, j14), (15, j15), (16, j16), (17, j17), (18, (nI lv)), (19, j19), (20, j20), (34, j34), (40, j40), (44, j44), (47, j47), (50, j50), (51, j51), (56, j56), (61, j61)]))), ((r 22), .inl (G.2 0, 2, .inl c22)), ((r 24), .inl (G.2 0, 14, .inl c24)), ((r 25), .inl (G.2 0, 14, .inl c25)), ((r 26), .inl (G.2 0, 2, .inl c26)), ((r 28), .inl (G.2 0, 12, .inl c28)), ((r 29), .inl (G.2 0, 12, .inl c29)), ((r 30), .inl (G.2 0, 2, .inl c30)), ((r 31), .inl (G.2 0, 2, .inl c31)), ((r 32), .inl (G.2 0, 8, .inl c32)), ((r 33), .inl (G.2 0, 8, .inl c33)), ((r 35), .inl (G.2 2, 260, .inl c35)), ((r 36), .inl (G.2 0, 260, .inl c36)), ((r 37), .inl (G.2 0, 260, .inl c37)), ((r 38), .inl (G.2 0, 260, .inl c38)), ((r 39), .inl (G.2 0, 260, .inl c39)), ((r 41), .inl (G.2 0, 840, .inl c41)), ((r 42), .inl (G.2 0, 840, .inl c42)), ((r 45), .inl (G.2 0, 9, .inl c45)), ((r 46), .inl (G.2 0, 400, .inl c46)), ((r 48), .inl (G.2 0, 71, .inl c48)), ((r 49), .inl (G.2 0, 71, .inl c49)), ((r 52), .inl (G.2 0, 6, .inl c52)), ((r 53), .inl (G.2 2, 6, .inl c53)), ((r 54), .inl (G.2 2, 6, .inl c54)), ((r 55), .inl (G.2 0, 6, .inl c55))]) S hw hl.1 lX10_313 (c_x_in l G ar2 1 20) ⟨Nat.le_of_ble_eq_true rfl, Nat.le_of_ble_eq_true rfl⟩ ⟨Nat.le_of_ble_eq_true rfl, Nat.le_of_ble_eq_true rfl⟩ [] [0, 1, 2, 3, 4, 5, 6, 7, 8, 9, 10, 11, 12, 13, 14, 15, 16, 17, 18, 19, 20, 21, 22, 23, 24, 25] (by decide +kernel) rfl rfl (by decide +kernel) (by decide +kernel) rfl rfl (Nat.le_of_ble_eq_true rfl) dX10_year_11 ?_
    clear hw
    intro rr u H locs hp hw
    refine hp.elim fun rv_4 zg0 => zg0.elim fun zee1 zg1 => zg1.elim fun zee2 zg2 => zg2.elim fun hq11_0 zg3 => zg3.elim fun hq11_1 hq11_2 => ?_
    clear hp zg0 zg1 zg2 zg3
    subst zee1
    subst zee2
    replace hw : zz_w G A s [((r 0), .inr (10, (zz_mo r [(0, j0), (2, j2), (4, j4), (10, j10), (11, j11), (12, j12), (13, j13), (14, j14), (15, j15), (16, j16), (17, j17), (18, (nI lv)), (19, j19), (20, j20), (34, j34), (40, j40), (44, j44), (47, j47), (50, j50), (51, j51), (56, j56), (61, j61)]))), ((r 22), .inl (G.2 0, 2, .inl c22)), ((r 24), .inl (G.2 0, 14, .inl c24)), ((r 25), .inl (G.2 0, 14, .inl c25)), ((r 26), .inl (G.2 0, 2, .inl c26)), ((r 28), .inl (G.2 0, 12, .inl c28)), ((r 29), .inl (G.2 0, 12, .inl c29)), ((r 30), .inl (G.2 0, 2, .inl c30)), ((r 31), .inl (G.2 0, 2, .inl c31)), ((r 32), .inl (G.2 0, 8, .inl c32)), ((r 33), .inl (G.2 0, 8, .inl c33)), ((r 35), .inl (G.2 2, 260, .inl c35)), ((r 36), .inl (G.2 0, 260, .inl c36)), ((r 37), .inl (G.2 0, 260, .inl c37)), ((r 38), .inl (G.2 0, 260, .inl c38)), ((r 39), .inl (G.2 0, 260, .inl c39)), ((r 41), .inl (G.2 0, 840, .inl c41)), ((r 42), .inl (G.2 0, 840, .inl c42)), ((r 45), .inl (G.2 0, 9, .inl c45)), ((r 46), .inl (G.2 0, 400, .inl c46)), ((r 48), .inl (G.2 0, 71, .inl c48)), ((r 49), .inl (G.2 0, 71, .inl c49)), ((r 52), .inl (G.2 0, 6, .inl c52)), ((r 53), .inl (G.2 2, 6, .inl c53)), ((r 54), .inl (G.2 2, 6, .inl c54)), ((r 55), .inl (G.2 0, 6, .inl c55))] H _ := hw
    refine W.eq (g2 := F0 m 14 ls [.int rv_4]) rfl ?_
    refine lv_if_ne (tgt := 19) hx hb dX10_year_14 (by decide) (fun c14_5 => ?_) (fun c14_5 => ?_)
    · skip
      have hq11_0i := hq11_0.resolve_left c14_5
      obtain ⟨vq6, hvq6, rfl⟩ : ∃ k : Nat, k ≤ 20 ∧ ar2 = nI k := zz_rng (zz_lo1 hq11_0i.1) hq11_0i.2 (by omega)
      refine lv_iconst (v := 0) hx hb dX10_year_19 (by decide) ?_
      refine lv_istore_n (lv' := [(3, .int 0), (0, .ref (r 0)), (1, .int (nI vq3)), (2, .int (nI vq6))]) hx hb dX10_year_20 rfl hl (by decide) rfl (fun ls hl => ?_)
      refine lv_iconst (v := 0) hx hb dX10_year_21 (by decide) ?_
      refine lv_istore (lv' := [(4, .int 0), (3, .int 0), (0, .ref (r 0)), (1, .int (nI vq3)), (2, .int (nI vq6))]) hx hb dX10_year_22 hl (by decide) rfl (fun ls hl => ?_)
      have lp24_78 : ∀ (vn8 vi7 : Nat) (vy46 : Int32) (vy47 : Int32) (vy48 : Int32) (vy49 : Int32) (vF50 : Nat → Int32) (vF51 : Nat → Int32) (vF52 : Nat → Int32) (vF53 : Nat → Int32) (vF54 : Nat → Int32) (vF55 : Nat → Int32) (vF56 : Nat → Int32) (H : Heap) (locs : List Loc) (ls : Array Slot), vi7 ≤ vq6 → vq6 < vi7 + vn8 → (∀ j, j < 6 → zz_ok 7 (vF53 j)) → zE (fun i v => zA_R (zr_go (zr_HD lv c32 c33 c35 c36 c37 c38 c39 c41 c42 (c30 lv)) lv c24 c28 c25 c29 (c30 lv) (c31 lv + nI i) 0 pp pq) c48 vq3 (fun τ => ∃ C, zr_FX (zr_HD lv c32 c33 c35 c36 c37 c38 c39 c41 c42 (c30 lv)) (fun Λ => zr_Sx 99 lv τ c24 c28 c25 c29 (Λ 0)) (fun a => τ (14 + a) = 1) (c30 lv) pp pq C ∧ v = zC1 (zO (fun p => C p < 0) pq = 0))) vi7 vy46 → zz_w G A s [((r 0), .inr (10, (zz_mo r [(0, j0), (2, j2), (4, j4), (10, j10), (11, j11), (12, j12), (13, j13), (14, j14), (15, j15), (16, j16), (17, j17), (18, (nI lv)), (19, j19), (20, j20), (34, j34), (40, j40), (44, j44), (47, vy47), (50, vy48), (51, vy49), (56, j56), (61, j61)]))), ((r 22), .inl (G.2 0, 2, .inl c22)), ((r 24), .inl (G.2 0, 14, .inl c24)), ((r 25), .inl (G.2 0, 14, .inl c25)), ((r 26), .inl (G.2 0, 2, .inl c26)), ((r 28), .inl (G.2 0, 12, .inl c28)), ((r 29), .inl (G.2 0, 12, .inl c29)), ((r 30), .inl (G.2 0, 2, .inl c30)), ((r 31), .inl (G.2 0, 2, .inl c31)), ((r 32), .inl (G.2 0, 8, .inl c32)), ((r 33), .inl (G.2 0, 8, .inl c33)), ((r 35), .inl (G.2 2, 260, .inl c35)), ((r 36), .inl (G.2 0, 260, .inl c36)), ((r 37), .inl (G.2 0, 260, .inl c37)), ((r 38), .inl (G.2 0, 260, .inl c38)), ((r 39), .inl (G.2 0, 260, .inl c39)), ((r 41), .inl (G.2 0, 840, .inl c41)), ((r 42), .inl (G.2 0, 840, .inl c42)), ((r 45), .inl (G.2 0, 9, .inl vF50)), ((r 46), .inl (G.2 0, 400, .inl vF51)), ((r 48), .inl (G.2 0, 71, .inl c48)), ((r 49), .inl (G.2 0, 71, .inl vF52)), ((r 52), .inl (G.2 0, 6, .inl vF53)), ((r 53), .inl (G.2 2, 6, .inl vF54)), ((r 54), .inl (G.2 2, 6, .inl vF55)), ((r 55), .inl (G.2 0, 6, .inl vF56))] H locs → lv_has ls 5 [(4, .int (nI vi7)), (3, .int vy46), (0, .ref (r 0)), (1, .int (nI vq3)), (2, .int (nI vq6))] → W p l e (zz_rm 7 0 0) s m args below meth c H locs (0) (0) Q (F0 m 24 ls []) := by
        intro vn8
        induction vn8 with
        | zero => intro vi7 vy46 vy47 vy48 vy49 vF50 vF51 vF52 vF53 vF54 vF55 vF56 H locs ls hi1 hi2; exact absurd hi2 (by omega)
        | succ vn8 ih24 =>
          intro vi7 vy46 vy47 vy48 vy49 vF50 vF51 vF52 vF53 vF54 vF55 vF56 H locs ls hi24a hi24b hv24_76 hv24_77 hw hl
          refine lv_iload hx hb dX10_year_24 (lv_at hl 0 rfl) ?_
          refine lv_iload_n hx hb dX10_year_26 rfl (lv_at hl 4 rfl) ?_
          refine lv_icmp_ge (tgt := 70) hx hb dX10_year_27 (by decide) (fun c27_79 => ?_) (fun c27_79 => ?_)
          · skip
            have c27_79n : vq6 ≤ vi7 := (zz_le (a := vq6) (b := vi7) rfl rfl (by omega) (by omega)).mp c27_79
            refine lv_iload_n hx hb dX10_year_70 rfl (lv_at hl 1 rfl) ?_
            refine W.eq (g2 := F0 m 71 ls [.int vy46]) rfl ?_
            exact hret _ _ _ _ _ _ ⟨vy46, vy47, vy48, vy49, vF50, vF51, vF52, vF53, vF54, vF55, vF56, rfl, rfl, (by first | exact zA0 (fun z => hq1_1 (by assumption) z.1) | exact zA0 (fun z => zA_s20 hq11_1 (by assumption) z.2) | exact zA1 ⟨⟨_, by omega, rfl⟩, zA_y20 hq11_1 (by assumption) (by assumption)⟩ ⟨_, _, by assumption, by assumption, rfl, rfl, zE_e hv24_77 (by omega)⟩), (by first | assumption | exact Or.inl rfl | exact Or.inr rfl | omega | exact Or.inr (by assumption) | exact zz_oku (by assumption) (by first | exact Or.inl rfl | exact Or.inr ⟨_, by omega, rfl⟩))⟩ hw rfl dX10_year_71
          · skip
            have c27_79n : ¬ (vq6 ≤ vi7) := fun z => c27_79 ((zz_le (a := vq6) (b := vi7) rfl rfl (by omega) (by omega)).mpr z)
            refine lv_aload_n hx hb dX10_year_30 rfl (lv_at hl 2 rfl) ?_
            refine zz_callV (qb := 0) (As := []) (rest := []) (wr := [((r 22), .inl (G.2 0, 2, .inl c22)), ((r 24), .inl (G.2 0, 14, .inl c24)), ((r 25), .inl (G.2 0, 14, .inl c25)), ((r 26), .inl (G.2 0, 2, .inl c26)), ((r 28), .inl (G.2 0, 12, .inl c28)), ((r 29), .inl (G.2 0, 12, .inl c29)), ((r 30), .inl (G.2 0, 2, .inl c30)), ((r 32), .inl (G.2 0, 8, .inl c32)), ((r 33), .inl (G.2 0, 8, .inl c33)), ((r 35), .inl (G.2 2, 260, .inl c35)), ((r 36), .inl (G.2 0, 260, .inl c36)), ((r 37), .inl (G.2 0, 260, .inl c37)), ((r 38), .inl (G.2 0, 260, .inl c38)), ((r 39), .inl (G.2 0, 260, .inl c39)), ((r 41), .inl (G.2 0, 840, .inl c41)), ((r 42), .inl (G.2 0, 840, .inl c42)), ((r 45), .inl (G.2 0, 9, .inl vF50)), ((r 46), .inl (G.2 0, 400, .inl vF51)), ((r 52), .inl (G.2 0, 6, .inl vF53)), ((r 53), .inl (G.2 2, 6, .inl vF54)), ((r 54), .inl (G.2 2, 6, .inl vF55)), ((r 55), .inl (G.2 0, 6, .inl vF56))]) S hw hl.1 lX10_323 (c_x_copies l G r j0 j2 j4 j10 j11 j12 j13 j14 j15 j16 j17 j19 j20 j34 j40 j44 vy47 vy48 vy49 j56 j61 lv c31 c48 vF52 (by first | assumption | omega | exact Or.inr ⟨_, by omega, rfl⟩ | (unfold zz_sok; decide) | decide | exact (fun j hj => (hv7 j hj).1))) ⟨Nat.le_of_ble_eq_true rfl, Nat.le_of_ble_eq_true rfl⟩ ⟨Nat.le_of_ble_eq_true rfl, Nat.le_of_ble_eq_true rfl⟩ [0, 8, 20, 21] [1, 2, 3, 4, 5, 6, 7, 9, 10, 11, 12, 13, 14, 15, 16, 17, 18, 19, 22, 23, 24, 25] (by decide +kernel) rfl rfl (by decide +kernel) (by decide +kernel) rfl rfl rfl rfl (Nat.le_of_ble_eq_true rfl) dX10_year_31 ?_
            clear hw
            intro rr u H locs hp hw
            refine hp.elim fun k50_80 zg0 => zg0.elim fun k51_81 zg1 => zg1.elim fun d49_82 zg2 => zg2.elim fun zee1 zg3 => zg3.elim fun zee2 zg4 => zg4.elim fun hq31_0 zg5 => zg5.elim fun hq31_1 hq31_2 => ?_
            clear hp zg0 zg1 zg2 zg3 zg4 zg5
            subst zee1
            subst zee2
            replace hw : zz_w G A s [((r 22), .inl (G.2 0, 2, .inl c22)), ((r 24), .inl (G.2 0, 14, .inl c24)), ((r 25), .inl (G.2 0, 14, .inl c25)), ((r 26), .inl (G.2 0, 2, .inl c26)), ((r 28), .inl (G.2 0, 12, .inl c28)), ((r 29), .inl (G.2 0, 12, .inl c29)), ((r 30), .inl (G.2 0, 2, .inl c30)), ((r 32), .inl (G.2 0, 8, .inl c32)), ((r 33), .inl (G.2 0, 8, .inl c33)), ((r 35), .inl (G.2 2, 260, .inl c35)), ((r 36), .inl (G.2 0, 260, .inl c36)), ((r 37), .inl (G.2 0, 260, .inl c37)), ((r 38), .inl (G.2 0, 260, .inl c38)), ((r 39), .inl (G.2 0, 260, .inl c39)), ((r 41), .inl (G.2 0, 840, .inl c41)), ((r 42), .inl (G.2 0, 840, .inl c42)), ((r 45), .inl (G.2 0, 9, .inl vF50)), ((r 46), .inl (G.2 0, 400, .inl vF51)), ((r 52), .inl (G.2 0, 6, .inl vF53)), ((r 53), .inl (G.2 2, 6, .inl vF54)), ((r 54), .inl (G.2 2, 6, .inl vF55)), ((r 55), .inl (G.2 0, 6, .inl vF56)), ((r 0), .inr (10, (zz_mo r [(0, j0), (2, j2), (4, j4), (10, j10), (11, j11), (12, j12), (13, j13), (14, j14), (15, j15), (16, j16), (17, j17), (18, (nI lv)), (19, j19), (20, j20), (34, j34), (40, j40), (44, j44), (47, vy47), (50, k50_80), (51, k51_81), (56, j56), (61, j61)]))), ((r 31), .inl (G.2 0, 2, .inl c31)), ((r 48), .inl (G.2 0, 71, .inl c48)), ((r 49), .inl (G.2 0, 71, .inl d49_82))] H _ := hw
            refine W.eq (g2 := F0 m 34 ls []) rfl ?_
            refine lv_aload_n hx hb dX10_year_34 rfl (lv_at hl 2 rfl) ?_
            refine lv_dup hx hb dX10_year_35 rfl ?_
            refine zz_get (v := .int k50_80) S hw fgX10_317 22 rfl rfl dX10_year_36 ?_
            refine lv_iload hx hb dX10_year_39 (lv_at hl 0 rfl) ?_
            refine lv_iadd hx hb dX10_year_41 ?_
            refine lv_topi (fun z83 ez83 => ?_)
            refine zz_put (ws' := [((r 22), .inl (G.2 0, 2, .inl c22)), ((r 24), .inl (G.2 0, 14, .inl c24)), ((r 25), .inl (G.2 0, 14, .inl c25)), ((r 26), .inl (G.2 0, 2, .inl c26)), ((r 28), .inl (G.2 0, 12, .inl c28)), ((r 29), .inl (G.2 0, 12, .inl c29)), ((r 30), .inl (G.2 0, 2, .inl c30)), ((r 32), .inl (G.2 0, 8, .inl c32)), ((r 33), .inl (G.2 0, 8, .inl c33)), ((r 35), .inl (G.2 2, 260, .inl c35)), ((r 36), .inl (G.2 0, 260, .inl c36)), ((r 37), .inl (G.2 0, 260, .inl c37)), ((r 38), .inl (G.2 0, 260, .inl c38)), ((r 39), .inl (G.2 0, 260, .inl c39)), ((r 41), .inl (G.2 0, 840, .inl c41)), ((r 42), .inl (G.2 0, 840, .inl c42)), ((r 45), .inl (G.2 0, 9, .inl vF50)), ((r 46), .inl (G.2 0, 400, .inl vF51)), ((r 52), .inl (G.2 0, 6, .inl vF53)), ((r 53), .inl (G.2 2, 6, .inl vF54)), ((r 54), .inl (G.2 2, 6, .inl vF55)), ((r 55), .inl (G.2 0, 6, .inl vF56)), ((r 0), .inr (10, (zz_mo r [(0, j0), (2, j2), (4, j4), (10, j10), (11, j11), (12, j12), (13, j13), (14, j14), (15, j15), (16, j16), (17, j17), (18, (nI lv)), (19, j19), (20, j20), (34, j34), (40, j40), (44, j44), (47, vy47), (50, z83), (51, k51_81), (56, j56), (61, j61)]))), ((r 31), .inl (G.2 0, 2, .inl c31)), ((r 48), .inl (G.2 0, 71, .inl c48)), ((r 49), .inl (G.2 0, 71, .inl d49_82))]) (v := .int z83) S hw fpX10_317 22 rfl rfl rfl (Nat.le_of_ble_eq_true rfl) rfl dX10_year_42 ?_
            clear hw
            intro H locs hw
            refine lv_aload_n hx hb dX10_year_45 rfl (lv_at hl 2 rfl) ?_
            refine lv_iload_n hx hb dX10_year_46 rfl (lv_at hl 3 rfl) ?_
            refine zz_callV (qb := 22) (As := [.int (nI vq3)]) (rest := []) (wr := [((r 31), .inl (G.2 0, 2, .inl c31)), ((r 48), .inl (G.2 0, 71, .inl c48))]) S hw hl.1 lX10_397 (c_x_goes l G r j0 j2 j4 j10 j11 j12 j13 j14 j15 j16 j17 j19 j20 j34 j40 j44 vy47 z83 k51_81 j56 j61 lv pp pq c22 c24 c25 c26 c28 c29 c30 c32 c33 c35 c36 c37 c38 c39 c41 c42 vF50 vF51 d49_82 vF53 vF54 vF55 vF56 vq3 (by first | assumption | omega | exact Or.inr ⟨_, by omega, rfl⟩ | (unfold zz_sok; decide) | decide | exact (fun j hj => (hv7 j hj).1)) (by first | assumption | omega | exact Or.inr ⟨_, by omega, rfl⟩ | (unfold zz_sok; decide) | decide | exact (fun j hj => (hv7 j hj).1)) (by first | assumption | omega | exact Or.inr ⟨_, by omega, rfl⟩ | (unfold zz_sok; decide) | decide | exact (fun j hj => (hv7 j hj).1)) (by first | assumption | omega | exact Or.inr ⟨_, by omega, rfl⟩ | (unfold zz_sok; decide) | decide | exact (fun j hj => (hv7 j hj).1)) (by first | assumption | omega | exact Or.inr ⟨_, by omega, rfl⟩ | (unfold zz_sok; decide) | decide | exact (fun j hj => (hv7 j hj).1)) (by first | assumption | omega | exact Or.inr ⟨_, by omega, rfl⟩ | (unfold zz_sok; decide) | decide | exact (fun j hj => (hv7 j hj).1)) (by first | assumption | omega | exact Or.inr ⟨_, by omega, rfl⟩ | (unfold zz_sok; decide) | decide | exact (fun j hj => (hv7 j hj).1)) (by first | assumption | omega | exact Or.inr ⟨_, by omega, rfl⟩ | (unfold zz_sok; decide) | decide | exact (fun j hj => (hv7 j hj).1))) ⟨Nat.le_of_ble_eq_true rfl, Nat.le_of_ble_eq_true rfl⟩ ⟨Nat.le_of_ble_eq_true rfl, Nat.le_of_ble_eq_true rfl⟩ [22, 0, 1, 2, 3, 4, 5, 6, 7, 8, 9, 10, 11, 12, 13, 14, 15, 16, 17, 25, 18, 19, 20, 21] [23, 24] (by decide +kernel) rfl rfl (by decide +kernel) (by decide +kernel) rfl rfl rfl rfl (Nat.le_of_ble_eq_true rfl) dX10_year_47 ?_
            clear hw
            intro rr u H locs hp hw
            refine hp.elim fun k47_84 zg0 => zg0.elim fun d45_85 zg1 => zg1.elim fun d46_86 zg2 => zg2.elim fun d49_87 zg3 => zg3.elim fun d52_88 zg4 => zg4.elim fun d53_89 zg5 => zg5.elim fun d54_90 zg6 => zg6.elim fun d55_91 zg7 => zg7.elim fun zee1 zg8 => zg8.elim fun zee2 zg9 => zg9.elim fun hq47_0 hq47_1 => ?_
            clear hp zg0 zg1 zg2 zg3 zg4 zg5 zg6 zg7 zg8 zg9
            subst zee1
            subst zee2
            replace hw : zz_w G A s [((r 31), .inl (G.2 0, 2, .inl c31)), ((r 48), .inl (G.2 0, 71, .inl c48)), ((r 0), .inr (10, (zz_mo r [(0, j0), (2, j2), (4, j4), (10, j10), (11, j11), (12, j12), (13, j13), (14, j14), (15, j15), (16, j16), (17, j17), (18, (nI lv)), (19, j19), (20, j20), (34, j34), (40, j40), (44, j44), (47, k47_84), (50, z83), (51, k51_81), (56, j56), (61, j61)]))), ((r 22), .inl (G.2 0, 2, .inl c22)), ((r 24), .inl (G.2 0, 14, .inl c24)), ((r 25), .inl (G.2 0, 14, .inl c25)), ((r 26), .inl (G.2 0, 2, .inl c26)), ((r 28), .inl (G.2 0, 12, .inl c28)), ((r 29), .inl (G.2 0, 12, .inl c29)), ((r 30), .inl (G.2 0, 2, .inl c30)), ((r 32), .inl (G.2 0, 8, .inl c32)), ((r 33), .inl (G.2 0, 8, .inl c33)), ((r 35), .inl (G.2 2, 260, .inl c35)), ((r 36), .inl (G.2 0, 260, .inl c36)), ((r 37), .inl (G.2 0, 260, .inl c37)), ((r 38), .inl (G.2 0, 260, .inl c38)), ((r 39), .inl (G.2 0, 260, .inl c39)), ((r 41), .inl (G.2 0, 840, .inl c41)), ((r 42), .inl (G.2 0, 840, .inl c42)), ((r 45), .inl (G.2 0, 9, .inl d45_85)), ((r 46), .inl (G.2 0, 400, .inl d46_86)), ((r 49), .inl (G.2 0, 71, .inl d49_87)), ((r 52), .inl (G.2 0, 6, .inl d52_88)), ((r 53), .inl (G.2 2, 6, .inl d53_89)), ((r 54), .inl (G.2 2, 6, .inl d54_90)), ((r 55), .inl (G.2 0, 6, .inl d55_91))] H _ := hw
            refine W.eq (g2 := F0 m 50 ls []) rfl ?_
            refine lv_aload_n hx hb dX10_year_50 rfl (lv_at hl 2 rfl) ?_
            refine zz_callV (qb := 2) (As := []) (rest := []) (wr := [((r 31), .inl (G.2 0, 2, .inl c31)), ((r 48), .inl (G.2 0, 71, .inl c48)), ((r 53), .inl (G.2 2, 6, .inl d53_89)), ((r 54), .inl (G.2 2, 6, .inl d54_90)), ((r 55), .inl (G.2 0, 6, .inl d55_91))]) S hw hl.1 lX10_351 (c_x_casts l G r j0 j2 j4 j10 j11 j12 j13 j14 j15 j16 j17 j19 j20 j34 j40 j44 k47_84 z83 k51_81 j56 j61 lv pp pq c22 c24 c25 c26 c28 c29 c30 c32 c33 c35 c36 c37 c38 c39 c41 c42 d45_85 d46_86 d49_87 d52_88 (by first | assumption | omega | exact Or.inr ⟨_, by omega, rfl⟩ | (unfold zz_sok; decide) | decide | exact (fun j hj => (hv7 j hj).1)) (by first | assumption | omega | exact Or.inr ⟨_, by omega, rfl⟩ | (unfold zz_sok; decide) | decide | exact (fun j hj => (hv7 j hj).1)) (by first | assumption | omega | exact Or.inr ⟨_, by omega, rfl⟩ | (unfold zz_sok; decide) | decide | exact (fun j hj => (hv7 j hj).1)) (by first | assumption | omega | exact Or.inr ⟨_, by omega, rfl⟩ | (unfold zz_sok; decide) | decide | exact (fun j hj => (hv7 j hj).1)) (by first | assumption | omega | exact Or.inr ⟨_, by omega, rfl⟩ | (unfold zz_sok; decide) | decide | exact (fun j hj => (hv7 j hj).1)) (by first | assumption | omega | exact Or.inr ⟨_, by omega, rfl⟩ | (unfold zz_sok; decide) | decide | exact (fun j hj => (hv7 j hj).1)) (by first | assumption | omega | exact Or.inr ⟨_, by omega, rfl⟩ | (unfold zz_sok; decide) | decide | exact (fun j hj => (hv7 j hj).1))) ⟨Nat.le_of_ble_eq_true rfl, Nat.le_of_ble_eq_true rfl⟩ ⟨Nat.le_of_ble_eq_true rfl, Nat.le_of_ble_eq_true rfl⟩ [2, 3, 4, 5, 6, 7, 8, 9, 10, 11, 12, 13, 14, 15, 16, 17, 18, 19, 20, 21, 22] [0, 1, 23, 24, 25] (by decide +kernel) rfl rfl (by decide +kernel) (by decide +kernel) rfl rfl rfl rfl (Nat.le_of_ble_eq_true rfl) dX10_year_51 ?_
            clear hw
            intro rr u H locs hp hw
            refine hp.elim fun k47_92 zg0 => zg0.elim fun d45_93 zg1 => zg1.elim fun d46_94 zg2 => zg2.elim fun d52_95 zg3 => zg3.elim fun zee1 zg4 => zg4.elim fun zee2 zg5 => zg5.elim fun hq51_0 hq51_1 => ?_
            clear hp zg0 zg1 zg2 zg3 zg4 zg5
            subst zee1
            subst zee2
            replace hw : zz_w G A s [((r 31), .inl (G.2 0, 2, .inl c31)), ((r 48), .inl (G.2 0, 71, .inl c48)), ((r 53), .inl (G.2 2, 6, .inl d53_89)), ((r 54), .inl (G.2 2, 6, .inl d54_90)), ((r 55), .inl (G.2 0, 6, .inl d55_91)), ((r 0), .inr (10, (zz_mo r [(0, j0), (2, j2), (4, j4), (10, j10), (11, j11), (12, j12), (13, j13), (14, j14), (15, j15), (16, j16), (17, j17), (18, (nI lv)), (19, j19), (20, j20), (34, j34), (40, j40), (44, j44), (47, k47_92), (50, z83), (51, k51_81), (56, j56), (61, j61)]))), ((r 22), .inl (G.2 0, 2, .inl c22)), ((r 24), .inl (G.2 0, 14, .inl c24)), ((r 25), .inl (G.2 0, 14, .inl c25)), ((r 26), .inl (G.2 0, 2, .inl c26)), ((r 28), .inl (G.2 0, 12, .inl c28)), ((r 29), .inl (G.2 0, 12, .inl c29)), ((r 30), .inl (G.2 0, 2, .inl c30)), ((r 32), .inl (G.2 0, 8, .inl c32)), ((r 33), .inl (G.2 0, 8, .inl c33)), ((r 35), .inl (G.2 2, 260, .inl c35)), ((r 36), .inl (G.2 0, 260, .inl c36)), ((r 37), .inl (G.2 0, 260, .inl c37)), ((r 38), .inl (G.2 0, 260, .inl c38)), ((r 39), .inl (G.2 0, 260, .inl c39)), ((r 41), .inl (G.2 0, 840, .inl c41)), ((r 42), .inl (G.2 0, 840, .inl c42)), ((r 45), .inl (G.2 0, 9, .inl d45_93)), ((r 46), .inl (G.2 0, 400, .inl d46_94)), ((r 49), .inl (G.2 0, 71, .inl d49_87)), ((r 52), .inl (G.2 0, 6, .inl d52_95))] H _ := hw
            refine W.eq (g2 := F0 m 54 ls []) rfl ?_
            refine lv_aload_n hx hb dX10_year_54 rfl (lv_at hl 2 rfl) ?_
            refine W.eq (g2 := F0 m 55 ls [.ref (r 0)]) rfl ?_
            refine zz_callV (qb := 5) (As := []) (rest := []) (wr := [((r 31), .inl (G.2 0, 2, .inl c31)), ((r 48), .inl (G.2 0, 71, .inl c48)), ((r 53), .inl (G.2 2, 6, .inl d53_89)), ((r 54), .inl (G.2 2, 6, .inl d54_90)), ((r 55), .inl (G.2 0, 6, .inl d55_91)), ((r 22), .inl (G.2 0, 2, .inl c22)), ((r 24), .inl (G.2 0, 14, .inl c24)), ((r 25), .inl (G.2 0, 14, .inl c25)), ((r 28), .inl (G.2 0, 12, .inl c28)), ((r 29), .inl (G.2 0, 12, .inl c29)), ((r 30), .inl (G.2 0, 2, .inl c30)), ((r 32), .inl (G.2 0, 8, .inl c32)), ((r 33), .inl (G.2 0, 8, .inl c33)), ((r 35), .inl (G.2 2, 260, .inl c35)), ((r 36), .inl (G.2 0, 260, .inl c36)), ((r 37), .inl (G.2 0, 260, .inl c37)), ((r 38), .inl (G.2 0, 260, .inl c38)), ((r 39), .inl (G.2 0, 260, .inl c39)), ((r 41), .inl (G.2 0, 840, .inl c41)), ((r 42), .inl (G.2 0, 840, .inl c42)), ((r 45), .inl (G.2 0, 9, .inl d45_93)), ((r 46), .inl (G.2 0, 400, .inl d46_94)), ((r 49), .inl (G.2 0, 71, .inl d49_87))]) S hw hl.1 lX10_400 (c_x_emptyBits l G r j0 j2 j4 j10 j11 j12 j13 j14 j15 j16 j17 j19 j20 j34 j40 j44 k47_92 z83 k51_81 j56 j61 lv pq c26 d52_95 (by first | assumption | omega | exact Or.inr ⟨_, by omega, rfl⟩ | (unfold zz_sok; decide) | decide | exact (fun j hj => (hv7 j hj).1)) (by first | assumption | omega | exact Or.inr ⟨_, by omega, rfl⟩ | (unfold zz_sok; decide) | decide | exact (fun j hj => (hv7 j hj).1)) (by first | assumption | omega | exact Or.inr ⟨_, by omega, rfl⟩ | (unfold zz_sok; decide) | decide | exact (fun j hj => (hv7 j hj).1)) (by first | assumption | omega | exact Or.inr ⟨_, by omega, rfl⟩ | (unfold zz_sok; decide) | decide | exact (fun j hj => (hv7 j hj).1))) ⟨Nat.le_of_ble_eq_true rfl, Nat.le_of_ble_eq_true rfl⟩ ⟨Nat.le_of_ble_eq_true rfl, Nat.le_of_ble_eq_true rfl⟩ [5, 9, 25] [0, 1, 2, 3, 4, 6, 7, 8, 10, 11, 12, 13, 14, 15, 16, 17, 18, 19, 20, 21, 22, 23, 24] (by decide +kernel) rfl rfl (by decide +kernel) (by decide +kernel) rfl rfl rfl rfl (Nat.le_of_ble_eq_true rfl) dX10_year_55 ?_
            clear hw
            intro rr u H locs hp hw
            refine hp.elim fun rv_96 zg0 => zg0.elim fun zee1 zg1 => zg1.elim fun zee2 hq55_0 => ?_
            clear hp zg0 zg1
            subst zee1
            subst zee2
            replace hw : zz_w G A s [((r 31), .inl (G.2 0, 2, .inl c31)), ((r 48), .inl (G.2 0, 71, .inl c48)), ((r 53), .inl (G.2 2, 6, .inl d53_89)), ((r 54), .inl (G.2 2, 6, .inl d54_90)), ((r 55), .inl (G.2 0, 6, .inl d55_91)), ((r 22), .inl (G.2 0, 2, .inl c22)), ((r 24), .inl (G.2 0, 14, .inl c24)), ((r 25), .inl (G.2 0, 14, .inl c25)), ((r 28), .inl (G.2 0, 12, .inl c28)), ((r 29), .inl (G.2 0, 12, .inl c29)), ((r 30), .inl (G.2 0, 2, .inl c30)), ((r 32), .inl (G.2 0, 8, .inl c32)), ((r 33), .inl (G.2 0, 8, .inl c33)), ((r 35), .inl (G.2 2, 260, .inl c35)), ((r 36), .inl (G.2 0, 260, .inl c36)), ((r 37), .inl (G.2 0, 260, .inl c37)), ((r 38), .inl (G.2 0, 260, .inl c38)), ((r 39), .inl (G.2 0, 260, .inl c39)), ((r 41), .inl (G.2 0, 840, .inl c41)), ((r 42), .inl (G.2 0, 840, .inl c42)), ((r 45), .inl (G.2 0, 9, .inl d45_93)), ((r 46), .inl (G.2 0, 400, .inl d46_94)), ((r 49), .inl (G.2 0, 71, .inl d49_87)), ((r 0), .inr (10, (zz_mo r [(0, j0), (2, j2), (4, j4), (10, j10), (11, j11), (12, j12), (13, j13), (14, j14), (15, j15), (16, j16), (17, j17), (18, (nI lv)), (19, j19), (20, j20), (34, j34), (40, j40), (44, j44), (47, k47_92), (50, z83), (51, k51_81), (56, j56), (61, j61)]))), ((r 26), .inl (G.2 0, 2, .inl c26)), ((r 52), .inl (G.2 0, 6, .inl d52_95))] H _ := hw
            refine W.eq (g2 := F0 m 58 ls [.int rv_96]) rfl ?_
            refine lv_if_ne (tgt := 64) hx hb dX10_year_58 (by decide) (fun c58_97 => ?_) (fun c58_97 => ?_)
            · skip
              refine lv_iinc (v := (nI (vi7 + 1))) (lv' := [(4, .int (nI (vi7 + 1))), (3, .int vy46), (0, .ref (r 0)), (1, .int (nI vq3)), (2, .int (nI vq6))]) hx hb dX10_year_64 hl (k := 0) rfl (nI_add _ 1) (by decide) rfl (fun ls hl => ?_)
              refine lv_goto (tgt := 24) hx hb dX10_year_67 (by decide) ?_
              exact ih24 (vi7 + 1) vy46 k47_92 z83 k51_81 d45_93 d46_94 d49_87 d52_95 d53_89 d54_90 d55_91 _ _ _ (by omega) (by omega) (by first | assumption | omega | exact Or.inl rfl | exact Or.inr ⟨_, by omega, rfl⟩ | exact zz_oku (by assumption) (by first | exact Or.inl rfl | exact Or.inr ⟨_, by omega, rfl⟩)) (by first | exact zE_x1 hv24_77 ⟨_, _, hq31_0, zy_gos (zA_sd hq31_1 (by assumption)) hq31_2 hq47_0, _, hq51_0, (zC_1 (by rw [← hq55_0]; assumption)).symm⟩ | exact zE_x0 hv24_77 ⟨_, _, hq31_0, zy_gos (zA_sd hq31_1 (by assumption)) hq31_2 hq47_0, _, hq51_0, (zC_0 (by rw [← hq55_0]; assumption)).symm⟩) (hw.sub [23, 5, 6, 7, 24, 8, 9, 10, 0, 11, 12, 13, 14, 15, 16, 17, 18, 19, 20, 21, 1, 22, 25, 2, 3, 4] (by decide +kernel) rfl) (lv_sub hl [0, 1, 2, 3, 4] rfl)
            · skip
              refine lv_iinc (v := (vy46 + 1)) (lv' := [(3, .int (vy46 + 1)), (4, .int (nI vi7)), (0, .ref (r 0)), (1, .int (nI vq3)), (2, .int (nI vq6))]) hx hb dX10_year_61 hl (k := 1) rfl (rfl) (by decide) rfl (fun ls hl => ?_)
              refine lv_iinc (v := (nI (vi7 + 1))) (lv' := [(4, .int (nI (vi7 + 1))), (3, .int (vy46 + 1)), (0, .ref (r 0)), (1, .int (nI vq3)), (2, .int (nI vq6))]) hx hb dX10_year_64 hl (k := 1) rfl (nI_add _ 1) (by decide) rfl (fun ls hl => ?_)
              refine lv_goto (tgt := 24) hx hb dX10_year_67 (by decide) ?_
              exact ih24 (vi7 + 1) (vy46 + 1) k47_92 z83 k51_81 d45_93 d46_94 d49_87 d52_95 d53_89 d54_90 d55_91 _ _ _ (by omega) (by omega) (by first | assumption | omega | exact Or.inl rfl | exact Or.inr ⟨_, by omega, rfl⟩ | exact zz_oku (by assumption) (by first | exact Or.inl rfl | exact Or.inr ⟨_, by omega, rfl⟩)) (by first | exact zE_x1 hv24_77 ⟨_, _, hq31_0, zy_gos (zA_sd hq31_1 (by assumption)) hq31_2 hq47_0, _, hq51_0, (zC_1 (by rw [← hq55_0]; assumption)).symm⟩ | exact zE_x0 hv24_77 ⟨_, _, hq31_0, zy_gos (zA_sd hq31_1 (by assumption)) hq31_2 hq47_0, _, hq51_0, (zC_0 (by rw [← hq55_0]; assumption)).symm⟩) (hw.sub [23, 5, 6, 7, 24, 8, 9, 10, 0, 11, 12, 13, 14, 15, 16, 17, 18, 19, 20, 21, 1, 22, 25, 2, 3, 4] (by decide +kernel) rfl) (lv_sub hl [0, 1, 2, 3, 4] rfl)
      exact lp24_78 (vq6 + 1 - 0) 0 0 j47 j50 j51 c45 c46 c49 c52 c53 c54 c55 _ _ _ (by omega) (by omega) (by first | assumption | omega | exact Or.inl rfl | exact Or.inr ⟨_, by omega, rfl⟩ | exact zz_oku (by assumption) (by first | exact Or.inl rfl | exact Or.inr ⟨_, by omega, rfl⟩)) zE_0 hw (lv_sub hl [0, 1, 2, 3, 4] rfl)
    · skip
      refine lv_iconst (v := (-1)) hx hb dX10_year_17 (by decide) ?_
      exact hret _ _ _ _ _ _ ⟨(-1), j47, j50, j51, c45, c46, c49, c52, c53, c54, c55, rfl, rfl, (by first | exact zA0 (fun z => hq1_1 (by assumption) z.1) | exact zA0 (fun z => zA_s20 hq11_1 (by assumption) z.2) | exact zA1 ⟨⟨_, by omega, rfl⟩, zA_y20 hq11_1 (by assumption) (by assumption)⟩ ⟨_, _, by assumption, by assumption, rfl, rfl, zE_e hdry (by omega)⟩), (by first | assumption | exact Or.inl rfl | exact Or.inr rfl | omega | exact Or.inr (by assumption) | exact zz_oku (by assumption) (by first | exact Or.inl rfl | exact Or.inr ⟨_, by omega, rfl⟩))⟩ hw rfl dX10_year_18
theorem kd_ncX10_tell : kd_ck 715337835881932503511603403661465163303677251270891188635226355801105958084571602689400577069362360496939273700538219467215536841222520510101474542905586387324659109972684003738760234 76 cX10_tell.data.toList 0 = true := by decide +kernel
theorem dX10_tell_0 : decode cX10_tell 0 = .ok (.aload_n 0, 1) := kd_dk0 kd_o42 kd_ncX10_tell rfl
theorem dX10_tell_1 : decode cX10_tell 1 = .ok (.getfield 257, 3) := kd_dk2 kd_o180 kd_ncX10_tell rfl
theorem dX10_tell_4 : decode cX10_tell 4 = .ok (.bipush 20, 2) := kd_dj1 kd_o16 (w := 20) kd_ncX10_tell rfl rfl
theorem dX10_tell_6 : decode cX10_tell 6 = .ok (.if_icmp .eq 21, 3) := kd_dj2 kd_o159 (w := 21) kd_ncX10_tell rfl rfl
theorem dX10_tell_9 : decode cX10_tell 9 = .ok (.aload_n 0, 1) := kd_dk0 kd_o42 kd_ncX10_tell rfl
theorem dX10_tell_10 : decode cX10_tell 10 = .ok (.iload_n 1, 1) := kd_dk0 kd_o27 kd_ncX10_tell rfl
theorem dX10_tell_11 : decode cX10_tell 11 = .ok (.invokevirtual 382, 3) := kd_dk2 kd_o182 kd_ncX10_tell rfl
theorem dX10_tell_14 : decode cX10_tell 14 = .ok (.ifCond .eq 13, 3) := kd_dj2 kd_o153 (w := 13) kd_ncX10_tell rfl rfl
theorem dX10_tell_17 : decode cX10_tell 17 = .ok (.iload_n 2, 1) := kd_dk0 kd_o28 kd_ncX10_tell rfl
theorem dX10_tell_18 : decode cX10_tell 18 = .ok (.iconst 0, 1) := kd_dk0 kd_o3 kd_ncX10_tell rfl
theorem dX10_tell_19 : decode cX10_tell 19 = .ok (.bipush 99, 2) := kd_dj1 kd_o16 (w := 99) kd_ncX10_tell rfl rfl
theorem dX10_tell_21 : decode cX10_tell 21 = .ok (.invokestatic 313, 3) := kd_dk2 kd_o184 kd_ncX10_tell rfl
theorem dX10_tell_24 : decode cX10_tell 24 = .ok (.ifCond .ne 5, 3) := kd_dj2 kd_o154 (w := 5) kd_ncX10_tell rfl rfl
theorem dX10_tell_27 : decode cX10_tell 27 = .ok (.iconst (-1), 1) := kd_dk0 kd_o2 kd_ncX10_tell rfl
theorem dX10_tell_28 : decode cX10_tell 28 = .ok (.ireturn, 1) := kd_dk0 kd_o172 kd_ncX10_tell rfl
theorem dX10_tell_29 : decode cX10_tell 29 = .ok (.aload_n 0, 1) := kd_dk0 kd_o42 kd_ncX10_tell rfl
theorem dX10_tell_30 : decode cX10_tell 30 = .ok (.getfield 140, 3) := kd_dk2 kd_o180 kd_ncX10_tell rfl
theorem dX10_tell_33 : decode cX10_tell 33 = .ok (.aload_n 0, 1) := kd_dk0 kd_o42 kd_ncX10_tell rfl
theorem dX10_tell_34 : decode cX10_tell 34 = .ok (.getfield 257, 3) := kd_dk2 kd_o180 kd_ncX10_tell rfl
theorem dX10_tell_37 : decode cX10_tell 37 = .ok (.iload_n 1, 1) := kd_dk0 kd_o27 kd_ncX10_tell rfl
theorem dX10_tell_38 : decode cX10_tell 38 = .ok (.iastore, 1) := kd_dk0 kd_o79 kd_ncX10_tell rfl
theorem dX10_tell_39 : decode cX10_tell 39 = .ok (.aload_n 0, 1) := kd_dk0 kd_o42 kd_ncX10_tell rfl
theorem dX10_tell_40 : decode cX10_tell 40 = .ok (.getfield 143, 3) := kd_dk2 kd_o180 kd_ncX10_tell rfl
theorem dX10_tell_43 : decode cX10_tell 43 = .ok (.aload_n 0, 1) := kd_dk0 kd_o42 kd_ncX10_tell rfl
theorem dX10_tell_44 : decode cX10_tell 44 = .ok (.getfield 257, 3) := kd_dk2 kd_o180 kd_ncX10_tell rfl
theorem dX10_tell_47 : decode cX10_tell 47 = .ok (.iload_n 2, 1) := kd_dk0 kd_o28 kd_ncX10_tell rfl
theorem dX10_tell_48 : decode cX10_tell 48 = .ok (.iastore, 1) := kd_dk0 kd_o79 kd_ncX10_tell rfl
theorem dX10_tell_49 : decode cX10_tell 49 = .ok (.aload_n 0, 1) := kd_dk0 kd_o42 kd_ncX10_tell rfl
theorem dX10_tell_50 : decode cX10_tell 50 = .ok (.getfield 146, 3) := kd_dk2 kd_o180 kd_ncX10_tell rfl
theorem dX10_tell_53 : decode cX10_tell 53 = .ok (.aload_n 0, 1) := kd_dk0 kd_o42 kd_ncX10_tell rfl
theorem dX10_tell_54 : decode cX10_tell 54 = .ok (.getfield 257, 3) := kd_dk2 kd_o180 kd_ncX10_tell rfl
theorem dX10_tell_57 : decode cX10_tell 57 = .ok (.iload_n 3, 1) := kd_dk0 kd_o29 kd_ncX10_tell rfl
theorem dX10_tell_58 : decode cX10_tell 58 = .ok (.bastore, 1) := kd_dk0 kd_o84 kd_ncX10_tell rfl
theorem dX10_tell_59 : decode cX10_tell 59 = .ok (.aload_n 0, 1) := kd_dk0 kd_o42 kd_ncX10_tell rfl
theorem dX10_tell_60 : decode cX10_tell 60 = .ok (.dup, 1) := kd_dk0 kd_o89 kd_ncX10_tell rfl
theorem dX10_tell_61 : decode cX10_tell 61 = .ok (.getfield 257, 3) := kd_dk2 kd_o180 kd_ncX10_tell rfl
theorem dX10_tell_64 : decode cX10_tell 64 = .ok (.iconst 1, 1) := kd_dk0 kd_o4 kd_ncX10_tell rfl
theorem dX10_tell_65 : decode cX10_tell 65 = .ok (.iadd, 1) := kd_dk0 kd_o96 kd_ncX10_tell rfl
theorem dX10_tell_66 : decode cX10_tell 66 = .ok (.putfield 257, 3) := kd_dk2 kd_o181 kd_ncX10_tell rfl
theorem dX10_tell_69 : decode cX10_tell 69 = .ok (.aload_n 0, 1) := kd_dk0 kd_o42 kd_ncX10_tell rfl
theorem dX10_tell_70 : decode cX10_tell 70 = .ok (.getfield 257, 3) := kd_dk2 kd_o180 kd_ncX10_tell rfl
theorem dX10_tell_73 : decode cX10_tell 73 = .ok (.iconst 1, 1) := kd_dk0 kd_o4 kd_ncX10_tell rfl
theorem dX10_tell_74 : decode cX10_tell 74 = .ok (.isub, 1) := kd_dk0 kd_o100 kd_ncX10_tell rfl
theorem dX10_tell_75 : decode cX10_tell 75 = .ok (.ireturn, 1) := kd_dk0 kd_o172 kd_ncX10_tell rfl
set_option maxHeartbeats 8000000 in
set_option maxRecDepth 100000 in
theorem c_x_tell (l : Launch) (G : zz_G) (r : Nat → Nat) (j0 : Int32) (j2 : Int32) (j4 : Int32) (j10 : Int32) (j11 : Int32) (j12 : Int32) (j13 : Int32) (j14 : Int32) (j15 : Int32) (j16 : Int32) (j17 : Int32) (j19 : Int32) (j20 : Int32) (j34 : Int32) (j40 : Int32) (j44 : Int32) (j47 : Int32) (j50 : Int32) (j51 : Int32) (j56 : Int32) (lv : Nat) (pq : Nat) (c26 : Nat → Int32) (c62 : Nat → Int32) (c63 : Nat → Int32) (c64 : Nat → Int32) (ar1 : Int32) (ar2 : Int32) (ar3 : Int32) (tn : Nat) (hlv : lv ≤ 1) (hpa : c26 lv = nI pq) (hpq : pq ≤ 6) (htn : tn ≤ 20) (htp : ∀ j, j < 20 → ∃ q : Nat, q < 6 ∧ c62 j = nI q) : zz_M l G mX10_tell 2 0 0 [.ref (r 0), .int ar1, .int ar2, .int ar3] [((r 0), .inr (10, (zz_mo r [(0, j0), (2, j2), (4, j4), (10, j10), (11, j11), (12, j12), (13, j13), (14, j14), (15, j15), (16, j16), (17, j17), (18, (nI lv)), (19, j19), (20, j20), (34, j34), (40, j40), (44, j44), (47, j47), (50, j50), (51, j51), (56, j56), (61, (nI tn))]))), ((r 26), .inl (G.2 0, 2, .inl c26)), ((r 62), .inl (G.2 0, 20, .inl c62)), ((r 63), .inl (G.2 0, 20, .inl c63)), ((r 64), .inl (G.2 2, 20, .inl c64))] (fun rr u => ∃ (rv : Int32), ∃ (tn2 : Nat), ∃ (d62 : Nat → Int32), ∃ (d63 : Nat → Int32), ∃ (d64 : Nat → Int32), rr = some (.int rv) ∧ u = [((r 0), .inr (10, (zz_mo r [(0, j0), (2, j2), (4, j4), (10, j10), (11, j11), (12, j12), (13, j13), (14, j14), (15, j15), (16, j16), (17, j17), (18, (nI lv)), (19, j19), (20, j20), (34, j34), (40, j40), (44, j44), (47, j47), (50, j50), (51, j51), (56, j56), (61, (nI tn2))]))), ((r 26), .inl (G.2 0, 2, .inl c26)), ((r 62), .inl (G.2 0, 20, .inl d62)), ((r 63), .inl (G.2 0, 20, .inl d63)), ((r 64), .inl (G.2 2, 20, .inl d64))] ∧ (tn2 ≤ 20) ∧ (∀ j, j < 20 → ∃ q : Nat, q < 6 ∧ d62 j = nI q) ∧ (zz_tle pq tn ar1 ar2 rv tn2) ∧ (zz_tdo tn ar1 ar2 ar3 rv c62 c63 c64 d62 d63 d64)) := by
  refine zz_enteri (by decide +kernel) (Nat.le_of_ble_eq_true rfl) ?_
  intro p e s m args below meth c A Q ls S hnm hret hw hl
  have hl : lv_has ls 4 [(0, .ref (r 0)), (1, .int ar1), (2, .int ar2), (3, .int ar3)] := hl
  have hx := S.1
  have hb := S.2.1
  refine lv_aload_n hx hb dX10_tell_0 rfl (lv_at hl 0 rfl) ?_
  refine zz_get (v := .int (nI tn)) S hw fgX10_257 0 rfl rfl dX10_tell_1 ?_
  refine lv_bipush (v := 20) hx hb dX10_tell_4 (by decide) ?_
  refine lv_icmp_eq (tgt := 27) hx hb dX10_tell_6 (by decide) (fun c6_1 => ?_) (fun c6_1 => ?_)
  · skip
    have c6_1n : tn = 20 := (zz_eq (a := tn) (b := 20) rfl rfl (by omega) (by omega)).mp c6_1
    refine lv_iconst (v := (-1)) hx hb dX10_tell_27 (by decide) ?_
    exact hret _ _ _ _ _ _ ⟨(-1), tn, c62, c63, c64, rfl, rfl, (by first | assumption | omega | exact zz_tpu (by assumption) (by omega)), (by first | assumption | omega | exact zz_tpu (by assumption) (by omega)), (by first | exact zz_tl1 (by assumption) (by assumption) | exact zz_tl2 (by assumption) | exact zz_tl3 (by assumption) | exact zz_tl3 (Int32.not_le.mp (by assumption)) | exact zz_tl4 (by assumption) (by assumption) | exact zz_tl5 (by omega) | exact zz_tl6 (by omega) (by omega) (by omega) | exact zz_tl7 (by omega) (by omega) (by assumption)), (by first | exact Or.inl ⟨rfl, rfl, rfl, rfl⟩ | exact Or.inr ⟨rfl, rfl, rfl, rfl⟩)⟩ hw rfl dX10_tell_28
  · skip
    have c6_1n : ¬ (tn = 20) := fun z => c6_1 ((zz_eq (a := tn) (b := 20) rfl rfl (by omega) (by omega)).mpr z)
    refine lv_aload_n hx hb dX10_tell_9 rfl (lv_at hl 0 rfl) ?_
    refine lv_iload_n hx hb dX10_tell_10 rfl (lv_at hl 1 rfl) ?_
    refine zz_callV (qb := 0) (As := [.int ar1]) (rest := []) (wr := [((r 62), .inl (G.2 0, 20, .inl c62)), ((r 63), .inl (G.2 0, 20, .inl c63)), ((r 64), .inl (G.2 2, 20, .inl c64))]) S hw hl.1 lX10_382 (c_x_isPart l G r j0 j2 j4 j10 j11 j12 j13 j14 j15 j16 j17 j19 j20 j34 j40 j44 j47 j50 j51 j56 (nI tn) lv pq c26 ar1 (by first | assumption | omega | exact Or.inr ⟨_, by omega, rfl⟩ | (unfold zz_sok; decide) | decide | exact (fun j hj => (hv7 j hj).1)) (by first | assumption | omega | exact Or.inr ⟨_, by omega, rfl⟩ | (unfold zz_sok; decide) | decide | exact (fun j hj => (hv7 j hj).1)) (by first | assumption | omega | exact Or.inr ⟨_, by omega, rfl⟩ | (unfold zz_sok; decide) | decide | exact (fun j hj => (hv7 j hj).1))) ⟨Nat.le_of_ble_eq_true rfl, Nat.le_of_ble_eq_true rfl⟩ ⟨Nat.le_of_ble_eq_true rfl, Nat.le_of_ble_eq_true rfl⟩ [0, 1] [2, 3, 4] (by decide) rfl rfl (by decide) (by decide) rfl rfl rfl rfl (Nat.le_of_ble_eq_true rfl) dX10_tell_11 ?_
    clear hw
    intro rr u H locs hp hw
    refine hp.elim fun rv_2 zg0 => zg0.elim fun zee1 zg1 => zg1.elim fun zee2 zg2 => zg2.elim fun hq11_0 zg3 => zg3.elim fun hq11_1 hq11_2 => ?_
    clear hp zg0 zg1 zg2 zg3
    subst zee1
    subst zee2
    replace hw : zz_w G A s [((r 62), .inl (G.2 0, 20, .inl c62)), ((r 63), .inl (G.2 0, 20, .inl c63)), ((r 64), .inl (G.2 2, 20, .inl c64)), ((r 0), .inr (10, (zz_mo r [(0, j0), (2, j2), (4, j4), (10, j10), (11, j11), (12, j12), (13, j13), (14, j14), (15, j15), (16, j16), (17, j17), (18, (nI lv)), (19, j19), (20, j20), (34, j34), (40, j40), (44, j44), (47, j47), (50, j50), (51, j51), (56, j56), (61, (nI tn))]))), ((r 26), .inl (G.2 0, 2, .inl c26))] H _ := hw
    refine W.eq (g2 := F0 m 14 ls [.int rv_2]) rfl ?_
    refine lv_if_eq (tgt := 27) hx hb dX10_tell_14 (by decide) (fun c14_3 => ?_) (fun c14_3 => ?_)
    · skip
      refine lv_iconst (v := (-1)) hx hb dX10_tell_27 (by decide) ?_
      exact hret _ _ _ _ _ _ ⟨(-1), tn, c62, c63, c64, rfl, rfl, (by first | assumption | omega | exact zz_tpu (by assumption) (by omega)), (by first | assumption | omega | exact zz_tpu (by assumption) (by omega)), (by first | exact zz_tl1 (by assumption) (by assumption) | exact zz_tl2 (by assumption) | exact zz_tl3 (by assumption) | exact zz_tl3 (Int32.not_le.mp (by assumption)) | exact zz_tl4 (by assumption) (by assumption) | exact zz_tl5 (by omega) | exact zz_tl6 (by omega) (by omega) (by omega) | exact zz_tl7 (by omega) (by omega) (by assumption)), (by first | exact Or.inl ⟨rfl, rfl, rfl, rfl⟩ | exact Or.inr ⟨rfl, rfl, rfl, rfl⟩)⟩ (hw.sub [3, 4, 0, 1, 2] (by decide) rfl) rfl dX10_tell_28
    · skip
      obtain ⟨vq4, hvq4, rfl⟩ := hq11_0.resolve_left c14_3
      refine lv_iload_n hx hb dX10_tell_17 rfl (lv_at hl 2 rfl) ?_
      refine lv_iconst (v := 0) hx hb dX10_tell_18 (by decide) ?_
      refine lv_bipush (v := 99) hx hb dX10_tell_19 (by decide) ?_
      refine zz_callS (As := [.int ar2, .int 0, .int 99]) (rest := []) (wr := [((r 62), .inl (G.2 0, 20, .inl c62)), ((r 63), .inl (G.2 0, 20, .inl c63)), ((r 64), .inl (G.2 2, 20, .inl c64)), ((r 0), .inr (10, (zz_mo r [(0, j0), (2, j2), (4, j4), (10, j10), (11, j11), (12, j12), (13, j13), (14, j14), (15, j15), (16, j16), (17, j17), (18, (nI lv)), (19, j19), (20, j20), (34, j34), (40, j40), (44, j44), (47, j47), (50, j50), (51, j51), (56, j56), (61, (nI tn))]))), ((r 26), .inl (G.2 0, 2, .inl c26))]) S hw hl.1 lX10_313 (c_x_in l G ar2 0 99) ⟨Nat.le_of_ble_eq_true rfl, Nat.le_of_ble_eq_true rfl⟩ ⟨Nat.le_of_ble_eq_true rfl, Nat.le_of_ble_eq_true rfl⟩ [] [0, 1, 2, 3, 4] (by decide) rfl rfl (by decide) (by decide) rfl rfl (Nat.le_of_ble_eq_true rfl) dX10_tell_21 ?_
      clear hw
      intro rr u H locs hp hw
      refine hp.elim fun rv_5 zg0 => zg0.elim fun zee1 zg1 => zg1.elim fun zee2 zg2 => zg2.elim fun hq21_0 zg3 => zg3.elim fun hq21_1 hq21_2 => ?_
      clear hp zg0 zg1 zg2 zg3
      subst zee1
      subst zee2
      replace hw : zz_w G A s [((r 62), .inl (G.2 0, 20, .inl c62)), ((r 63), .inl (G.2 0, 20, .inl c63)), ((r 64), .inl (G.2 2, 20, .inl c64)), ((r 0), .inr (10, (zz_mo r [(0, j0), (2, j2), (4, j4), (10, j10), (11, j11), (12, j12), (13, j13), (14, j14), (15, j15), (16, j16), (17, j17), (18, (nI lv)), (19, j19), (20, j20), (34, j34), (40, j40), (44, j44), (47, j47), (50, j50), (51, j51), (56, j56), (61, (nI tn))]))), ((r 26), .inl (G.2 0, 2, .inl c26))] H _ := hw
      refine W.eq (g2 := F0 m 24 ls [.int rv_5]) rfl ?_
      refine lv_if_ne (tgt := 29) hx hb dX10_tell_24 (by decide) (fun c24_6 => ?_) (fun c24_6 => ?_)
      · skip
        have hq21_0i := hq21_0.resolve_left c24_6
        obtain ⟨vq7, hvq7, rfl⟩ : ∃ k : Nat, k ≤ 99 ∧ ar2 = nI k := zz_rng (zz_lo0 hq21_0i.1) hq21_0i.2 (by omega)
        refine lv_aload_n hx hb dX10_tell_29 rfl (lv_at hl 0 rfl) ?_
        refine zz_get (v := .ref (r 62)) S hw fgX10_140 3 rfl rfl dX10_tell_30 ?_
        refine W.eq (g2 := F0 m 33 ls [.ref (r 62)]) rfl ?_
        refine lv_aload_n hx hb dX10_tell_33 rfl (lv_at hl 0 rfl) ?_
        refine zz_get (v := .int (nI tn)) S hw fgX10_257 3 rfl rfl dX10_tell_34 ?_
        refine lv_iload_n hx hb dX10_tell_37 rfl (lv_at hl 1 rfl) ?_
        refine zz_iast (ws' := [((r 62), .inl (G.2 0, 20, .inl (upd c62 tn (nI vq4)))), ((r 63), .inl (G.2 0, 20, .inl c63)), ((r 64), .inl (G.2 2, 20, .inl c64)), ((r 0), .inr (10, (zz_mo r [(0, j0), (2, j2), (4, j4), (10, j10), (11, j11), (12, j12), (13, j13), (14, j14), (15, j15), (16, j16), (17, j17), (18, (nI lv)), (19, j19), (20, j20), (34, j34), (40, j40), (44, j44), (47, j47), (50, j50), (51, j51), (56, j56), (61, (nI tn))]))), ((r 26), .inl (G.2 0, 2, .inl c26))]) (g := (upd c62 tn (nI vq4))) S hw 0 rfl (vp_in_nI (n := tn) (by omega) (by decide)) (zz_upn (n := tn) (by omega)) rfl dX10_tell_38 ?_
        clear hw
        intro H locs hw
        refine lv_aload_n hx hb dX10_tell_39 rfl (lv_at hl 0 rfl) ?_
        refine zz_get (v := .ref (r 63)) S hw fgX10_143 3 rfl rfl dX10_tell_40 ?_
        refine lv_aload_n hx hb dX10_tell_43 rfl (lv_at hl 0 rfl) ?_
        refine zz_get (v := .int (nI tn)) S hw fgX10_257 3 rfl rfl dX10_tell_44 ?_
        refine lv_iload_n hx hb dX10_tell_47 rfl (lv_at hl 2 rfl) ?_
        refine zz_iast (ws' := [((r 62), .inl (G.2 0, 20, .inl (upd c62 tn (nI vq4)))), ((r 63), .inl (G.2 0, 20, .inl (upd c63 tn (nI vq7)))), ((r 64), .inl (G.2 2, 20, .inl c64)), ((r 0), .inr (10, (zz_mo r [(0, j0), (2, j2), (4, j4), (10, j10), (11, j11), (12, j12), (13, j13), (14, j14), (15, j15), (16, j16), (17, j17), (18, (nI lv)), (19, j19), (20, j20), (34, j34), (40, j40), (44, j44), (47, j47), (50, j50), (51, j51), (56, j56), (61, (nI tn))]))), ((r 26), .inl (G.2 0, 2, .inl c26))]) (g := (upd c63 tn (nI vq7))) S hw 1 rfl (vp_in_nI (n := tn) (by omega) (by decide)) (zz_upn (n := tn) (by omega)) rfl dX10_tell_48 ?_
        clear hw
        intro H locs hw
        refine lv_aload_n hx hb dX10_tell_49 rfl (lv_at hl 0 rfl) ?_
        refine zz_get (v := .ref (r 64)) S hw fgX10_146 3 rfl rfl dX10_tell_50 ?_
        refine lv_aload_n hx hb dX10_tell_53 rfl (lv_at hl 0 rfl) ?_
        refine zz_get (v := .int (nI tn)) S hw fgX10_257 3 rfl rfl dX10_tell_54 ?_
        refine W.eq (g2 := F0 m 57 ls [.int (nI tn), .ref (r 64)]) rfl ?_
        refine lv_iload_n hx hb dX10_tell_57 rfl (lv_at hl 3 rfl) ?_
        refine zz_zast (ws' := [((r 62), .inl (G.2 0, 20, .inl (upd c62 tn (nI vq4)))), ((r 63), .inl (G.2 0, 20, .inl (upd c63 tn (nI vq7)))), ((r 64), .inl (G.2 2, 20, .inl (upd c64 tn (vp_nar .boolean ar3)))), ((r 0), .inr (10, (zz_mo r [(0, j0), (2, j2), (4, j4), (10, j10), (11, j11), (12, j12), (13, j13), (14, j14), (15, j15), (16, j16), (17, j17), (18, (nI lv)), (19, j19), (20, j20), (34, j34), (40, j40), (44, j44), (47, j47), (50, j50), (51, j51), (56, j56), (61, (nI tn))]))), ((r 26), .inl (G.2 0, 2, .inl c26))]) (g := (upd c64 tn (vp_nar .boolean ar3))) S hw 2 rfl (vp_in_nI (n := tn) (by omega) (by decide)) (by rw [show ((nI tn) : Int32).toNatClampNeg = tn from nI_clamp (n := tn) (by omega)]) rfl dX10_tell_58 ?_
        clear hw
        intro H locs hw
        refine lv_aload_n hx hb dX10_tell_59 rfl (lv_at hl 0 rfl) ?_
        refine lv_dup hx hb dX10_tell_60 rfl ?_
        refine zz_get (v := .int (nI tn)) S hw fgX10_257 3 rfl rfl dX10_tell_61 ?_
        refine lv_iconst (v := 1) hx hb dX10_tell_64 (by decide) ?_
        refine lv_iadd hx hb dX10_tell_65 ?_
        refine zz_topi (y := (nI (tn + 1))) (nI_add _ _) ?_
        refine zz_put (ws' := [((r 62), .inl (G.2 0, 20, .inl (upd c62 tn (nI vq4)))), ((r 63), .inl (G.2 0, 20, .inl (upd c63 tn (nI vq7)))), ((r 64), .inl (G.2 2, 20, .inl (upd c64 tn (vp_nar .boolean ar3)))), ((r 0), .inr (10, (zz_mo r [(0, j0), (2, j2), (4, j4), (10, j10), (11, j11), (12, j12), (13, j13), (14, j14), (15, j15), (16, j16), (17, j17), (18, (nI lv)), (19, j19), (20, j20), (34, j34), (40, j40), (44, j44), (47, j47), (50, j50), (51, j51), (56, j56), (61, (nI (tn + 1)))]))), ((r 26), .inl (G.2 0, 2, .inl c26))]) (v := .int (nI (tn + 1))) S hw fpX10_257 3 rfl rfl rfl (Nat.le_of_ble_eq_true rfl) rfl dX10_tell_66 ?_
        clear hw
        intro H locs hw
        refine lv_aload_n hx hb dX10_tell_69 rfl (lv_at hl 0 rfl) ?_
        refine zz_get (v := .int (nI (tn + 1))) S hw fgX10_257 3 rfl rfl dX10_tell_70 ?_
        refine lv_iconst (v := 1) hx hb dX10_tell_73 (by decide) ?_
        refine lv_isub hx hb dX10_tell_74 ?_
        refine zz_topi (y := (nI tn)) (pk_sub (a := (tn + 1)) (b := 1) (by omega)) ?_
        exact hret _ _ _ _ _ _ ⟨(nI tn), (tn + 1), (upd c62 tn (nI vq4)), (upd c63 tn (nI vq7)), (upd c64 tn (vp_nar .boolean ar3)), rfl, rfl, (by first | assumption | omega | exact zz_tpu (by assumption) (by omega)), (by first | assumption | omega | exact zz_tpu (by assumption) (by omega)), (by first | exact zz_tl1 (by assumption) (by assumption) | exact zz_tl2 (by assumption) | exact zz_tl3 (by assumption) | exact zz_tl3 (Int32.not_le.mp (by assumption)) | exact zz_tl4 (by assumption) (by assumption) | exact zz_tl5 (by omega) | exact zz_tl6 (by omega) (by omega) (by omega) | exact zz_tl7 (by omega) (by omega) (by assumption)), (by first | exact Or.inl ⟨rfl, rfl, rfl, rfl⟩ | exact Or.inr ⟨rfl, rfl, rfl, rfl⟩)⟩ (hw.sub [3, 4, 0, 1, 2] (by decide) rfl) rfl dX10_tell_75
      · skip
        refine lv_iconst (v := (-1)) hx hb dX10_tell_27 (by decide) ?_
        exact hret _ _ _ _ _ _ ⟨(-1), tn, c62, c63, c64, rfl, rfl, (by first | assumption | omega | exact zz_tpu (by assumption) (by omega)), (by first | assumption | omega | exact zz_tpu (by assumption) (by omega)), (by first | exact zz_tl1 (by assumption) (by assumption) | exact zz_tl2 (by assumption) | exact zz_tl3 (by assumption) | exact zz_tl3 (Int32.not_le.mp (by assumption)) | exact zz_tl4 (by assumption) (by assumption) | exact zz_tl5 (by omega) | exact zz_tl6 (by omega) (by omega) (by omega) | exact zz_tl7 (by omega) (by omega) (by assumption)), (by first | exact Or.inl ⟨rfl, rfl, rfl, rfl⟩ | exact Or.inr ⟨rfl, rfl, rfl, rfl⟩)⟩ (hw.sub [3, 4, 0, 1, 2] (by decide) rfl) rfl dX10_tell_28
theorem kd_ncX10_forget : kd_ck 53264067440257489134732555306 12 cX10_forget.data.toList 0 = true := by decide +kernel
theorem dX10_forget_0 : decode cX10_forget 0 = .ok (.aload_n 0, 1) := kd_dk0 kd_o42 kd_ncX10_forget rfl
theorem dX10_forget_1 : decode cX10_forget 1 = .ok (.getfield 257, 3) := kd_dk2 kd_o180 kd_ncX10_forget rfl
theorem dX10_forget_4 : decode cX10_forget 4 = .ok (.istore_n 1, 1) := kd_dk0 kd_o60 kd_ncX10_forget rfl
theorem dX10_forget_5 : decode cX10_forget 5 = .ok (.aload_n 0, 1) := kd_dk0 kd_o42 kd_ncX10_forget rfl
theorem dX10_forget_6 : decode cX10_forget 6 = .ok (.iconst 0, 1) := kd_dk0 kd_o3 kd_ncX10_forget rfl
theorem dX10_forget_7 : decode cX10_forget 7 = .ok (.putfield 257, 3) := kd_dk2 kd_o181 kd_ncX10_forget rfl
theorem dX10_forget_10 : decode cX10_forget 10 = .ok (.iload_n 1, 1) := kd_dk0 kd_o27 kd_ncX10_forget rfl
theorem dX10_forget_11 : decode cX10_forget 11 = .ok (.ireturn, 1) := kd_dk0 kd_o172 kd_ncX10_forget rfl
set_option maxHeartbeats 8000000 in
set_option maxRecDepth 100000 in
theorem c_x_forget (l : Launch) (G : zz_G) (r : Nat → Nat) (j0 : Int32) (j2 : Int32) (j4 : Int32) (j10 : Int32) (j11 : Int32) (j12 : Int32) (j13 : Int32) (j14 : Int32) (j15 : Int32) (j16 : Int32) (j17 : Int32) (j18 : Int32) (j19 : Int32) (j20 : Int32) (j34 : Int32) (j40 : Int32) (j44 : Int32) (j47 : Int32) (j50 : Int32) (j51 : Int32) (j56 : Int32) (tn : Nat) (htn : tn ≤ 20) : zz_M l G mX10_forget 0 0 0 [.ref (r 0)] [((r 0), .inr (10, (zz_mo r [(0, j0), (2, j2), (4, j4), (10, j10), (11, j11), (12, j12), (13, j13), (14, j14), (15, j15), (16, j16), (17, j17), (18, j18), (19, j19), (20, j20), (34, j34), (40, j40), (44, j44), (47, j47), (50, j50), (51, j51), (56, j56), (61, (nI tn))])))] (fun rr u => ∃ (rv : Int32), rr = some (.int rv) ∧ u = [((r 0), .inr (10, (zz_mo r [(0, j0), (2, j2), (4, j4), (10, j10), (11, j11), (12, j12), (13, j13), (14, j14), (15, j15), (16, j16), (17, j17), (18, j18), (19, j19), (20, j20), (34, j34), (40, j40), (44, j44), (47, j47), (50, j50), (51, j51), (56, j56)])))] ∧ (rv = nI tn)) := by
  refine zz_enteri (by decide +kernel) (Nat.le_of_ble_eq_true rfl) ?_
  intro p e s m args below meth c A Q ls S hnm hret hw hl
  have hl : lv_has ls 2 [(0, .ref (r 0))] := hl
  have hx := S.1
  have hb := S.2.1
  refine lv_aload_n hx hb dX10_forget_0 rfl (lv_at hl 0 rfl) ?_
  refine zz_get (v := .int (nI tn)) S hw fgX10_257 0 rfl rfl dX10_forget_1 ?_
  refine lv_istore_n (lv' := [(1, .int (nI tn)), (0, .ref (r 0))]) hx hb dX10_forget_4 rfl hl (by decide) rfl (fun ls hl => ?_)
  refine lv_aload_n hx hb dX10_forget_5 rfl (lv_at hl 1 rfl) ?_
  refine lv_iconst (v := 0) hx hb dX10_forget_6 (by decide) ?_
  refine zz_put (ws' := [((r 0), .inr (10, (zz_mo r [(0, j0), (2, j2), (4, j4), (10, j10), (11, j11), (12, j12), (13, j13), (14, j14), (15, j15), (16, j16), (17, j17), (18, j18), (19, j19), (20, j20), (34, j34), (40, j40), (44, j44), (47, j47), (50, j50), (51, j51), (56, j56)])))]) (v := .int 0) S hw fpX10_257 0 rfl rfl rfl (Nat.le_of_ble_eq_true rfl) rfl dX10_forget_7 ?_
  clear hw
  intro H locs hw
  refine lv_iload_n hx hb dX10_forget_10 rfl (lv_at hl 0 rfl) ?_
  exact hret _ _ _ _ _ _ ⟨(nI tn), rfl, rfl, rfl⟩ hw rfl dX10_forget_11
theorem kd_ncX10_whoBits : kd_ck 68404990236627047904172052174643015614033312627710467518080046944407292946164625334325412044926316562851846162007559104977971359849156657471947091275400376567794445560642158209456753035170924158941739285420202293691502598179911320581674 98 cX10_whoBits.data.toList 0 = true := by decide +kernel
theorem dX10_whoBits_0 : decode cX10_whoBits 0 = .ok (.aload_n 0, 1) := kd_dk0 kd_o42 kd_ncX10_whoBits rfl
theorem dX10_whoBits_1 : decode cX10_whoBits 1 = .ok (.invokevirtual 323, 3) := kd_dk2 kd_o182 kd_ncX10_whoBits rfl
theorem dX10_whoBits_4 : decode cX10_whoBits 4 = .ok (.iconst 0, 1) := kd_dk0 kd_o3 kd_ncX10_whoBits rfl
theorem dX10_whoBits_5 : decode cX10_whoBits 5 = .ok (.istore_n 2, 1) := kd_dk0 kd_o61 kd_ncX10_whoBits rfl
theorem dX10_whoBits_6 : decode cX10_whoBits 6 = .ok (.iconst 0, 1) := kd_dk0 kd_o3 kd_ncX10_whoBits rfl
theorem dX10_whoBits_7 : decode cX10_whoBits 7 = .ok (.istore_n 3, 1) := kd_dk0 kd_o62 kd_ncX10_whoBits rfl
theorem dX10_whoBits_8 : decode cX10_whoBits 8 = .ok (.iload_n 3, 1) := kd_dk0 kd_o29 kd_ncX10_whoBits rfl
theorem dX10_whoBits_9 : decode cX10_whoBits 9 = .ok (.aload_n 0, 1) := kd_dk0 kd_o42 kd_ncX10_whoBits rfl
theorem dX10_whoBits_10 : decode cX10_whoBits 10 = .ok (.getfield 43, 3) := kd_dk2 kd_o180 kd_ncX10_whoBits rfl
theorem dX10_whoBits_13 : decode cX10_whoBits 13 = .ok (.aload_n 0, 1) := kd_dk0 kd_o42 kd_ncX10_whoBits rfl
theorem dX10_whoBits_14 : decode cX10_whoBits 14 = .ok (.getfield 236, 3) := kd_dk2 kd_o180 kd_ncX10_whoBits rfl
theorem dX10_whoBits_17 : decode cX10_whoBits 17 = .ok (.iaload, 1) := kd_dk0 kd_o46 kd_ncX10_whoBits rfl
theorem dX10_whoBits_18 : decode cX10_whoBits 18 = .ok (.if_icmp .ge 78, 3) := kd_dj2 kd_o162 (w := 78) kd_ncX10_whoBits rfl rfl
theorem dX10_whoBits_21 : decode cX10_whoBits 21 = .ok (.iconst 1, 1) := kd_dk0 kd_o4 kd_ncX10_whoBits rfl
theorem dX10_whoBits_22 : decode cX10_whoBits 22 = .ok (.istore 4, 2) := kd_dk1 kd_o54 kd_ncX10_whoBits rfl
theorem dX10_whoBits_24 : decode cX10_whoBits 24 = .ok (.iconst 0, 1) := kd_dk0 kd_o3 kd_ncX10_whoBits rfl
theorem dX10_whoBits_25 : decode cX10_whoBits 25 = .ok (.istore 5, 2) := kd_dk1 kd_o54 kd_ncX10_whoBits rfl
theorem dX10_whoBits_27 : decode cX10_whoBits 27 = .ok (.iload 5, 2) := kd_dk1 kd_o21 kd_ncX10_whoBits rfl
theorem dX10_whoBits_29 : decode cX10_whoBits 29 = .ok (.iload_n 1, 1) := kd_dk0 kd_o27 kd_ncX10_whoBits rfl
theorem dX10_whoBits_30 : decode cX10_whoBits 30 = .ok (.if_icmp .ge 49, 3) := kd_dj2 kd_o162 (w := 49) kd_ncX10_whoBits rfl rfl
theorem dX10_whoBits_33 : decode cX10_whoBits 33 = .ok (.aload_n 0, 1) := kd_dk0 kd_o42 kd_ncX10_whoBits rfl
theorem dX10_whoBits_34 : decode cX10_whoBits 34 = .ok (.iload_n 3, 1) := kd_dk0 kd_o29 kd_ncX10_whoBits rfl
theorem dX10_whoBits_35 : decode cX10_whoBits 35 = .ok (.aload_n 0, 1) := kd_dk0 kd_o42 kd_ncX10_whoBits rfl
theorem dX10_whoBits_36 : decode cX10_whoBits 36 = .ok (.getfield 140, 3) := kd_dk2 kd_o180 kd_ncX10_whoBits rfl
theorem dX10_whoBits_39 : decode cX10_whoBits 39 = .ok (.iload 5, 2) := kd_dk1 kd_o21 kd_ncX10_whoBits rfl
theorem dX10_whoBits_41 : decode cX10_whoBits 41 = .ok (.iaload, 1) := kd_dk0 kd_o46 kd_ncX10_whoBits rfl
theorem dX10_whoBits_42 : decode cX10_whoBits 42 = .ok (.invokevirtual 348, 3) := kd_dk2 kd_o182 kd_ncX10_whoBits rfl
theorem dX10_whoBits_45 : decode cX10_whoBits 45 = .ok (.aload_n 0, 1) := kd_dk0 kd_o42 kd_ncX10_whoBits rfl
theorem dX10_whoBits_46 : decode cX10_whoBits 46 = .ok (.getfield 143, 3) := kd_dk2 kd_o180 kd_ncX10_whoBits rfl
theorem dX10_whoBits_49 : decode cX10_whoBits 49 = .ok (.iload 5, 2) := kd_dk1 kd_o21 kd_ncX10_whoBits rfl
theorem dX10_whoBits_51 : decode cX10_whoBits 51 = .ok (.iaload, 1) := kd_dk0 kd_o46 kd_ncX10_whoBits rfl
theorem dX10_whoBits_52 : decode cX10_whoBits 52 = .ok (.if_icmp .lt 7, 3) := kd_dj2 kd_o161 (w := 7) kd_ncX10_whoBits rfl rfl
theorem dX10_whoBits_55 : decode cX10_whoBits 55 = .ok (.iconst 1, 1) := kd_dk0 kd_o4 kd_ncX10_whoBits rfl
theorem dX10_whoBits_56 : decode cX10_whoBits 56 = .ok (.goto 4, 3) := kd_dj2 kd_o167 (w := 4) kd_ncX10_whoBits rfl rfl
theorem dX10_whoBits_59 : decode cX10_whoBits 59 = .ok (.iconst 0, 1) := kd_dk0 kd_o3 kd_ncX10_whoBits rfl
theorem dX10_whoBits_60 : decode cX10_whoBits 60 = .ok (.aload_n 0, 1) := kd_dk0 kd_o42 kd_ncX10_whoBits rfl
theorem dX10_whoBits_61 : decode cX10_whoBits 61 = .ok (.getfield 146, 3) := kd_dk2 kd_o180 kd_ncX10_whoBits rfl
theorem dX10_whoBits_64 : decode cX10_whoBits 64 = .ok (.iload 5, 2) := kd_dk1 kd_o21 kd_ncX10_whoBits rfl
theorem dX10_whoBits_66 : decode cX10_whoBits 66 = .ok (.baload, 1) := kd_dk0 kd_o51 kd_ncX10_whoBits rfl
theorem dX10_whoBits_67 : decode cX10_whoBits 67 = .ok (.if_icmp .eq 6, 3) := kd_dj2 kd_o159 (w := 6) kd_ncX10_whoBits rfl rfl
theorem dX10_whoBits_70 : decode cX10_whoBits 70 = .ok (.iconst 0, 1) := kd_dk0 kd_o3 kd_ncX10_whoBits rfl
theorem dX10_whoBits_71 : decode cX10_whoBits 71 = .ok (.istore 4, 2) := kd_dk1 kd_o54 kd_ncX10_whoBits rfl
theorem dX10_whoBits_73 : decode cX10_whoBits 73 = .ok (.iinc 5 1, 3) := kd_dji kd_o132 (w := 1) kd_ncX10_whoBits rfl rfl
theorem dX10_whoBits_76 : decode cX10_whoBits 76 = .ok (.goto (-49), 3) := kd_dj2 kd_o167 (w := 65487) kd_ncX10_whoBits rfl rfl
theorem dX10_whoBits_79 : decode cX10_whoBits 79 = .ok (.iload 4, 2) := kd_dk1 kd_o21 kd_ncX10_whoBits rfl
theorem dX10_whoBits_81 : decode cX10_whoBits 81 = .ok (.ifCond .eq 9, 3) := kd_dj2 kd_o153 (w := 9) kd_ncX10_whoBits rfl rfl
theorem dX10_whoBits_84 : decode cX10_whoBits 84 = .ok (.iload_n 2, 1) := kd_dk0 kd_o28 kd_ncX10_whoBits rfl
theorem dX10_whoBits_85 : decode cX10_whoBits 85 = .ok (.iconst 1, 1) := kd_dk0 kd_o4 kd_ncX10_whoBits rfl
theorem dX10_whoBits_86 : decode cX10_whoBits 86 = .ok (.iload_n 3, 1) := kd_dk0 kd_o29 kd_ncX10_whoBits rfl
theorem dX10_whoBits_87 : decode cX10_whoBits 87 = .ok (.ishl, 1) := kd_dk0 kd_o120 kd_ncX10_whoBits rfl
theorem dX10_whoBits_88 : decode cX10_whoBits 88 = .ok (.ior, 1) := kd_dk0 kd_o128 kd_ncX10_whoBits rfl
theorem dX10_whoBits_89 : decode cX10_whoBits 89 = .ok (.istore_n 2, 1) := kd_dk0 kd_o61 kd_ncX10_whoBits rfl
theorem dX10_whoBits_90 : decode cX10_whoBits 90 = .ok (.iinc 3 1, 3) := kd_dji kd_o132 (w := 1) kd_ncX10_whoBits rfl rfl
theorem dX10_whoBits_93 : decode cX10_whoBits 93 = .ok (.goto (-85), 3) := kd_dj2 kd_o167 (w := 65451) kd_ncX10_whoBits rfl rfl
theorem dX10_whoBits_96 : decode cX10_whoBits 96 = .ok (.iload_n 2, 1) := kd_dk0 kd_o28 kd_ncX10_whoBits rfl
theorem dX10_whoBits_97 : decode cX10_whoBits 97 = .ok (.ireturn, 1) := kd_dk0 kd_o172 kd_ncX10_whoBits rfl
set_option maxHeartbeats 8000000 in
set_option maxRecDepth 100000 in
theorem c_x_whoBits (l : Launch) (G : zz_G) (r : Nat → Nat) (j0 : Int32) (j2 : Int32) (j4 : Int32) (j10 : Int32) (j11 : Int32) (j12 : Int32) (j13 : Int32) (j14 : Int32) (j15 : Int32) (j16 : Int32) (j17 : Int32) (j19 : Int32) (j20 : Int32) (j34 : Int32) (j40 : Int32) (j44 : Int32) (j47 : Int32) (j50 : Int32) (j51 : Int32) (j56 : Int32) (j61 : Int32) (lv : Nat) (pp : Nat) (pq : Nat) (c22 : Nat → Int32) (c24 : Nat → Int32) (c25 : Nat → Int32) (c26 : Nat → Int32) (c28 : Nat → Int32) (c29 : Nat → Int32) (c30 : Nat → Int32) (c31 : Nat → Int32) (c32 : Nat → Int32) (c33 : Nat → Int32) (c35 : Nat → Int32) (c36 : Nat → Int32) (c37 : Nat → Int32) (c38 : Nat → Int32) (c39 : Nat → Int32) (c41 : Nat → Int32) (c42 : Nat → Int32) (c45 : Nat → Int32) (c46 : Nat → Int32) (c48 : Nat → Int32) (c49 : Nat → Int32) (c62 : Nat → Int32) (c63 : Nat → Int32) (c64 : Nat → Int32) (kx : Nat) (hlv : lv ≤ 1) (hpe : c22 lv = nI pp) (hpp : pp ≤ 7) (hpa : c26 lv = nI pq) (hpq : pq ≤ 6) (hlw : zz_LW 2 0 0 c32 c33 c35 c36 c37 c38 c39 c41 c42) (hkx : kx ≤ 20) (htp : ∀ j, j < 20 → ∃ q : Nat, q < 6 ∧ c62 j = nI q) : zz_M l G mX10_whoBits 4 0 0 [.ref (r 0), .int (nI kx)] [((r 0), .inr (10, (zz_mo r [(0, j0), (2, j2), (4, j4), (10, j10), (11, j11), (12, j12), (13, j13), (14, j14), (15, j15), (16, j16), (17, j17), (18, (nI lv)), (19, j19), (20, j20), (34, j34), (40, j40), (44, j44), (47, j47), (50, j50), (51, j51), (56, j56), (61, j61)]))), ((r 22), .inl (G.2 0, 2, .inl c22)), ((r 24), .inl (G.2 0, 14, .inl c24)), ((r 25), .inl (G.2 0, 14, .inl c25)), ((r 26), .inl (G.2 0, 2, .inl c26)), ((r 28), .inl (G.2 0, 12, .inl c28)), ((r 29), .inl (G.2 0, 12, .inl c29)), ((r 30), .inl (G.2 0, 2, .inl c30)), ((r 31), .inl (G.2 0, 2, .inl c31)), ((r 32), .inl (G.2 0, 8, .inl c32)), ((r 33), .inl (G.2 0, 8, .inl c33)), ((r 35), .inl (G.2 2, 260, .inl c35)), ((r 36), .inl (G.2 0, 260, .inl c36)), ((r 37), .inl (G.2 0, 260, .inl c37)), ((r 38), .inl (G.2 0, 260, .inl c38)), ((r 39), .inl (G.2 0, 260, .inl c39)), ((r 41), .inl (G.2 0, 840, .inl c41)), ((r 42), .inl (G.2 0, 840, .inl c42)), ((r 45), .inl (G.2 0, 9, .inl c45)), ((r 46), .inl (G.2 0, 400, .inl c46)), ((r 48), .inl (G.2 0, 71, .inl c48)), ((r 49), .inl (G.2 0, 71, .inl c49)), ((r 62), .inl (G.2 0, 20, .inl c62)), ((r 63), .inl (G.2 0, 20, .inl c63)), ((r 64), .inl (G.2 2, 20, .inl c64))] (fun rr u => ∃ (rv : Int32), ∃ (k47 : Int32), ∃ (k50 : Int32), ∃ (k51 : Int32), ∃ (d45 : Nat → Int32), ∃ (d46 : Nat → Int32), ∃ (d49 : Nat → Int32), rr = some (.int rv) ∧ u = [((r 0), .inr (10, (zz_mo r [(0, j0), (2, j2), (4, j4), (10, j10), (11, j11), (12, j12), (13, j13), (14, j14), (15, j15), (16, j16), (17, j17), (18, (nI lv)), (19, j19), (20, j20), (34, j34), (40, j40), (44, j44), (47, k47), (50, k50), (51, k51), (56, j56), (61, j61)]))), ((r 22), .inl (G.2 0, 2, .inl c22)), ((r 24), .inl (G.2 0, 14, .inl c24)), ((r 25), .inl (G.2 0, 14, .inl c25)), ((r 26), .inl (G.2 0, 2, .inl c26)), ((r 28), .inl (G.2 0, 12, .inl c28)), ((r 29), .inl (G.2 0, 12, .inl c29)), ((r 30), .inl (G.2 0, 2, .inl c30)), ((r 31), .inl (G.2 0, 2, .inl c31)), ((r 32), .inl (G.2 0, 8, .inl c32)), ((r 33), .inl (G.2 0, 8, .inl c33)), ((r 35), .inl (G.2 2, 260, .inl c35)), ((r 36), .inl (G.2 0, 260, .inl c36)), ((r 37), .inl (G.2 0, 260, .inl c37)), ((r 38), .inl (G.2 0, 260, .inl c38)), ((r 39), .inl (G.2 0, 260, .inl c39)), ((r 41), .inl (G.2 0, 840, .inl c41)), ((r 42), .inl (G.2 0, 840, .inl c42)), ((r 45), .inl (G.2 0, 9, .inl d45)), ((r 46), .inl (G.2 0, 400, .inl d46)), ((r 48), .inl (G.2 0, 71, .inl c48)), ((r 49), .inl (G.2 0, 71, .inl d49)), ((r 62), .inl (G.2 0, 20, .inl c62)), ((r 63), .inl (G.2 0, 20, .inl c63)), ((r 64), .inl (G.2 2, 20, .inl c64))] ∧ (zy_q 71 c48 d49) ∧ (∀ Λ, (zr_HD lv c32 c33 c35 c36 c37 c38 c39 c41 c42 (c30 lv)) Λ → rv = zO (fun a => zk_ft (zr_Sx 99 lv d49 c24 c28 c25 c29 (Λ 0)) c62 c63 c64 a (fun i => i < kx)) pp)) := by
  refine zz_enteri (by decide +kernel) (Nat.le_of_ble_eq_true rfl) ?_
  intro p e s m args below meth c A Q ls S hnm hret hw hl
  have hl : lv_has ls 6 [(0, .ref (r 0)), (1, .int (nI kx))] := hl
  have hx := S.1
  have hb := S.2.1
  refine lv_aload_n hx hb dX10_whoBits_0 rfl (lv_at hl 0 rfl) ?_
  refine zz_callV (qb := 0) (As := []) (rest := []) (wr := [((r 22), .inl (G.2 0, 2, .inl c22)), ((r 24), .inl (G.2 0, 14, .inl c24)), ((r 25), .inl (G.2 0, 14, .inl c25)), ((r 26), .inl (G.2 0, 2, .inl c26)), ((r 28), .inl (G.2 0, 12, .inl c28)), ((r 29), .inl (G.2 0, 12, .inl c29)), ((r 30), .inl (G.2 0, 2, .inl c30)), ((r 32), .inl (G.2 0, 8, .inl c32)), ((r 33), .inl (G.2 0, 8, .inl c33)), ((r 35), .inl (G.2 2, 260, .inl c35)), ((r 36), .inl (G.2 0, 260, .inl c36)), ((r 37), .inl (G.2 0, 260, .inl c37)), ((r 38), .inl (G.2 0, 260, .inl c38)), ((r 39), .inl (G.2 0, 260, .inl c39)), ((r 41), .inl (G.2 0, 840, .inl c41)), ((r 42), .inl (G.2 0, 840, .inl c42)), ((r 45), .inl (G.2 0, 9, .inl c45)), ((r 46), .inl (G.2 0, 400, .inl c46)), ((r 62), .inl (G.2 0, 20, .inl c62)), ((r 63), .inl (G.2 0, 20, .inl c63)), ((r 64), .inl (G.2 2, 20, .inl c64))]) S hw hl.1 lX10_323 (c_x_copies l G r j0 j2 j4 j10 j11 j12 j13 j14 j15 j16 j17 j19 j20 j34 j40 j44 j47 j50 j51 j56 j61 lv c31 c48 c49 (by first | assumption | omega | exact Or.inr ⟨_, by omega, rfl⟩ | (unfold zz_sok; decide) | decide | exact (fun j hj => (hv7 j hj).1))) ⟨Nat.le_of_ble_eq_true rfl, Nat.le_of_ble_eq_true rfl⟩ ⟨Nat.le_of_ble_eq_true rfl, Nat.le_of_ble_eq_true rfl⟩ [0, 8, 20, 21] [1, 2, 3, 4, 5, 6, 7, 9, 10, 11, 12, 13, 14, 15, 16, 17, 18, 19, 22, 23, 24] (by decide +kernel) rfl rfl (by decide +kernel) (by decide +kernel) rfl rfl rfl rfl (Nat.le_of_ble_eq_true rfl) dX10_whoBits_1 ?_
  clear hw
  intro rr u H locs hp hw
  refine hp.elim fun k50_1 zg0 => zg0.elim fun k51_2 zg1 => zg1.elim fun d49_3 zg2 => zg2.elim fun zee1 zg3 => zg3.elim fun zee2 zg4 => zg4.elim fun hq1_0 zg5 => zg5.elim fun hq1_1 hq1_2 => ?_
  clear hp zg0 zg1 zg2 zg3 zg4 zg5
  subst zee1
  subst zee2
  replace hw : zz_w G A s [((r 22), .inl (G.2 0, 2, .inl c22)), ((r 24), .inl (G.2 0, 14, .inl c24)), ((r 25), .inl (G.2 0, 14, .inl c25)), ((r 26), .inl (G.2 0, 2, .inl c26)), ((r 28), .inl (G.2 0, 12, .inl c28)), ((r 29), .inl (G.2 0, 12, .inl c29)), ((r 30), .inl (G.2 0, 2, .inl c30)), ((r 32), .inl (G.2 0, 8, .inl c32)), ((r 33), .inl (G.2 0, 8, .inl c33)), ((r 35), .inl (G.2 2, 260, .inl c35)), ((r 36), .inl (G.2 0, 260, .inl c36)), ((r 37), .inl (G.2 0, 260, .inl c37)), ((r 38), .inl (G.2 0, 260, .inl c38)), ((r 39), .inl (G.2 0, 260, .inl c39)), ((r 41), .inl (G.2 0, 840, .inl c41)), ((r 42), .inl (G.2 0, 840, .inl c42)), ((r 45), .inl (G.2 0, 9, .inl c45)), ((r 46), .inl (G.2 0, 400, .inl c46)), ((r 62), .inl (G.2 0, 20, .inl c62)), ((r 63), .inl (G.2 0, 20, .inl c63)), ((r 64), .inl (G.2 2, 20, .inl c64)), ((r 0), .inr (10, (zz_mo r [(0, j0), (2, j2), (4, j4), (10, j10), (11, j11), (12, j12), (13, j13), (14, j14), (15, j15), (16, j16), (17, j17), (18, (nI lv)), (19, j19), (20, j20), (34, j34), (40, j40), (44, j44), (47, j47), (50, k50_1), (51, k51_2), (56, j56), (61, j61)]))), ((r 31), .inl (G.2 0, 2, .inl c31)), ((r 48), .inl (G.2 0, 71, .inl c48)), ((r 49), .inl (G.2 0, 71, .inl d49_3))] H _ := hw
  refine W.eq (g2 := F0 m 4 ls []) rfl ?_
  refine lv_iconst (v := 0) hx hb dX10_whoBits_4 (by decide) ?_
  refine lv_istore_n (lv' := [(2, .int 0), (0, .ref (r 0)), (1, .int (nI kx))]) hx hb dX10_whoBits_5 rfl hl (by decide) rfl (fun ls hl => ?_)
  refine lv_iconst (v := 0) hx hb dX10_whoBits_6 (by decide) ?_
  refine lv_istore_n (lv' := [(3, .int 0), (2, .int 0), (0, .ref (r 0)), (1, .int (nI kx))]) hx hb dX10_whoBits_7 rfl hl (by decide) rfl (fun ls hl => ?_)
  have lp8_150 : ∀ (vn5 vi4 : Nat) (vy101 : Int32) (vF102 : Nat → Int32) (vF103 : Nat → Int32) (vy104 : Int32) (H : Heap) (locs : List Loc) (ls : Array Slot), vi4 ≤ pp → pp < vi4 + vn5 → (∀ Λ, (zr_HD lv c32 c33 c35 c36 c37 c38 c39 c41 c42 (c30 lv)) Λ → vy101 = zO (fun a => zk_ft (zr_Sx 99 lv d49_3 c24 c28 c25 c29 (Λ 0)) c62 c63 c64 a (fun i => i < kx)) vi4) → zz_w G A s [((r 22), .inl (G.2 0, 2, .inl c22)), ((r 24), .inl (G.2 0, 14, .inl c24)), ((r 25), .inl (G.2 0, 14, .inl c25)), ((r 26), .inl (G.2 0, 2, .inl c26)), ((r 28), .inl (G.2 0, 12, .inl c28)), ((r 29), .inl (G.2 0, 12, .inl c29)), ((r 30), .inl (G.2 0, 2, .inl c30)), ((r 32), .inl (G.2 0, 8, .inl c32)), ((r 33), .inl (G.2 0, 8, .inl c33)), ((r 35), .inl (G.2 2, 260, .inl c35)), ((r 36), .inl (G.2 0, 260, .inl c36)), ((r 37), .inl (G.2 0, 260, .inl c37)), ((r 38), .inl (G.2 0, 260, .inl c38)), ((r 39), .inl (G.2 0, 260, .inl c39)), ((r 41), .inl (G.2 0, 840, .inl c41)), ((r 42), .inl (G.2 0, 840, .inl c42)), ((r 45), .inl (G.2 0, 9, .inl vF102)), ((r 46), .inl (G.2 0, 400, .inl vF103)), ((r 62), .inl (G.2 0, 20, .inl c62)), ((r 63), .inl (G.2 0, 20, .inl c63)), ((r 64), .inl (G.2 2, 20, .inl c64)), ((r 0), .inr (10, (zz_mo r [(0, j0), (2, j2), (4, j4), (10, j10), (11, j11), (12, j12), (13, j13), (14, j14), (15, j15), (16, j16), (17, j17), (18, (nI lv)), (19, j19), (20, j20), (34, j34), (40, j40), (44, j44), (47, vy104), (50, k50_1), (51, k51_2), (56, j56), (61, j61)]))), ((r 31), .inl (G.2 0, 2, .inl c31)), ((r 48), .inl (G.2 0, 71, .inl c48)), ((r 49), .inl (G.2 0, 71, .inl d49_3))] H locs → lv_has ls 6 [(3, .int (nI vi4)), (2, .int vy101), (0, .ref (r 0)), (1, .int (nI kx))] → W p l e (zz_rm 4 0 0) s m args below meth c H locs (0) (0) Q (F0 m 8 ls []) := by
    intro vn5
    induction vn5 with
    | zero => intro vi4 vy101 vF102 vF103 vy104 H locs ls hi1 hi2; exact absurd hi2 (by omega)
    | succ vn5 ih8 =>
      intro vi4 vy101 vF102 vF103 vy104 H locs ls hi8a hi8b hv8_149 hw hl
      refine lv_iload_n hx hb dX10_whoBits_8 rfl (lv_at hl 0 rfl) ?_
      refine lv_aload_n hx hb dX10_whoBits_9 rfl (lv_at hl 2 rfl) ?_
      refine zz_get (v := .ref (r 22)) S hw fgX10_43 21 rfl rfl dX10_whoBits_10 ?_
      refine lv_aload_n hx hb dX10_whoBits_13 rfl (lv_at hl 2 rfl) ?_
      refine zz_get (v := .int (nI lv)) S hw fgX10_236 21 rfl rfl dX10_whoBits_14 ?_
      refine zz_iald (v := (nI pp)) S hw 0 rfl (vp_in_nI (n := lv) (by omega) (by decide)) (by rw [show ((nI lv) : Int32).toNatClampNeg = lv from nI_clamp (n := lv) (by omega)]; exact hpe) dX10_whoBits_17 ?_
      refine lv_icmp_ge (tgt := 96) hx hb dX10_whoBits_18 (by decide) (fun c18_151 => ?_) (fun c18_151 => ?_)
      · skip
        have c18_151n : pp ≤ vi4 := (zz_le (a := pp) (b := vi4) rfl rfl (by omega) (by omega)).mp c18_151
        refine lv_iload_n hx hb dX10_whoBits_96 rfl (lv_at hl 1 rfl) ?_
        exact hret _ _ _ _ _ _ ⟨vy101, vy104, k50_1, k51_2, vF102, vF103, d49_3, rfl, rfl, hq1_0, (fun Λ h => zO_e (hv8_149 Λ h) (by omega))⟩ (hw.sub [21, 0, 1, 2, 3, 4, 5, 6, 22, 7, 8, 9, 10, 11, 12, 13, 14, 15, 16, 17, 23, 24, 18, 19, 20] (by decide +kernel) rfl) rfl dX10_whoBits_97
      · skip
        have c18_151n : ¬ (pp ≤ vi4) := fun z => c18_151 ((zz_le (a := pp) (b := vi4) rfl rfl (by omega) (by omega)).mpr z)
        refine lv_iconst (v := 1) hx hb dX10_whoBits_21 (by decide) ?_
        refine W.eq (g2 := F0 m 22 ls [.int 1]) rfl ?_
        refine lv_istore (lv' := [(4, .int 1), (3, .int (nI vi4)), (2, .int vy101), (0, .ref (r 0)), (1, .int (nI kx))]) hx hb dX10_whoBits_22 hl (by decide) rfl (fun ls hl => ?_)
        refine lv_iconst (v := 0) hx hb dX10_whoBits_24 (by decide) ?_
        refine lv_istore (lv' := [(5, .int 0), (4, .int 1), (3, .int (nI vi4)), (2, .int vy101), (0, .ref (r 0)), (1, .int (nI kx))]) hx hb dX10_whoBits_25 hl (by decide) rfl (fun ls hl => ?_)
        have lp27_182 : ∀ (vn153 vi152 : Nat) (vy165 : Int32) (vF166 : Nat → Int32) (vF167 : Nat → Int32) (vy168 : Int32) (H : Heap) (locs : List Loc) (ls : Array Slot), vi152 ≤ kx → kx < vi152 + vn153 → (∀ Λ, (zr_HD lv c32 c33 c35 c36 c37 c38 c39 c41 c42 (c30 lv)) Λ → (¬ vy165 = 0 ↔ ∀ j, j < vi152 → zk_fq (zr_Sx 99 lv d49_3 c24 c28 c25 c29 (Λ 0)) c62 c63 c64 vi4 j)) → zz_w G A s [((r 22), .inl (G.2 0, 2, .inl c22)), ((r 24), .inl (G.2 0, 14, .inl c24)), ((r 25), .inl (G.2 0, 14, .inl c25)), ((r 26), .inl (G.2 0, 2, .inl c26)), ((r 28), .inl (G.2 0, 12, .inl c28)), ((r 29), .inl (G.2 0, 12, .inl c29)), ((r 30), .inl (G.2 0, 2, .inl c30)), ((r 32), .inl (G.2 0, 8, .inl c32)), ((r 33), .inl (G.2 0, 8, .inl c33)), ((r 35), .inl (G.2 2, 260, .inl c35)), ((r 36), .inl (G.2 0, 260, .inl c36)), ((r 37), .inl (G.2 0, 260, .inl c37)), ((r 38), .inl (G.2 0, 260, .inl c38)), ((r 39), .inl (G.2 0, 260, .inl c39)), ((r 41), .inl (G.2 0, 840, .inl c41)), ((r 42), .inl (G.2 0, 840, .inl c42)), ((r 45), .inl (G.2 0, 9, .inl vF166)), ((r 46), .inl (G.2 0, 400, .inl vF167)), ((r 62), .inl (G.2 0, 20, .inl c62)), ((r 63), .inl (G.2 0, 20, .inl c63)), ((r 64), .inl (G.2 2, 20, .inl c64)), ((r 0), .inr (10, (zz_mo r [(0, j0), (2, j2), (4, j4), (10, j10), (11, j11), (12, j12), (13, j13), (14, j14), (15, j15), (16, j16), (17, j17), (18, (nI lv)), (19, j19), (20, j20), (34, j34), (40, j40), (44, j44), (47, vy168), (50, k50_1), (51, k51_2), (56, j56), (61, j61)]))), ((r 31), .inl (G.2 0, 2, .inl c31)), ((r 48), .inl (G.2 0, 71, .inl c48)), ((r 49), .inl (G.2 0, 71, .inl d49_3))] H locs → lv_has ls 6 [(5, .int (nI vi152)), (4, .int vy165), (3, .int (nI vi4)), (2, .int vy101), (0, .ref (r 0)), (1, .int (nI kx))] → W p l e (zz_rm 4 0 0) s m args below meth c H locs (0) (0) Q (F0 m 27 ls []) := by
          intro vn153
          induction vn153 with
          | zero => intro vi152 vy165 vF166 vF167 vy168 H locs ls hi1 hi2; exact absurd hi2 (by omega)
          | succ vn153 ih27 =>
            intro vi152 vy165 vF166 vF167 vy168 H locs ls hi27a hi27b hv27_181 hw hl
            refine lv_iload hx hb dX10_whoBits_27 (lv_at hl 0 rfl) ?_
            refine lv_iload_n hx hb dX10_whoBits_29 rfl (lv_at hl 5 rfl) ?_
            refine lv_icmp_ge (tgt := 79) hx hb dX10_whoBits_30 (by decide) (fun c30_183 => ?_) (fun c30_183 => ?_)
            · skip
              have c30_183n : kx ≤ vi152 := (zz_le (a := kx) (b := vi152) rfl rfl (by omega) (by omega)).mp c30_183
              refine lv_iload hx hb dX10_whoBits_79 (lv_at hl 1 rfl) ?_
              refine lv_if_eq (tgt := 90) hx hb dX10_whoBits_81 (by decide) (fun c81_184 => ?_) (fun c81_184 => ?_)
              · skip
                refine lv_iinc (v := (nI (vi4 + 1))) (lv' := [(3, .int (nI (vi4 + 1))), (5, .int (nI vi152)), (4, .int vy165), (2, .int vy101), (0, .ref (r 0)), (1, .int (nI kx))]) hx hb dX10_whoBits_90 hl (k := 2) rfl (nI_add _ 1) (by decide) rfl (fun ls hl => ?_)
                refine lv_goto (tgt := 8) hx hb dX10_whoBits_93 (by decide) ?_
                exact ih8 (vi4 + 1) vy101 vF166 vF167 vy168 _ _ _ (by omega) (by omega) (by first | exact fun Λ h => zO_y (hv8_149 Λ h) (zk_iy (hv27_181 Λ h) (by omega) (by assumption)) (by assumption) (by assumption) | exact fun Λ h => zO_n (hv8_149 Λ h) (zk_in (hv27_181 Λ h) (by omega) (by assumption))) hw (lv_sub hl [0, 3, 4, 5] rfl)
              · skip
                refine lv_iload_n hx hb dX10_whoBits_84 rfl (lv_at hl 3 rfl) ?_
                refine lv_iconst (v := 1) hx hb dX10_whoBits_85 (by decide) ?_
                refine lv_iload_n hx hb dX10_whoBits_86 rfl (lv_at hl 2 rfl) ?_
                refine lv_ishl hx hb dX10_whoBits_87 ?_
                refine lv_topi (fun z185 ez185 => ?_)
                refine lv_ior hx hb dX10_whoBits_88 ?_
                refine lv_topi (fun z186 ez186 => ?_)
                refine lv_istore_n (lv' := [(2, .int z186), (5, .int (nI vi152)), (4, .int vy165), (3, .int (nI vi4)), (0, .ref (r 0)), (1, .int (nI kx))]) hx hb dX10_whoBits_89 rfl hl (by decide) rfl (fun ls hl => ?_)
                refine W.eq (g2 := F0 m 90 ls []) rfl ?_
                refine lv_iinc (v := (nI (vi4 + 1))) (lv' := [(3, .int (nI (vi4 + 1))), (2, .int z186), (5, .int (nI vi152)), (4, .int vy165), (0, .ref (r 0)), (1, .int (nI kx))]) hx hb dX10_whoBits_90 hl (k := 3) rfl (nI_add _ 1) (by decide) rfl (fun ls hl => ?_)
                refine lv_goto (tgt := 8) hx hb dX10_whoBits_93 (by decide) ?_
                exact ih8 (vi4 + 1) z186 vF166 vF167 vy168 _ _ _ (by omega) (by omega) (by first | exact fun Λ h => zO_y (hv8_149 Λ h) (zk_iy (hv27_181 Λ h) (by omega) (by assumption)) (by assumption) (by assumption) | exact fun Λ h => zO_n (hv8_149 Λ h) (zk_in (hv27_181 Λ h) (by omega) (by assumption))) hw (lv_sub hl [0, 1, 4, 5] rfl)
            · skip
              have c30_183n : ¬ (kx ≤ vi152) := fun z => c30_183 ((zz_le (a := kx) (b := vi152) rfl rfl (by omega) (by omega)).mpr z)
              refine lv_aload_n hx hb dX10_whoBits_33 rfl (lv_at hl 4 rfl) ?_
              refine lv_iload_n hx hb dX10_whoBits_34 rfl (lv_at hl 2 rfl) ?_
              refine lv_aload_n hx hb dX10_whoBits_35 rfl (lv_at hl 4 rfl) ?_
              refine zz_get (v := .ref (r 62)) S hw fgX10_140 21 rfl rfl dX10_whoBits_36 ?_
              refine lv_iload hx hb dX10_whoBits_39 (lv_at hl 0 rfl) ?_
              obtain ⟨vq187, hvq187, evq187⟩ := htp vi152 (by omega)
              refine zz_iald (v := (nI vq187)) S hw 18 rfl (vp_in_nI (n := vi152) (by omega) (by decide)) (by rw [show ((nI vi152) : Int32).toNatClampNeg = vi152 from nI_clamp (n := vi152) (by omega)]; exact evq187) dX10_whoBits_41 ?_
              refine zz_callV (qb := 21) (As := [.int (nI vi4), .int (nI vq187)]) (rest := []) (wr := [((r 22), .inl (G.2 0, 2, .inl c22)), ((r 26), .inl (G.2 0, 2, .inl c26)), ((r 30), .inl (G.2 0, 2, .inl c30)), ((r 62), .inl (G.2 0, 20, .inl c62)), ((r 63), .inl (G.2 0, 20, .inl c63)), ((r 64), .inl (G.2 2, 20, .inl c64)), ((r 31), .inl (G.2 0, 2, .inl c31)), ((r 48), .inl (G.2 0, 71, .inl c48))]) S hw hl.1 lX10_348 (c_x_standsOf l G r j0 j2 j4 j10 j11 j12 j13 j14 j15 j16 j17 j19 j20 j34 j40 j44 vy168 k50_1 k51_2 j56 j61 lv c24 c25 c28 c29 c32 c33 c35 c36 c37 c38 c39 c41 c42 vF166 vF167 d49_3 vi4 vq187 (by first | assumption | omega | exact Or.inr ⟨_, by omega, rfl⟩ | (unfold zz_sok; decide) | decide | exact (fun j hj => (hv7 j hj).1)) (by first | assumption | omega | exact Or.inr ⟨_, by omega, rfl⟩ | (unfold zz_sok; decide) | decide | exact (fun j hj => (hv7 j hj).1)) (by first | assumption | omega | exact Or.inr ⟨_, by omega, rfl⟩ | (unfold zz_sok; decide) | decide | exact (fun j hj => (hv7 j hj).1)) (by first | assumption | omega | exact Or.inr ⟨_, by omega, rfl⟩ | (unfold zz_sok; decide) | decide | exact (fun j hj => (hv7 j hj).1))) ⟨Nat.le_of_ble_eq_true rfl, Nat.le_of_ble_eq_true rfl⟩ ⟨Nat.le_of_ble_eq_true rfl, Nat.le_of_ble_eq_true rfl⟩ [21, 1, 2, 4, 5, 7, 8, 9, 10, 11, 12, 13, 14, 15, 16, 17, 24] [0, 3, 6, 18, 19, 20, 22, 23] (by decide +kernel) rfl rfl (by decide +kernel) (by decide +kernel) rfl rfl rfl rfl (Nat.le_of_ble_eq_true rfl) dX10_whoBits_42 ?_
              clear hw
              intro rr u H locs hp hw
              refine hp.elim fun rv_188 zg0 => zg0.elim fun k47_189 zg1 => zg1.elim fun d45_190 zg2 => zg2.elim fun d46_191 zg3 => zg3.elim fun zee1 zg4 => zg4.elim fun zee2 hq42_0 => ?_
              clear hp zg0 zg1 zg2 zg3 zg4
              subst zee1
              subst zee2
              replace hw : zz_w G A s [((r 22), .inl (G.2 0, 2, .inl c22)), ((r 26), .inl (G.2 0, 2, .inl c26)), ((r 30), .inl (G.2 0, 2, .inl c30)), ((r 62), .inl (G.2 0, 20, .inl c62)), ((r 63), .inl (G.2 0, 20, .inl c63)), ((r 64), .inl (G.2 2, 20, .inl c64)), ((r 31), .inl (G.2 0, 2, .inl c31)), ((r 48), .inl (G.2 0, 71, .inl c48)), ((r 0), .inr (10, (zz_mo r [(0, j0), (2, j2), (4, j4), (10, j10), (11, j11), (12, j12), (13, j13), (14, j14), (15, j15), (16, j16), (17, j17), (18, (nI lv)), (19, j19), (20, j20), (34, j34), (40, j40), (44, j44), (47, k47_189), (50, k50_1), (51, k51_2), (56, j56), (61, j61)]))), ((r 24), .inl (G.2 0, 14, .inl c24)), ((r 25), .inl (G.2 0, 14, .inl c25)), ((r 28), .inl (G.2 0, 12, .inl c28)), ((r 29), .inl (G.2 0, 12, .inl c29)), ((r 32), .inl (G.2 0, 8, .inl c32)), ((r 33), .inl (G.2 0, 8, .inl c33)), ((r 35), .inl (G.2 2, 260, .inl c35)), ((r 36), .inl (G.2 0, 260, .inl c36)), ((r 37), .inl (G.2 0, 260, .inl c37)), ((r 38), .inl (G.2 0, 260, .inl c38)), ((r 39), .inl (G.2 0, 260, .inl c39)), ((r 41), .inl (G.2 0, 840, .inl c41)), ((r 42), .inl (G.2 0, 840, .inl c42)), ((r 45), .inl (G.2 0, 9, .inl d45_190)), ((r 46), .inl (G.2 0, 400, .inl d46_191)), ((r 49), .inl (G.2 0, 71, .inl d49_3))] H _ := hw
              refine W.eq (g2 := F0 m 45 ls [.int rv_188]) rfl ?_
              refine lv_aload_n hx hb dX10_whoBits_45 rfl (lv_at hl 4 rfl) ?_
              refine zz_get (v := .ref (r 63)) S hw fgX10_143 8 rfl rfl dX10_whoBits_46 ?_
              refine lv_iload hx hb dX10_whoBits_49 (lv_at hl 0 rfl) ?_
              refine zz_iald (v := (c63 vi152)) S hw 4 rfl (vp_in_nI (n := vi152) (by omega) (by decide)) (congrArg c63 (nI_clamp (n := vi152) (by omega))) dX10_whoBits_51 ?_
              refine lv_icmp_lt (tgt := 59) hx hb dX10_whoBits_52 (by decide) (fun c52_192 => ?_) (fun c52_192 => ?_)
              · skip
                refine lv_iconst (v := 0) hx hb dX10_whoBits_59 (by decide) ?_
                refine W.eq (g2 := F0 m 60 ls [.int 0]) rfl ?_
                refine lv_aload_n hx hb dX10_whoBits_60 rfl (lv_at hl 4 rfl) ?_
                refine zz_get (v := .ref (r 64)) S hw fgX10_146 8 rfl rfl dX10_whoBits_61 ?_
                refine lv_iload hx hb dX10_whoBits_64 (lv_at hl 0 rfl) ?_
                refine zz_zald (v := (c64 vi152)) S hw 5 rfl (vp_in_nI (n := vi152) (by omega) (by decide)) (congrArg c64 (nI_clamp (n := vi152) (by omega))) dX10_whoBits_66 ?_
                refine lv_icmp_eq (tgt := 73) hx hb dX10_whoBits_67 (by decide) (fun c67_193 => ?_) (fun c67_193 => ?_)
                · skip
                  refine lv_iinc (v := (nI (vi152 + 1))) (lv' := [(5, .int (nI (vi152 + 1))), (4, .int vy165), (3, .int (nI vi4)), (2, .int vy101), (0, .ref (r 0)), (1, .int (nI kx))]) hx hb dX10_whoBits_73 hl (k := 0) rfl (nI_add _ 1) (by decide) rfl (fun ls hl => ?_)
                  refine lv_goto (tgt := 27) hx hb dX10_whoBits_76 (by decide) ?_
                  exact ih27 (vi152 + 1) vy165 d45_190 d46_191 k47_189 _ _ _ (by omega) (by omega) (by first | exact fun Λ h => zk_it (hv27_181 Λ h) (zk_f1 evq187 hvq187 (hq42_0 Λ h.1 (h.2.1 0 (by decide))) (by assumption) (by assumption)) | exact fun Λ h => zk_it (hv27_181 Λ h) (zk_f0 evq187 hvq187 (hq42_0 Λ h.1 (h.2.1 0 (by decide))) (by assumption) (by assumption)) | exact fun Λ h => zk_i0 (zk_fx1 evq187 hvq187 (hq42_0 Λ h.1 (h.2.1 0 (by decide))) (by assumption) (by assumption)) | exact fun Λ h => zk_i0 (zk_fx0 evq187 hvq187 (hq42_0 Λ h.1 (h.2.1 0 (by decide))) (by assumption) (by assumption))) (hw.sub [0, 9, 10, 1, 11, 12, 2, 13, 14, 15, 16, 17, 18, 19, 20, 21, 22, 23, 3, 4, 5, 8, 6, 7, 24] (by decide +kernel) rfl) (lv_sub hl [0, 1, 2, 3, 4, 5] rfl)
                · skip
                  refine lv_iconst (v := 0) hx hb dX10_whoBits_70 (by decide) ?_
                  refine lv_istore (lv' := [(4, .int 0), (5, .int (nI vi152)), (3, .int (nI vi4)), (2, .int vy101), (0, .ref (r 0)), (1, .int (nI kx))]) hx hb dX10_whoBits_71 hl (by decide) rfl (fun ls hl => ?_)
                  refine lv_iinc (v := (nI (vi152 + 1))) (lv' := [(5, .int (nI (vi152 + 1))), (4, .int 0), (3, .int (nI vi4)), (2, .int vy101), (0, .ref (r 0)), (1, .int (nI kx))]) hx hb dX10_whoBits_73 hl (k := 1) rfl (nI_add _ 1) (by decide) rfl (fun ls hl => ?_)
                  refine lv_goto (tgt := 27) hx hb dX10_whoBits_76 (by decide) ?_
                  exact ih27 (vi152 + 1) 0 d45_190 d46_191 k47_189 _ _ _ (by omega) (by omega) (by first | exact fun Λ h => zk_it (hv27_181 Λ h) (zk_f1 evq187 hvq187 (hq42_0 Λ h.1 (h.2.1 0 (by decide))) (by assumption) (by assumption)) | exact fun Λ h => zk_it (hv27_181 Λ h) (zk_f0 evq187 hvq187 (hq42_0 Λ h.1 (h.2.1 0 (by decide))) (by assumption) (by assumption)) | exact fun Λ h => zk_i0 (zk_fx1 evq187 hvq187 (hq42_0 Λ h.1 (h.2.1 0 (by decide))) (by assumption) (by assumption)) | exact fun Λ h => zk_i0 (zk_fx0 evq187 hvq187 (hq42_0 Λ h.1 (h.2.1 0 (by decide))) (by assumption) (by assumption))) (hw.sub [0, 9, 10, 1, 11, 12, 2, 13, 14, 15, 16, 17, 18, 19, 20, 21, 22, 23, 3, 4, 5, 8, 6, 7, 24] (by decide +kernel) rfl) (lv_sub hl [0, 1, 2, 3, 4, 5] rfl)
              · skip
                refine lv_iconst (v := 1) hx hb dX10_whoBits_55 (by decide) ?_
                refine lv_goto (tgt := 60) hx hb dX10_whoBits_56 (by decide) ?_
                refine lv_aload_n hx hb dX10_whoBits_60 rfl (lv_at hl 4 rfl) ?_
                refine zz_get (v := .ref (r 64)) S hw fgX10_146 8 rfl rfl dX10_whoBits_61 ?_
                refine W.eq (g2 := F0 m 64 ls [.ref (r 64), .int 1]) rfl ?_
                refine lv_iload hx hb dX10_whoBits_64 (lv_at hl 0 rfl) ?_
                refine zz_zald (v := (c64 vi152)) S hw 5 rfl (vp_in_nI (n := vi152) (by omega) (by decide)) (congrArg c64 (nI_clamp (n := vi152) (by omega))) dX10_whoBits_66 ?_
                refine lv_icmp_eq (tgt := 73) hx hb dX10_whoBits_67 (by decide) (fun c67_194 => ?_) (fun c67_194 => ?_)
                · skip
                  refine lv_iinc (v := (nI (vi152 + 1))) (lv' := [(5, .int (nI (vi152 + 1))), (4, .int vy165), (3, .int (nI vi4)), (2, .int vy101), (0, .ref (r 0)), (1, .int (nI kx))]) hx hb dX10_whoBits_73 hl (k := 0) rfl (nI_add _ 1) (by decide) rfl (fun ls hl => ?_)
                  refine lv_goto (tgt := 27) hx hb dX10_whoBits_76 (by decide) ?_
                  exact ih27 (vi152 + 1) vy165 d45_190 d46_191 k47_189 _ _ _ (by omega) (by omega) (by first | exact fun Λ h => zk_it (hv27_181 Λ h) (zk_f1 evq187 hvq187 (hq42_0 Λ h.1 (h.2.1 0 (by decide))) (by assumption) (by assumption)) | exact fun Λ h => zk_it (hv27_181 Λ h) (zk_f0 evq187 hvq187 (hq42_0 Λ h.1 (h.2.1 0 (by decide))) (by assumption) (by assumption)) | exact fun Λ h => zk_i0 (zk_fx1 evq187 hvq187 (hq42_0 Λ h.1 (h.2.1 0 (by decide))) (by assumption) (by assumption)) | exact fun Λ h => zk_i0 (zk_fx0 evq187 hvq187 (hq42_0 Λ h.1 (h.2.1 0 (by decide))) (by assumption) (by assumption))) (hw.sub [0, 9, 10, 1, 11, 12, 2, 13, 14, 15, 16, 17, 18, 19, 20, 21, 22, 23, 3, 4, 5, 8, 6, 7, 24] (by decide +kernel) rfl) (lv_sub hl [0, 1, 2, 3, 4, 5] rfl)
                · skip
                  refine lv_iconst (v := 0) hx hb dX10_whoBits_70 (by decide) ?_
                  refine lv_istore (lv' := [(4, .int 0), (5, .int (nI vi152)), (3, .int (nI vi4)), (2, .int vy101), (0, .ref (r 0)), (1, .int (nI kx))]) hx hb dX10_whoBits_71 hl (by decide) rfl (fun ls hl => ?_)
                  refine lv_iinc (v := (nI (vi152 + 1))) (lv' := [(5, .int (nI (vi152 + 1))), (4, .int 0), (3, .int (nI vi4)), (2, .int vy101), (0, .ref (r 0)), (1, .int (nI kx))]) hx hb dX10_whoBits_73 hl (k := 1) rfl (nI_add _ 1) (by decide) rfl (fun ls hl => ?_)
                  refine lv_goto (tgt := 27) hx hb dX10_whoBits_76 (by decide) ?_
                  exact ih27 (vi152 + 1) 0 d45_190 d46_191 k47_189 _ _ _ (by omega) (by omega) (by first | exact fun Λ h => zk_it (hv27_181 Λ h) (zk_f1 evq187 hvq187 (hq42_0 Λ h.1 (h.2.1 0 (by decide))) (by assumption) (by assumption)) | exact fun Λ h => zk_it (hv27_181 Λ h) (zk_f0 evq187 hvq187 (hq42_0 Λ h.1 (h.2.1 0 (by decide))) (by assumption) (by assumption)) | exact fun Λ h => zk_i0 (zk_fx1 evq187 hvq187 (hq42_0 Λ h.1 (h.2.1 0 (by decide))) (by assumption) (by assumption)) | exact fun Λ h => zk_i0 (zk_fx0 evq187 hvq187 (hq42_0 Λ h.1 (h.2.1 0 (by decide))) (by assumption) (by assumption))) (hw.sub [0, 9, 10, 1, 11, 12, 2, 13, 14, 15, 16, 17, 18, 19, 20, 21, 22, 23, 3, 4, 5, 8, 6, 7, 24] (by decide +kernel) rfl) (lv_sub hl [0, 1, 2, 3, 4, 5] rfl)
        exact lp27_182 (kx + 1 - 0) 0 1 vF102 vF103 vy104 _ _ _ (by omega) (by omega) (fun _ _ => zk_i1) hw (lv_sub hl [0, 1, 2, 3, 4, 5] rfl)
  exact lp8_150 (pp + 1 - 0) 0 0 c45 c46 j47 _ _ _ (by omega) (by omega) (fun _ _ => rfl) hw (lv_sub hl [0, 1, 2, 3] rfl)
theorem kd_ncX10_who : kd_ck 94113758185859739929995006115417103885929583305352919510201340843905043872361777359374738371455353627 42 cX10_who.data.toList 0 = true := by decide +kernel
theorem dX10_who_0 : decode cX10_who 0 = .ok (.iload_n 1, 1) := kd_dk0 kd_o27 kd_ncX10_who rfl
theorem dX10_who_1 : decode cX10_who 1 = .ok (.iconst 0, 1) := kd_dk0 kd_o3 kd_ncX10_who rfl
theorem dX10_who_2 : decode cX10_who 2 = .ok (.aload_n 0, 1) := kd_dk0 kd_o42 kd_ncX10_who rfl
theorem dX10_who_3 : decode cX10_who 3 = .ok (.getfield 257, 3) := kd_dk2 kd_o180 kd_ncX10_who rfl
theorem dX10_who_6 : decode cX10_who 6 = .ok (.invokestatic 313, 3) := kd_dk2 kd_o184 kd_ncX10_who rfl
theorem dX10_who_9 : decode cX10_who 9 = .ok (.ifCond .eq 12, 3) := kd_dj2 kd_o153 (w := 12) kd_ncX10_who rfl rfl
theorem dX10_who_12 : decode cX10_who 12 = .ok (.iload_n 2, 1) := kd_dk0 kd_o28 kd_ncX10_who rfl
theorem dX10_who_13 : decode cX10_who 13 = .ok (.iconst 0, 1) := kd_dk0 kd_o3 kd_ncX10_who rfl
theorem dX10_who_14 : decode cX10_who 14 = .ok (.iconst 1, 1) := kd_dk0 kd_o4 kd_ncX10_who rfl
theorem dX10_who_15 : decode cX10_who 15 = .ok (.invokestatic 313, 3) := kd_dk2 kd_o184 kd_ncX10_who rfl
theorem dX10_who_18 : decode cX10_who 18 = .ok (.ifCond .ne 5, 3) := kd_dj2 kd_o154 (w := 5) kd_ncX10_who rfl rfl
theorem dX10_who_21 : decode cX10_who 21 = .ok (.iconst (-1), 1) := kd_dk0 kd_o2 kd_ncX10_who rfl
theorem dX10_who_22 : decode cX10_who 22 = .ok (.ireturn, 1) := kd_dk0 kd_o172 kd_ncX10_who rfl
theorem dX10_who_23 : decode cX10_who 23 = .ok (.aload_n 0, 1) := kd_dk0 kd_o42 kd_ncX10_who rfl
theorem dX10_who_24 : decode cX10_who 24 = .ok (.iload_n 1, 1) := kd_dk0 kd_o27 kd_ncX10_who rfl
theorem dX10_who_25 : decode cX10_who 25 = .ok (.invokevirtual 455, 3) := kd_dk2 kd_o182 kd_ncX10_who rfl
theorem dX10_who_28 : decode cX10_who 28 = .ok (.istore_n 3, 1) := kd_dk0 kd_o62 kd_ncX10_who rfl
theorem dX10_who_29 : decode cX10_who 29 = .ok (.iload_n 2, 1) := kd_dk0 kd_o28 kd_ncX10_who rfl
theorem dX10_who_30 : decode cX10_who 30 = .ok (.ifCond .ne 10, 3) := kd_dj2 kd_o154 (w := 10) kd_ncX10_who rfl rfl
theorem dX10_who_33 : decode cX10_who 33 = .ok (.iload_n 3, 1) := kd_dk0 kd_o29 kd_ncX10_who rfl
theorem dX10_who_34 : decode cX10_who 34 = .ok (.invokestatic 436, 3) := kd_dk2 kd_o184 kd_ncX10_who rfl
theorem dX10_who_37 : decode cX10_who 37 = .ok (.goto 4, 3) := kd_dj2 kd_o167 (w := 4) kd_ncX10_who rfl rfl
theorem dX10_who_40 : decode cX10_who 40 = .ok (.iload_n 3, 1) := kd_dk0 kd_o29 kd_ncX10_who rfl
theorem dX10_who_41 : decode cX10_who 41 = .ok (.ireturn, 1) := kd_dk0 kd_o172 kd_ncX10_who rfl
set_option maxHeartbeats 8000000 in
set_option maxRecDepth 100000 in
theorem c_x_who (l : Launch) (G : zz_G) (r : Nat → Nat) (j0 : Int32) (j2 : Int32) (j4 : Int32) (j10 : Int32) (j11 : Int32) (j12 : Int32) (j13 : Int32) (j14 : Int32) (j15 : Int32) (j16 : Int32) (j17 : Int32) (j19 : Int32) (j20 : Int32) (j34 : Int32) (j40 : Int32) (j44 : Int32) (j47 : Int32) (j50 : Int32) (j51 : Int32) (j56 : Int32) (lv : Nat) (pp : Nat) (pq : Nat) (c22 : Nat → Int32) (c24 : Nat → Int32) (c25 : Nat → Int32) (c26 : Nat → Int32) (c28 : Nat → Int32) (c29 : Nat → Int32) (c30 : Nat → Int32) (c31 : Nat → Int32) (c32 : Nat → Int32) (c33 : Nat → Int32) (c35 : Nat → Int32) (c36 : Nat → Int32) (c37 : Nat → Int32) (c38 : Nat → Int32) (c39 : Nat → Int32) (c41 : Nat → Int32) (c42 : Nat → Int32) (c45 : Nat → Int32) (c46 : Nat → Int32) (c48 : Nat → Int32) (c49 : Nat → Int32) (c62 : Nat → Int32) (c63 : Nat → Int32) (c64 : Nat → Int32) (ar1 : Int32) (ar2 : Int32) (tn : Nat) (hlv : lv ≤ 1) (hpe : c22 lv = nI pp) (hpp : pp ≤ 7) (hpa : c26 lv = nI pq) (hpq : pq ≤ 6) (hlw : zz_LW 2 0 0 c32 c33 c35 c36 c37 c38 c39 c41 c42) (htn : tn ≤ 20) (htp : ∀ j, j < 20 → ∃ q : Nat, q < 6 ∧ c62 j = nI q) : zz_M l G mX10_who 5 0 0 [.ref (r 0), .int ar1, .int ar2] [((r 0), .inr (10, (zz_mo r [(0, j0), (2, j2), (4, j4), (10, j10), (11, j11), (12, j12), (13, j13), (14, j14), (15, j15), (16, j16), (17, j17), (18, (nI lv)), (19, j19), (20, j20), (34, j34), (40, j40), (44, j44), (47, j47), (50, j50), (51, j51), (56, j56), (61, (nI tn))]))), ((r 22), .inl (G.2 0, 2, .inl c22)), ((r 24), .inl (G.2 0, 14, .inl c24)), ((r 25), .inl (G.2 0, 14, .inl c25)), ((r 26), .inl (G.2 0, 2, .inl c26)), ((r 28), .inl (G.2 0, 12, .inl c28)), ((r 29), .inl (G.2 0, 12, .inl c29)), ((r 30), .inl (G.2 0, 2, .inl c30)), ((r 31), .inl (G.2 0, 2, .inl c31)), ((r 32), .inl (G.2 0, 8, .inl c32)), ((r 33), .inl (G.2 0, 8, .inl c33)), ((r 35), .inl (G.2 2, 260, .inl c35)), ((r 36), .inl (G.2 0, 260, .inl c36)), ((r 37), .inl (G.2 0, 260, .inl c37)), ((r 38), .inl (G.2 0, 260, .inl c38)), ((r 39), .inl (G.2 0, 260, .inl c39)), ((r 41), .inl (G.2 0, 840, .inl c41)), ((r 42), .inl (G.2 0, 840, .inl c42)), ((r 45), .inl (G.2 0, 9, .inl c45)), ((r 46), .inl (G.2 0, 400, .inl c46)), ((r 48), .inl (G.2 0, 71, .inl c48)), ((r 49), .inl (G.2 0, 71, .inl c49)), ((r 62), .inl (G.2 0, 20, .inl c62)), ((r 63), .inl (G.2 0, 20, .inl c63)), ((r 64), .inl (G.2 2, 20, .inl c64))] (fun rr u => ∃ (rv : Int32), ∃ (k47 : Int32), ∃ (k50 : Int32), ∃ (k51 : Int32), ∃ (d45 : Nat → Int32), ∃ (d46 : Nat → Int32), ∃ (d49 : Nat → Int32), rr = some (.int rv) ∧ u = [((r 0), .inr (10, (zz_mo r [(0, j0), (2, j2), (4, j4), (10, j10), (11, j11), (12, j12), (13, j13), (14, j14), (15, j15), (16, j16), (17, j17), (18, (nI lv)), (19, j19), (20, j20), (34, j34), (40, j40), (44, j44), (47, k47), (50, k50), (51, k51), (56, j56), (61, (nI tn))]))), ((r 22), .inl (G.2 0, 2, .inl c22)), ((r 24), .inl (G.2 0, 14, .inl c24)), ((r 25), .inl (G.2 0, 14, .inl c25)), ((r 26), .inl (G.2 0, 2, .inl c26)), ((r 28), .inl (G.2 0, 12, .inl c28)), ((r 29), .inl (G.2 0, 12, .inl c29)), ((r 30), .inl (G.2 0, 2, .inl c30)), ((r 31), .inl (G.2 0, 2, .inl c31)), ((r 32), .inl (G.2 0, 8, .inl c32)), ((r 33), .inl (G.2 0, 8, .inl c33)), ((r 35), .inl (G.2 2, 260, .inl c35)), ((r 36), .inl (G.2 0, 260, .inl c36)), ((r 37), .inl (G.2 0, 260, .inl c37)), ((r 38), .inl (G.2 0, 260, .inl c38)), ((r 39), .inl (G.2 0, 260, .inl c39)), ((r 41), .inl (G.2 0, 840, .inl c41)), ((r 42), .inl (G.2 0, 840, .inl c42)), ((r 45), .inl (G.2 0, 9, .inl d45)), ((r 46), .inl (G.2 0, 400, .inl d46)), ((r 48), .inl (G.2 0, 71, .inl c48)), ((r 49), .inl (G.2 0, 71, .inl d49)), ((r 62), .inl (G.2 0, 20, .inl c62)), ((r 63), .inl (G.2 0, 20, .inl c63)), ((r 64), .inl (G.2 2, 20, .inl c64))] ∧ (zA (zz_In (tn + 1) ar1 ∧ zz_In 2 ar2) (∃ (k : Nat) (τ : Nat → Int32), k ≤ tn ∧ ar1 = nI k ∧ zy_q 71 c48 τ ∧ ∀ Λ, (zr_HD lv c32 c33 c35 c36 c37 c38 c39 c41 c42 (c30 lv)) Λ → rv = zP ar2 (zS (fun j => zm_bit (zO (fun a => zk_ft (zr_Sx 99 lv τ c24 c28 c25 c29 (Λ 0)) c62 c63 c64 a (fun i => i < k)) pp) (nI j)) 7, zO (fun a => zk_ft (zr_Sx 99 lv τ c24 c28 c25 c29 (Λ 0)) c62 c63 c64 a (fun i => i < k)) pp)) rv (-1))) := by
  refine zz_enteri (by decide +kernel) (Nat.le_of_ble_eq_true rfl) ?_
  intro p e s m args below meth c A Q ls S hnm hret hw hl
  have hl : lv_has ls 4 [(0, .ref (r 0)), (1, .int ar1), (2, .int ar2)] := hl
  have hx := S.1
  have hb := S.2.1
  refine lv_iload_n hx hb dX10_who_0 rfl (lv_at hl 1 rfl) ?_
  refine lv_iconst (v := 0) hx hb dX10_who_1 (by decide) ?_
  refine lv_aload_n hx hb dX10_who_2 rfl (lv_at hl 0 rfl) ?_
  refine zz_get (v := .int (nI tn)) S hw fgX10_257 0 rfl rfl dX10_who_3 ?_
  refine zz_callS (As := [.int ar1, .int 0, .int (nI tn)]) (rest := []) (wr := [((r 0), .inr (10, (zz_mo r [(0, j0), (2, j2), (4, j4), (10, j10), (11, j11), (12, j12), (13, j13), (14, j14), (15, j15), (16, j16), (17, j17), (18, (nI lv)), (19, j19), (20, j20), (34, j34), (40, j40), (44, j44), (47, j47), (50, j50), (51, j51), (56, j56), (61, (nI tn))]))), ((r 22), .inl (G.2 0, 2, .inl c22)), ((r 24), .inl (G.2 0, 14, .inl c24)), ((r 25), .inl (G.2 0, 14, .inl c25)), ((r 26), .inl (G.2 0, 2, .inl c26)), ((r 28), .inl (G.2 0, 12, .inl c28)), ((r 29), .inl (G.2 0, 12, .inl c29)), ((r 30), .inl (G.2 0, 2, .inl c30)), ((r 31), .inl (G.2 0, 2, .inl c31)), ((r 32), .inl (G.2 0, 8, .inl c32)), ((r 33), .inl (G.2 0, 8, .inl c33)), ((r 35), .inl (G.2 2, 260, .inl c35)), ((r 36), .inl (G.2 0, 260, .inl c36)), ((r 37), .inl (G.2 0, 260, .inl c37)), ((r 38), .inl (G.2 0, 260, .inl c38)), ((r 39), .inl (G.2 0, 260, .inl c39)), ((r 41), .inl (G.2 0, 840, .inl c41)), ((r 42), .inl (G.2 0, 840, .inl c42)), ((r 45), .inl (G.2 0, 9, .inl c45)), ((r 46), .inl (G.2 0, 400, .inl c46)), ((r 48), .inl (G.2 0, 71, .inl c48)), ((r 49), .inl (G.2 0, 71, .inl c49)), ((r 62), .inl (G.2 0, 20, .inl c62)), ((r 63), .inl (G.2 0, 20, .inl c63)), ((r 64), .inl (G.2 2, 20, .inl c64))]) S hw hl.1 lX10_313 (c_x_in l G ar1 0 (nI tn)) ⟨Nat.le_of_ble_eq_true rfl, Nat.le_of_ble_eq_true rfl⟩ ⟨Nat.le_of_ble_eq_true rfl, Nat.le_of_ble_eq_true rfl⟩ [] [0, 1, 2, 3, 4, 5, 6, 7, 8, 9, 10, 11, 12, 13, 14, 15, 16, 17, 18, 19, 20, 21, 22, 23, 24] (by decide +kernel) rfl rfl (by decide +kernel) (by decide +kernel) rfl rfl (Nat.le_of_ble_eq_true rfl) dX10_who_6 ?_
  clear hw
  intro rr u H locs hp hw
  refine hp.elim fun rv_1 zg0 => zg0.elim fun zee1 zg1 => zg1.elim fun zee2 zg2 => zg2.elim fun hq6_0 zg3 => zg3.elim fun hq6_1 hq6_2 => ?_
  clear hp zg0 zg1 zg2 zg3
  subst zee1
  subst zee2
  replace hw : zz_w G A s [((r 0), .inr (10, (zz_mo r [(0, j0), (2, j2), (4, j4), (10, j10), (11, j11), (12, j12), (13, j13), (14, j14), (15, j15), (16, j16), (17, j17), (18, (nI lv)), (19, j19), (20, j20), (34, j34), (40, j40), (44, j44), (47, j47), (50, j50), (51, j51), (56, j56), (61, (nI tn))]))), ((r 22), .inl (G.2 0, 2, .inl c22)), ((r 24), .inl (G.2 0, 14, .inl c24)), ((r 25), .inl (G.2 0, 14, .inl c25)), ((r 26), .inl (G.2 0, 2, .inl c26)), ((r 28), .inl (G.2 0, 12, .inl c28)), ((r 29), .inl (G.2 0, 12, .inl c29)), ((r 30), .inl (G.2 0, 2, .inl c30)), ((r 31), .inl (G.2 0, 2, .inl c31)), ((r 32), .inl (G.2 0, 8, .inl c32)), ((r 33), .inl (G.2 0, 8, .inl c33)), ((r 35), .inl (G.2 2, 260, .inl c35)), ((r 36), .inl (G.2 0, 260, .inl c36)), ((r 37), .inl (G.2 0, 260, .inl c37)), ((r 38), .inl (G.2 0, 260, .inl c38)), ((r 39), .inl (G.2 0, 260, .inl c39)), ((r 41), .inl (G.2 0, 840, .inl c41)), ((r 42), .inl (G.2 0, 840, .inl c42)), ((r 45), .inl (G.2 0, 9, .inl c45)), ((r 46), .inl (G.2 0, 400, .inl c46)), ((r 48), .inl (G.2 0, 71, .inl c48)), ((r 49), .inl (G.2 0, 71, .inl c49)), ((r 62), .inl (G.2 0, 20, .inl c62)), ((r 63), .inl (G.2 0, 20, .inl c63)), ((r 64), .inl (G.2 2, 20, .inl c64))] H _ := hw
  refine W.eq (g2 := F0 m 9 ls [.int rv_1]) rfl ?_
  refine lv_if_eq (tgt := 21) hx hb dX10_who_9 (by decide) (fun c9_2 => ?_) (fun c9_2 => ?_)
  · skip
    refine lv_iconst (v := (-1)) hx hb dX10_who_21 (by decide) ?_
    exact hret _ _ _ _ _ _ ⟨(-1), j47, j50, j51, c45, c46, c49, rfl, rfl, (by first | exact zA0 (fun z => zz_innI (n := tn) (by omega) hq6_1 (by assumption) z.1) | exact zA0 (fun z => zz_innI (n := 1) (by omega) hq15_1 (by assumption) z.2) | exact zA1 ⟨⟨_, by omega, rfl⟩, ⟨_, by omega, rfl⟩⟩ ⟨_, _, by omega, rfl, hq25_0, fun Λ h => zA_rh0 hq34_0 (hq25_1 Λ h) (by assumption)⟩ | exact zA1 ⟨⟨_, by omega, rfl⟩, ⟨_, by omega, rfl⟩⟩ ⟨_, _, by omega, rfl, hq25_0, fun Λ h => zA_rh1 (hq25_1 Λ h) (by assumption)⟩)⟩ hw rfl dX10_who_22
  · skip
    have hq6_0i := hq6_0.resolve_left c9_2
    obtain ⟨vq3, hvq3, rfl⟩ : ∃ k : Nat, k ≤ tn ∧ ar1 = nI k := zz_rng (zz_lo0 hq6_0i.1) hq6_0i.2 (by omega)
    refine lv_iload_n hx hb dX10_who_12 rfl (lv_at hl 2 rfl) ?_
    refine lv_iconst (v := 0) hx hb dX10_who_13 (by decide) ?_
    refine lv_iconst (v := 1) hx hb dX10_who_14 (by decide) ?_
    refine zz_callS (As := [.int ar2, .int 0, .int 1]) (rest := []) (wr := [((r 0), .inr (10, (zz_mo r [(0, j0), (2, j2), (4, j4), (10, j10), (11, j11), (12, j12), (13, j13), (14, j14), (15, j15), (16, j16), (17, j17), (18, (nI lv)), (19, j19), (20, j20), (34, j34), (40, j40), (44, j44), (47, j47), (50, j50), (51, j51), (56, j56), (61, (nI tn))]))), ((r 22), .inl (G.2 0, 2, .inl c22)), ((r 24), .inl (G.2 0, 14, .inl c24)), ((r 25), .inl (G.2 0, 14, .inl c25)), ((r 26), .inl (G.2 0, 2, .inl c26)), ((r 28), .inl (G.2 0, 12, .inl c28)), ((r 29), .inl (G.2 0, 12, .inl c29)), ((r 30), .inl (G.2 0, 2, .inl c30)), ((r 31), .inl (G.2 0, 2, .inl c31)), ((r 32), .inl (G.2 0, 8, .inl c32)), ((r 33), .inl (G.2 0, 8, .inl c33)), ((r 35), .inl (G.2 2, 260, .inl c35)), ((r 36), .inl (G.2 0, 260, .inl c36)), ((r 37), .inl (G.2 0, 260, .inl c37)), ((r 38), .inl (G.2 0, 260, .inl c38)), ((r 39), .inl (G.2 0, 260, .inl c39)), ((r 41), .inl (G.2 0, 840, .inl c41)), ((r 42), .inl (G.2 0, 840, .inl c42)), ((r 45), .inl (G.2 0, 9, .inl c45)), ((r 46), .inl (G.2 0, 400, .inl c46)), ((r 48), .inl (G.2 0, 71, .inl c48)), ((r 49), .inl (G.2 0, 71, .inl c49)), ((r 62), .inl (G.2 0, 20, .inl c62)), ((r 63), .inl (G.2 0, 20, .inl c63)), ((r 64), .inl (G.2 2, 20, .inl c64))]) S hw hl.1 lX10_313 (c_x_in l G ar2 0 1) ⟨Nat.le_of_ble_eq_true rfl, Nat.le_of_ble_eq_true rfl⟩ ⟨Nat.le_of_ble_eq_true rfl, Nat.le_of_ble_eq_true rfl⟩ [] [0, 1, 2, 3, 4, 5, 6, 7, 8, 9, 10, 11, 12, 13, 14, 15, 16, 17, 18, 19, 20, 21, 22, 23, 24] (by decide +kernel) rfl rfl (by decide +kernel) (by decide +kernel) rfl rfl (Nat.le_of_ble_eq_true rfl) dX10_who_15 ?_
    clear hw
    intro rr u H locs hp hw
    refine hp.elim fun rv_4 zg0 => zg0.elim fun zee1 zg1 => zg1.elim fun zee2 zg2 => zg2.elim fun hq15_0 zg3 => zg3.elim fun hq15_1 hq15_2 => ?_
    clear hp zg0 zg1 zg2 zg3
    subst zee1
    subst zee2
    replace hw : zz_w G A s [((r 0), .inr (10, (zz_mo r [(0, j0), (2, j2), (4, j4), (10, j10), (11, j11), (12, j12), (13, j13), (14, j14), (15, j15), (16, j16), (17, j17), (18, (nI lv)), (19, j19), (20, j20), (34, j34), (40, j40), (44, j44), (47, j47), (50, j50), (51, j51), (56, j56), (61, (nI tn))]))), ((r 22), .inl (G.2 0, 2, .inl c22)), ((r 24), .inl (G.2 0, 14, .inl c24)), ((r 25), .inl (G.2 0, 14, .inl c25)), ((r 26), .inl (G.2 0, 2, .inl c26)), ((r 28), .inl (G.2 0, 12, .inl c28)), ((r 29), .inl (G.2 0, 12, .inl c29)), ((r 30), .inl (G.2 0, 2, .inl c30)), ((r 31), .inl (G.2 0, 2, .inl c31)), ((r 32), .inl (G.2 0, 8, .inl c32)), ((r 33), .inl (G.2 0, 8, .inl c33)), ((r 35), .inl (G.2 2, 260, .inl c35)), ((r 36), .inl (G.2 0, 260, .inl c36)), ((r 37), .inl (G.2 0, 260, .inl c37)), ((r 38), .inl (G.2 0, 260, .inl c38)), ((r 39), .inl (G.2 0, 260, .inl c39)), ((r 41), .inl (G.2 0, 840, .inl c41)), ((r 42), .inl (G.2 0, 840, .inl c42)), ((r 45), .inl (G.2 0, 9, .inl c45)), ((r 46), .inl (G.2 0, 400, .inl c46)), ((r 48), .inl (G.2 0, 71, .inl c48)), ((r 49), .inl (G.2 0, 71, .inl c49)), ((r 62), .inl (G.2 0, 20, .inl c62)), ((r 63), .inl (G.2 0, 20, .inl c63)), ((r 64), .inl (G.2 2, 20, .inl c64))] H _ := hw
    refine W.eq (g2 := F0 m 18 ls [.int rv_4]) rfl ?_
    refine lv_if_ne (tgt := 23) hx hb dX10_who_18 (by decide) (fun c18_5 => ?_) (fun c18_5 => ?_)
    · skip
      have hq15_0i := hq15_0.resolve_left c18_5
      obtain ⟨vq6, hvq6, rfl⟩ : ∃ k : Nat, k ≤ 1 ∧ ar2 = nI k := zz_rng (zz_lo0 hq15_0i.1) hq15_0i.2 (by omega)
      refine lv_aload_n hx hb dX10_who_23 rfl (lv_at hl 0 rfl) ?_
      refine lv_iload_n hx hb dX10_who_24 rfl (lv_at hl 1 rfl) ?_
      refine zz_callV (qb := 0) (As := [.int (nI vq3)]) (rest := []) (wr := []) S hw hl.1 lX10_455 (c_x_whoBits l G r j0 j2 j4 j10 j11 j12 j13 j14 j15 j16 j17 j19 j20 j34 j40 j44 j47 j50 j51 j56 (nI tn) lv pp pq c22 c24 c25 c26 c28 c29 c30 c31 c32 c33 c35 c36 c37 c38 c39 c41 c42 c45 c46 c48 c49 c62 c63 c64 vq3 (by first | assumption | omega | exact Or.inr ⟨_, by omega, rfl⟩ | (unfold zz_sok; decide) | decide | exact (fun j hj => (hv7 j hj).1)) (by first | assumption | omega | exact Or.inr ⟨_, by omega, rfl⟩ | (unfold zz_sok; decide) | decide | exact (fun j hj => (hv7 j hj).1)) (by first | assumption | omega | exact Or.inr ⟨_, by omega, rfl⟩ | (unfold zz_sok; decide) | decide | exact (fun j hj => (hv7 j hj).1)) (by first | assumption | omega | exact Or.inr ⟨_, by omega, rfl⟩ | (unfold zz_sok; decide) | decide | exact (fun j hj => (hv7 j hj).1)) (by first | assumption | omega | exact Or.inr ⟨_, by omega, rfl⟩ | (unfold zz_sok; decide) | decide | exact (fun j hj => (hv7 j hj).1)) (by first | assumption | omega | exact Or.inr ⟨_, by omega, rfl⟩ | (unfold zz_sok; decide) | decide | exact (fun j hj => (hv7 j hj).1)) (by first | assumption | omega | exact Or.inr ⟨_, by omega, rfl⟩ | (unfold zz_sok; decide) | decide | exact (fun j hj => (hv7 j hj).1)) (by first | assumption | omega | exact Or.inr ⟨_, by omega, rfl⟩ | (unfold zz_sok; decide) | decide | exact (fun j hj => (hv7 j hj).1))) ⟨Nat.le_of_ble_eq_true rfl, Nat.le_of_ble_eq_true rfl⟩ ⟨Nat.le_of_ble_eq_true rfl, Nat.le_of_ble_eq_true rfl⟩ [0, 1, 2, 3, 4, 5, 6, 7, 8, 9, 10, 11, 12, 13, 14, 15, 16, 17, 18, 19, 20, 21, 22, 23, 24] [] (by decide +kernel) rfl rfl (by decide +kernel) (by decide +kernel) rfl rfl rfl rfl (Nat.le_of_ble_eq_true rfl) dX10_who_25 ?_
      clear hw
      intro rr u H locs hp hw
      refine hp.elim fun rv_7 zg0 => zg0.elim fun k47_8 zg1 => zg1.elim fun k50_9 zg2 => zg2.elim fun k51_10 zg3 => zg3.elim fun d45_11 zg4 => zg4.elim fun d46_12 zg5 => zg5.elim fun d49_13 zg6 => zg6.elim fun zee1 zg7 => zg7.elim fun zee2 zg8 => zg8.elim fun hq25_0 hq25_1 => ?_
      clear hp zg0 zg1 zg2 zg3 zg4 zg5 zg6 zg7 zg8
      subst zee1
      subst zee2
      replace hw : zz_w G A s [((r 0), .inr (10, (zz_mo r [(0, j0), (2, j2), (4, j4), (10, j10), (11, j11), (12, j12), (13, j13), (14, j14), (15, j15), (16, j16), (17, j17), (18, (nI lv)), (19, j19), (20, j20), (34, j34), (40, j40), (44, j44), (47, k47_8), (50, k50_9), (51, k51_10), (56, j56), (61, (nI tn))]))), ((r 22), .inl (G.2 0, 2, .inl c22)), ((r 24), .inl (G.2 0, 14, .inl c24)), ((r 25), .inl (G.2 0, 14, .inl c25)), ((r 26), .inl (G.2 0, 2, .inl c26)), ((r 28), .inl (G.2 0, 12, .inl c28)), ((r 29), .inl (G.2 0, 12, .inl c29)), ((r 30), .inl (G.2 0, 2, .inl c30)), ((r 31), .inl (G.2 0, 2, .inl c31)), ((r 32), .inl (G.2 0, 8, .inl c32)), ((r 33), .inl (G.2 0, 8, .inl c33)), ((r 35), .inl (G.2 2, 260, .inl c35)), ((r 36), .inl (G.2 0, 260, .inl c36)), ((r 37), .inl (G.2 0, 260, .inl c37)), ((r 38), .inl (G.2 0, 260, .inl c38)), ((r 39), .inl (G.2 0, 260, .inl c39)), ((r 41), .inl (G.2 0, 840, .inl c41)), ((r 42), .inl (G.2 0, 840, .inl c42)), ((r 45), .inl (G.2 0, 9, .inl d45_11)), ((r 46), .inl (G.2 0, 400, .inl d46_12)), ((r 48), .inl (G.2 0, 71, .inl c48)), ((r 49), .inl (G.2 0, 71, .inl d49_13)), ((r 62), .inl (G.2 0, 20, .inl c62)), ((r 63), .inl (G.2 0, 20, .inl c63)), ((r 64), .inl (G.2 2, 20, .inl c64))] H _ := hw
      refine W.eq (g2 := F0 m 28 ls [.int rv_7]) rfl ?_
      refine lv_istore_n (lv' := [(3, .int rv_7), (0, .ref (r 0)), (1, .int (nI vq3)), (2, .int (nI vq6))]) hx hb dX10_who_28 rfl hl (by decide) rfl (fun ls hl => ?_)
      refine W.eq (g2 := F0 m 29 ls []) rfl ?_
      refine lv_iload_n hx hb dX10_who_29 rfl (lv_at hl 3 rfl) ?_
      refine lv_if_ne (tgt := 40) hx hb dX10_who_30 (by decide) (fun c30_14 => ?_) (fun c30_14 => ?_)
      · skip
        have c30_14n : ¬ (vq6 = 0) := fun z => c30_14 ((zz_eq (a := vq6) (b := 0) rfl rfl (by omega) (by omega)).mpr z)
        refine lv_iload_n hx hb dX10_who_40 rfl (lv_at hl 0 rfl) ?_
        exact hret _ _ _ _ _ _ ⟨rv_7, k47_8, k50_9, k51_10, d45_11, d46_12, d49_13, rfl, rfl, (by first | exact zA0 (fun z => zz_innI (n := tn) (by omega) hq6_1 (by assumption) z.1) | exact zA0 (fun z => zz_innI (n := 1) (by omega) hq15_1 (by assumption) z.2) | exact zA1 ⟨⟨_, by omega, rfl⟩, ⟨_, by omega, rfl⟩⟩ ⟨_, _, by omega, rfl, hq25_0, fun Λ h => zA_rh0 hq34_0 (hq25_1 Λ h) (by assumption)⟩ | exact zA1 ⟨⟨_, by omega, rfl⟩, ⟨_, by omega, rfl⟩⟩ ⟨_, _, by omega, rfl, hq25_0, fun Λ h => zA_rh1 (hq25_1 Λ h) (by assumption)⟩)⟩ hw rfl dX10_who_41
      · skip
        have c30_14n : vq6 = 0 := (zz_eq (a := vq6) (b := 0) rfl rfl (by omega) (by omega)).mp c30_14
        refine lv_iload_n hx hb dX10_who_33 rfl (lv_at hl 0 rfl) ?_
        refine zz_callS (As := [.int rv_7]) (rest := []) (wr := [((r 0), .inr (10, (zz_mo r [(0, j0), (2, j2), (4, j4), (10, j10), (11, j11), (12, j12), (13, j13), (14, j14), (15, j15), (16, j16), (17, j17), (18, (nI lv)), (19, j19), (20, j20), (34, j34), (40, j40), (44, j44), (47, k47_8), (50, k50_9), (51, k51_10), (56, j56), (61, (nI tn))]))), ((r 22), .inl (G.2 0, 2, .inl c22)), ((r 24), .inl (G.2 0, 14, .inl c24)), ((r 25), .inl (G.2 0, 14, .inl c25)), ((r 26), .inl (G.2 0, 2, .inl c26)), ((r 28), .inl (G.2 0, 12, .inl c28)), ((r 29), .inl (G.2 0, 12, .inl c29)), ((r 30), .inl (G.2 0, 2, .inl c30)), ((r 31), .inl (G.2 0, 2, .inl c31)), ((r 32), .inl (G.2 0, 8, .inl c32)), ((r 33), .inl (G.2 0, 8, .inl c33)), ((r 35), .inl (G.2 2, 260, .inl c35)), ((r 36), .inl (G.2 0, 260, .inl c36)), ((r 37), .inl (G.2 0, 260, .inl c37)), ((r 38), .inl (G.2 0, 260, .inl c38)), ((r 39), .inl (G.2 0, 260, .inl c39)), ((r 41), .inl (G.2 0, 840, .inl c41)), ((r 42), .inl (G.2 0, 840, .inl c42)), ((r 45), .inl (G.2 0, 9, .inl d45_11)), ((r 46), .inl (G.2 0, 400, .inl d46_12)), ((r 48), .inl (G.2 0, 71, .inl c48)), ((r 49), .inl (G.2 0, 71, .inl d49_13)), ((r 62), .inl (G.2 0, 20, .inl c62)), ((r 63), .inl (G.2 0, 20, .inl c63)), ((r 64), .inl (G.2 2, 20, .inl c64))]) S hw hl.1 lX10_436 (c_x_bits l G rv_7) ⟨Nat.le_of_ble_eq_true rfl, Nat.le_of_ble_eq_true rfl⟩ ⟨Nat.le_of_ble_eq_true rfl, Nat.le_of_ble_eq_true rfl⟩ [] [0, 1, 2, 3, 4, 5, 6, 7, 8, 9, 10, 11, 12, 13, 14, 15, 16, 17, 18, 19, 20, 21, 22, 23, 24] (by decide +kernel) rfl rfl (by decide +kernel) (by decide +kernel) rfl rfl (Nat.le_of_ble_eq_true rfl) dX10_who_34 ?_
        clear hw
        intro rr u H locs hp hw
        refine hp.elim fun rv_15 zg0 => zg0.elim fun zee1 zg1 => zg1.elim fun zee2 hq34_0 => ?_
        clear hp zg0 zg1
        subst zee1
        subst zee2
        replace hw : zz_w G A s [((r 0), .inr (10, (zz_mo r [(0, j0), (2, j2), (4, j4), (10, j10), (11, j11), (12, j12), (13, j13), (14, j14), (15, j15), (16, j16), (17, j17), (18, (nI lv)), (19, j19), (20, j20), (34, j34), (40, j40), (44, j44), (47, k47_8), (50, k50_9), (51, k51_10), (56, j56), (61, (nI tn))]))), ((r 22), .inl (G.2 0, 2, .inl c22)), ((r 24), .inl (G.2 0, 14, .inl c24)), ((r 25), .inl (G.2 0, 14, .inl c25)), ((r 26), .inl (G.2 0, 2, .inl c26)), ((r 28), .inl (G.2 0, 12, .inl c28)), ((r 29), .inl (G.2 0, 12, .inl c29)), ((r 30), .inl (G.2 0, 2, .inl c30)), ((r 31), .inl (G.2 0, 2, .inl c31)), ((r 32), .inl (G.2 0, 8, .inl c32)), ((r 33), .inl (G.2 0, 8, .inl c33)), ((r 35), .inl (G.2 2, 260, .inl c35)), ((r 36), .inl (G.2 0, 260, .inl c36)), ((r 37), .inl (G.2 0, 260, .inl c37)), ((r 38), .inl (G.2 0, 260, .inl c38)), ((r 39), .inl (G.2 0, 260, .inl c39)), ((r 41), .inl (G.2 0, 840, .inl c41)), ((r 42), .inl (G.2 0, 840, .inl c42)), ((r 45), .inl (G.2 0, 9, .inl d45_11)), ((r 46), .inl (G.2 0, 400, .inl d46_12)), ((r 48), .inl (G.2 0, 71, .inl c48)), ((r 49), .inl (G.2 0, 71, .inl d49_13)), ((r 62), .inl (G.2 0, 20, .inl c62)), ((r 63), .inl (G.2 0, 20, .inl c63)), ((r 64), .inl (G.2 2, 20, .inl c64))] H _ := hw
        refine W.eq (g2 := F0 m 37 ls [.int rv_15]) rfl ?_
        refine lv_goto (tgt := 41) hx hb dX10_who_37 (by decide) ?_
        exact hret _ _ _ _ _ _ ⟨rv_15, k47_8, k50_9, k51_10, d45_11, d46_12, d49_13, rfl, rfl, (by first | exact zA0 (fun z => zz_innI (n := tn) (by omega) hq6_1 (by assumption) z.1) | exact zA0 (fun z => zz_innI (n := 1) (by omega) hq15_1 (by assumption) z.2) | exact zA1 ⟨⟨_, by omega, rfl⟩, ⟨_, by omega, rfl⟩⟩ ⟨_, _, by omega, rfl, hq25_0, fun Λ h => zA_rh0 hq34_0 (hq25_1 Λ h) (by assumption)⟩ | exact zA1 ⟨⟨_, by omega, rfl⟩, ⟨_, by omega, rfl⟩⟩ ⟨_, _, by omega, rfl, hq25_0, fun Λ h => zA_rh1 (hq25_1 Λ h) (by assumption)⟩)⟩ hw rfl dX10_who_41
    · skip
      refine lv_iconst (v := (-1)) hx hb dX10_who_21 (by decide) ?_
      exact hret _ _ _ _ _ _ ⟨(-1), j47, j50, j51, c45, c46, c49, rfl, rfl, (by first | exact zA0 (fun z => zz_innI (n := tn) (by omega) hq6_1 (by assumption) z.1) | exact zA0 (fun z => zz_innI (n := 1) (by omega) hq15_1 (by assumption) z.2) | exact zA1 ⟨⟨_, by omega, rfl⟩, ⟨_, by omega, rfl⟩⟩ ⟨_, _, by omega, rfl, hq25_0, fun Λ h => zA_rh0 hq34_0 (hq25_1 Λ h) (by assumption)⟩ | exact zA1 ⟨⟨_, by omega, rfl⟩, ⟨_, by omega, rfl⟩⟩ ⟨_, _, by omega, rfl, hq25_0, fun Λ h => zA_rh1 (hq25_1 Λ h) (by assumption)⟩)⟩ hw rfl dX10_who_22
theorem kd_ncX10_ask : kd_ck 1007866404509599358222362389456585846800278191980379504161976997287575219583461392983379701041196448942238063290542327869072881721810701824343197361492987865184006614145758472688644090228419745895540200479327054128419644823451995588371186390425306925304638009290130450481983490767593980077878531432376671097362096218158446105178666747431554668536292695293233283908562137794094460253303365469361100423963 167 cX10_ask.data.toList 0 = true := by decide +kernel
theorem dX10_ask_0 : decode cX10_ask 0 = .ok (.iload_n 1, 1) := kd_dk0 kd_o27 kd_ncX10_ask rfl
theorem dX10_ask_1 : decode cX10_ask 1 = .ok (.iconst 0, 1) := kd_dk0 kd_o3 kd_ncX10_ask rfl
theorem dX10_ask_2 : decode cX10_ask 2 = .ok (.aload_n 0, 1) := kd_dk0 kd_o42 kd_ncX10_ask rfl
theorem dX10_ask_3 : decode cX10_ask 3 = .ok (.getfield 257, 3) := kd_dk2 kd_o180 kd_ncX10_ask rfl
theorem dX10_ask_6 : decode cX10_ask 6 = .ok (.invokestatic 313, 3) := kd_dk2 kd_o184 kd_ncX10_ask rfl
theorem dX10_ask_9 : decode cX10_ask 9 = .ok (.ifCond .eq 13, 3) := kd_dj2 kd_o153 (w := 13) kd_ncX10_ask rfl rfl
theorem dX10_ask_12 : decode cX10_ask 12 = .ok (.iload_n 2, 1) := kd_dk0 kd_o28 kd_ncX10_ask rfl
theorem dX10_ask_13 : decode cX10_ask 13 = .ok (.iconst 0, 1) := kd_dk0 kd_o3 kd_ncX10_ask rfl
theorem dX10_ask_14 : decode cX10_ask 14 = .ok (.bipush 99, 2) := kd_dj1 kd_o16 (w := 99) kd_ncX10_ask rfl rfl
theorem dX10_ask_16 : decode cX10_ask 16 = .ok (.invokestatic 313, 3) := kd_dk2 kd_o184 kd_ncX10_ask rfl
theorem dX10_ask_19 : decode cX10_ask 19 = .ok (.ifCond .ne 5, 3) := kd_dj2 kd_o154 (w := 5) kd_ncX10_ask rfl rfl
theorem dX10_ask_22 : decode cX10_ask 22 = .ok (.iconst (-1), 1) := kd_dk0 kd_o2 kd_ncX10_ask rfl
theorem dX10_ask_23 : decode cX10_ask 23 = .ok (.ireturn, 1) := kd_dk0 kd_o172 kd_ncX10_ask rfl
theorem dX10_ask_24 : decode cX10_ask 24 = .ok (.aload_n 0, 1) := kd_dk0 kd_o42 kd_ncX10_ask rfl
theorem dX10_ask_25 : decode cX10_ask 25 = .ok (.iload_n 1, 1) := kd_dk0 kd_o27 kd_ncX10_ask rfl
theorem dX10_ask_26 : decode cX10_ask 26 = .ok (.invokevirtual 455, 3) := kd_dk2 kd_o182 kd_ncX10_ask rfl
theorem dX10_ask_29 : decode cX10_ask 29 = .ok (.istore_n 3, 1) := kd_dk0 kd_o62 kd_ncX10_ask rfl
theorem dX10_ask_30 : decode cX10_ask 30 = .ok (.bipush (-2), 2) := kd_dj1 kd_o16 (w := 254) kd_ncX10_ask rfl rfl
theorem dX10_ask_32 : decode cX10_ask 32 = .ok (.istore 4, 2) := kd_dk1 kd_o54 kd_ncX10_ask rfl
theorem dX10_ask_34 : decode cX10_ask 34 = .ok (.iconst 0, 1) := kd_dk0 kd_o3 kd_ncX10_ask rfl
theorem dX10_ask_35 : decode cX10_ask 35 = .ok (.istore 5, 2) := kd_dk1 kd_o54 kd_ncX10_ask rfl
theorem dX10_ask_37 : decode cX10_ask 37 = .ok (.iconst 0, 1) := kd_dk0 kd_o3 kd_ncX10_ask rfl
theorem dX10_ask_38 : decode cX10_ask 38 = .ok (.istore 6, 2) := kd_dk1 kd_o54 kd_ncX10_ask rfl
theorem dX10_ask_40 : decode cX10_ask 40 = .ok (.iload 6, 2) := kd_dk1 kd_o21 kd_ncX10_ask rfl
theorem dX10_ask_42 : decode cX10_ask 42 = .ok (.aload_n 0, 1) := kd_dk0 kd_o42 kd_ncX10_ask rfl
theorem dX10_ask_43 : decode cX10_ask 43 = .ok (.getfield 55, 3) := kd_dk2 kd_o180 kd_ncX10_ask rfl
theorem dX10_ask_46 : decode cX10_ask 46 = .ok (.aload_n 0, 1) := kd_dk0 kd_o42 kd_ncX10_ask rfl
theorem dX10_ask_47 : decode cX10_ask 47 = .ok (.getfield 236, 3) := kd_dk2 kd_o180 kd_ncX10_ask rfl
theorem dX10_ask_50 : decode cX10_ask 50 = .ok (.iaload, 1) := kd_dk0 kd_o46 kd_ncX10_ask rfl
theorem dX10_ask_51 : decode cX10_ask 51 = .ok (.if_icmp .ge 113, 3) := kd_dj2 kd_o162 (w := 113) kd_ncX10_ask rfl rfl
theorem dX10_ask_54 : decode cX10_ask 54 = .ok (.iload_n 3, 1) := kd_dk0 kd_o29 kd_ncX10_ask rfl
theorem dX10_ask_55 : decode cX10_ask 55 = .ok (.ifCond .eq 109, 3) := kd_dj2 kd_o153 (w := 109) kd_ncX10_ask rfl rfl
theorem dX10_ask_58 : decode cX10_ask 58 = .ok (.iconst 0, 1) := kd_dk0 kd_o3 kd_ncX10_ask rfl
theorem dX10_ask_59 : decode cX10_ask 59 = .ok (.istore 7, 2) := kd_dk1 kd_o54 kd_ncX10_ask rfl
theorem dX10_ask_61 : decode cX10_ask 61 = .ok (.iconst 0, 1) := kd_dk0 kd_o3 kd_ncX10_ask rfl
theorem dX10_ask_62 : decode cX10_ask 62 = .ok (.istore 8, 2) := kd_dk1 kd_o54 kd_ncX10_ask rfl
theorem dX10_ask_64 : decode cX10_ask 64 = .ok (.iload 8, 2) := kd_dk1 kd_o21 kd_ncX10_ask rfl
theorem dX10_ask_66 : decode cX10_ask 66 = .ok (.aload_n 0, 1) := kd_dk0 kd_o42 kd_ncX10_ask rfl
theorem dX10_ask_67 : decode cX10_ask 67 = .ok (.getfield 43, 3) := kd_dk2 kd_o180 kd_ncX10_ask rfl
theorem dX10_ask_70 : decode cX10_ask 70 = .ok (.aload_n 0, 1) := kd_dk0 kd_o42 kd_ncX10_ask rfl
theorem dX10_ask_71 : decode cX10_ask 71 = .ok (.getfield 236, 3) := kd_dk2 kd_o180 kd_ncX10_ask rfl
theorem dX10_ask_74 : decode cX10_ask 74 = .ok (.iaload, 1) := kd_dk0 kd_o46 kd_ncX10_ask rfl
theorem dX10_ask_75 : decode cX10_ask 75 = .ok (.if_icmp .ge 34, 3) := kd_dj2 kd_o162 (w := 34) kd_ncX10_ask rfl rfl
theorem dX10_ask_78 : decode cX10_ask 78 = .ok (.iload_n 3, 1) := kd_dk0 kd_o29 kd_ncX10_ask rfl
theorem dX10_ask_79 : decode cX10_ask 79 = .ok (.iload 8, 2) := kd_dk1 kd_o21 kd_ncX10_ask rfl
theorem dX10_ask_81 : decode cX10_ask 81 = .ok (.ishr, 1) := kd_dk0 kd_o122 kd_ncX10_ask rfl
theorem dX10_ask_82 : decode cX10_ask 82 = .ok (.iconst 1, 1) := kd_dk0 kd_o4 kd_ncX10_ask rfl
theorem dX10_ask_83 : decode cX10_ask 83 = .ok (.iand, 1) := kd_dk0 kd_o126 kd_ncX10_ask rfl
theorem dX10_ask_84 : decode cX10_ask 84 = .ok (.iconst 1, 1) := kd_dk0 kd_o4 kd_ncX10_ask rfl
theorem dX10_ask_85 : decode cX10_ask 85 = .ok (.if_icmp .ne 18, 3) := kd_dj2 kd_o160 (w := 18) kd_ncX10_ask rfl rfl
theorem dX10_ask_88 : decode cX10_ask 88 = .ok (.aload_n 0, 1) := kd_dk0 kd_o42 kd_ncX10_ask rfl
theorem dX10_ask_89 : decode cX10_ask 89 = .ok (.iload 8, 2) := kd_dk1 kd_o21 kd_ncX10_ask rfl
theorem dX10_ask_91 : decode cX10_ask 91 = .ok (.iload 6, 2) := kd_dk1 kd_o21 kd_ncX10_ask rfl
theorem dX10_ask_93 : decode cX10_ask 93 = .ok (.invokevirtual 348, 3) := kd_dk2 kd_o182 kd_ncX10_ask rfl
theorem dX10_ask_96 : decode cX10_ask 96 = .ok (.iload_n 2, 1) := kd_dk0 kd_o28 kd_ncX10_ask rfl
theorem dX10_ask_97 : decode cX10_ask 97 = .ok (.if_icmp .lt 6, 3) := kd_dj2 kd_o161 (w := 6) kd_ncX10_ask rfl rfl
theorem dX10_ask_100 : decode cX10_ask 100 = .ok (.iinc 7 1, 3) := kd_dji kd_o132 (w := 1) kd_ncX10_ask rfl rfl
theorem dX10_ask_103 : decode cX10_ask 103 = .ok (.iinc 8 1, 3) := kd_dji kd_o132 (w := 1) kd_ncX10_ask rfl rfl
theorem dX10_ask_106 : decode cX10_ask 106 = .ok (.goto (-42), 3) := kd_dj2 kd_o167 (w := 65494) kd_ncX10_ask rfl rfl
theorem dX10_ask_109 : decode cX10_ask 109 = .ok (.iload 7, 2) := kd_dk1 kd_o21 kd_ncX10_ask rfl
theorem dX10_ask_111 : decode cX10_ask 111 = .ok (.iload_n 3, 1) := kd_dk0 kd_o29 kd_ncX10_ask rfl
theorem dX10_ask_112 : decode cX10_ask 112 = .ok (.invokestatic 436, 3) := kd_dk2 kd_o184 kd_ncX10_ask rfl
theorem dX10_ask_115 : decode cX10_ask 115 = .ok (.iload 7, 2) := kd_dk1 kd_o21 kd_ncX10_ask rfl
theorem dX10_ask_117 : decode cX10_ask 117 = .ok (.isub, 1) := kd_dk0 kd_o100 kd_ncX10_ask rfl
theorem dX10_ask_118 : decode cX10_ask 118 = .ok (.if_icmp .le 8, 3) := kd_dj2 kd_o164 (w := 8) kd_ncX10_ask rfl rfl
theorem dX10_ask_121 : decode cX10_ask 121 = .ok (.iload 7, 2) := kd_dk1 kd_o21 kd_ncX10_ask rfl
theorem dX10_ask_123 : decode cX10_ask 123 = .ok (.goto 10, 3) := kd_dj2 kd_o167 (w := 10) kd_ncX10_ask rfl rfl
theorem dX10_ask_126 : decode cX10_ask 126 = .ok (.iload_n 3, 1) := kd_dk0 kd_o29 kd_ncX10_ask rfl
theorem dX10_ask_127 : decode cX10_ask 127 = .ok (.invokestatic 436, 3) := kd_dk2 kd_o184 kd_ncX10_ask rfl
theorem dX10_ask_130 : decode cX10_ask 130 = .ok (.iload 7, 2) := kd_dk1 kd_o21 kd_ncX10_ask rfl
theorem dX10_ask_132 : decode cX10_ask 132 = .ok (.isub, 1) := kd_dk0 kd_o100 kd_ncX10_ask rfl
theorem dX10_ask_133 : decode cX10_ask 133 = .ok (.istore 8, 2) := kd_dk1 kd_o54 kd_ncX10_ask rfl
theorem dX10_ask_135 : decode cX10_ask 135 = .ok (.iload 4, 2) := kd_dk1 kd_o21 kd_ncX10_ask rfl
theorem dX10_ask_137 : decode cX10_ask 137 = .ok (.ifCond .lt 13, 3) := kd_dj2 kd_o155 (w := 13) kd_ncX10_ask rfl rfl
theorem dX10_ask_140 : decode cX10_ask 140 = .ok (.iload 8, 2) := kd_dk1 kd_o21 kd_ncX10_ask rfl
theorem dX10_ask_142 : decode cX10_ask 142 = .ok (.iload 5, 2) := kd_dk1 kd_o21 kd_ncX10_ask rfl
theorem dX10_ask_144 : decode cX10_ask 144 = .ok (.if_icmp .lt 6, 3) := kd_dj2 kd_o161 (w := 6) kd_ncX10_ask rfl rfl
theorem dX10_ask_147 : decode cX10_ask 147 = .ok (.goto 11, 3) := kd_dj2 kd_o167 (w := 11) kd_ncX10_ask rfl rfl
theorem dX10_ask_150 : decode cX10_ask 150 = .ok (.iload 6, 2) := kd_dk1 kd_o21 kd_ncX10_ask rfl
theorem dX10_ask_152 : decode cX10_ask 152 = .ok (.istore 4, 2) := kd_dk1 kd_o54 kd_ncX10_ask rfl
theorem dX10_ask_154 : decode cX10_ask 154 = .ok (.iload 8, 2) := kd_dk1 kd_o21 kd_ncX10_ask rfl
theorem dX10_ask_156 : decode cX10_ask 156 = .ok (.istore 5, 2) := kd_dk1 kd_o54 kd_ncX10_ask rfl
theorem dX10_ask_158 : decode cX10_ask 158 = .ok (.iinc 6 1, 3) := kd_dji kd_o132 (w := 1) kd_ncX10_ask rfl rfl
theorem dX10_ask_161 : decode cX10_ask 161 = .ok (.goto (-121), 3) := kd_dj2 kd_o167 (w := 65415) kd_ncX10_ask rfl rfl
theorem dX10_ask_164 : decode cX10_ask 164 = .ok (.iload 4, 2) := kd_dk1 kd_o21 kd_ncX10_ask rfl
theorem dX10_ask_166 : decode cX10_ask 166 = .ok (.ireturn, 1) := kd_dk0 kd_o172 kd_ncX10_ask rfl
set_option maxHeartbeats 8000000 in
set_option maxRecDepth 100000 in
theorem c_x_ask (l : Launch) (G : zz_G) (r : Nat → Nat) (j0 : Int32) (j2 : Int32) (j4 : Int32) (j10 : Int32) (j11 : Int32) (j12 : Int32) (j13 : Int32) (j14 : Int32) (j15 : Int32) (j16 : Int32) (j17 : Int32) (j19 : Int32) (j20 : Int32) (j34 : Int32) (j40 : Int32) (j44 : Int32) (j47 : Int32) (j50 : Int32) (j51 : Int32) (j56 : Int32) (lv : Nat) (pp : Nat) (pq : Nat) (c22 : Nat → Int32) (c24 : Nat → Int32) (c25 : Nat → Int32) (c26 : Nat → Int32) (c28 : Nat → Int32) (c29 : Nat → Int32) (c30 : Nat → Int32) (c31 : Nat → Int32) (c32 : Nat → Int32) (c33 : Nat → Int32) (c35 : Nat → Int32) (c36 : Nat → Int32) (c37 : Nat → Int32) (c38 : Nat → Int32) (c39 : Nat → Int32) (c41 : Nat → Int32) (c42 : Nat → Int32) (c45 : Nat → Int32) (c46 : Nat → Int32) (c48 : Nat → Int32) (c49 : Nat → Int32) (c62 : Nat → Int32) (c63 : Nat → Int32) (c64 : Nat → Int32) (ar1 : Int32) (ar2 : Int32) (tn : Nat) (hlv : lv ≤ 1) (hpe : c22 lv = nI pp) (hpp : pp ≤ 7) (hpa : c26 lv = nI pq) (hpq : pq ≤ 6) (hlw : zz_LW 2 0 0 c32 c33 c35 c36 c37 c38 c39 c41 c42) (htn : tn ≤ 20) (htp : ∀ j, j < 20 → ∃ q : Nat, q < 6 ∧ c62 j = nI q) : zz_M l G mX10_ask 5 0 0 [.ref (r 0), .int ar1, .int ar2] [((r 0), .inr (10, (zz_mo r [(0, j0), (2, j2), (4, j4), (10, j10), (11, j11), (12, j12), (13, j13), (14, j14), (15, j15), (16, j16), (17, j17), (18, (nI lv)), (19, j19), (20, j20), (34, j34), (40, j40), (44, j44), (47, j47), (50, j50), (51, j51), (56, j56), (61, (nI tn))]))), ((r 22), .inl (G.2 0, 2, .inl c22)), ((r 24), .inl (G.2 0, 14, .inl c24)), ((r 25), .inl (G.2 0, 14, .inl c25)), ((r 26), .inl (G.2 0, 2, .inl c26)), ((r 28), .inl (G.2 0, 12, .inl c28)), ((r 29), .inl (G.2 0, 12, .inl c29)), ((r 30), .inl (G.2 0, 2, .inl c30)), ((r 31), .inl (G.2 0, 2, .inl c31)), ((r 32), .inl (G.2 0, 8, .inl c32)), ((r 33), .inl (G.2 0, 8, .inl c33)), ((r 35), .inl (G.2 2, 260, .inl c35)), ((r 36), .inl (G.2 0, 260, .inl c36)), ((r 37), .inl (G.2 0, 260, .inl c37)), ((r 38), .inl (G.2 0, 260, .inl c38)), ((r 39), .inl (G.2 0, 260, .inl c39)), ((r 41), .inl (G.2 0, 840, .inl c41)), ((r 42), .inl (G.2 0, 840, .inl c42)), ((r 45), .inl (G.2 0, 9, .inl c45)), ((r 46), .inl (G.2 0, 400, .inl c46)), ((r 48), .inl (G.2 0, 71, .inl c48)), ((r 49), .inl (G.2 0, 71, .inl c49)), ((r 62), .inl (G.2 0, 20, .inl c62)), ((r 63), .inl (G.2 0, 20, .inl c63)), ((r 64), .inl (G.2 2, 20, .inl c64))] (fun rr u => ∃ (rv : Int32), ∃ (k47 : Int32), ∃ (k50 : Int32), ∃ (k51 : Int32), ∃ (d45 : Nat → Int32), ∃ (d46 : Nat → Int32), ∃ (d49 : Nat → Int32), rr = some (.int rv) ∧ u = [((r 0), .inr (10, (zz_mo r [(0, j0), (2, j2), (4, j4), (10, j10), (11, j11), (12, j12), (13, j13), (14, j14), (15, j15), (16, j16), (17, j17), (18, (nI lv)), (19, j19), (20, j20), (34, j34), (40, j40), (44, j44), (47, k47), (50, k50), (51, k51), (56, j56), (61, (nI tn))]))), ((r 22), .inl (G.2 0, 2, .inl c22)), ((r 24), .inl (G.2 0, 14, .inl c24)), ((r 25), .inl (G.2 0, 14, .inl c25)), ((r 26), .inl (G.2 0, 2, .inl c26)), ((r 28), .inl (G.2 0, 12, .inl c28)), ((r 29), .inl (G.2 0, 12, .inl c29)), ((r 30), .inl (G.2 0, 2, .inl c30)), ((r 31), .inl (G.2 0, 2, .inl c31)), ((r 32), .inl (G.2 0, 8, .inl c32)), ((r 33), .inl (G.2 0, 8, .inl c33)), ((r 35), .inl (G.2 2, 260, .inl c35)), ((r 36), .inl (G.2 0, 260, .inl c36)), ((r 37), .inl (G.2 0, 260, .inl c37)), ((r 38), .inl (G.2 0, 260, .inl c38)), ((r 39), .inl (G.2 0, 260, .inl c39)), ((r 41), .inl (G.2 0, 840, .inl c41)), ((r 42), .inl (G.2 0, 840, .inl c42)), ((r 45), .inl (G.2 0, 9, .inl d45)), ((r 46), .inl (G.2 0, 400, .inl d46)), ((r 48), .inl (G.2 0, 71, .inl c48)), ((r 49), .inl (G.2 0, 71, .inl d49)), ((r 62), .inl (G.2 0, 20, .inl c62)), ((r 63), .inl (G.2 0, 20, .inl c63)), ((r 64), .inl (G.2 2, 20, .inl c64))] ∧ (zA (zz_In (tn + 1) ar1 ∧ zz_In 100 ar2) (∃ (k : Nat) (τ : Nat → Int32), k ≤ tn ∧ ar1 = nI k ∧ zy_q 71 c48 τ ∧ ∀ Λ, (zr_HD lv c32 c33 c35 c36 c37 c38 c39 c41 c42 (c30 lv)) Λ → zk_ar (zO (fun a => zk_ft (zr_Sx 99 lv τ c24 c28 c25 c29 (Λ 0)) c62 c63 c64 a (fun i => i < k)) pp) (fun p => zk_lr (zr_Sx 99 lv τ c24 c28 c25 c29 (Λ 0)) (zO (fun a => zk_ft (zr_Sx 99 lv τ c24 c28 c25 c29 (Λ 0)) c62 c63 c64 a (fun i => i < k)) pp) p ar2 pp) pq rv) rv (-1))) := by
  refine zz_enteri (by decide +kernel) (Nat.le_of_ble_eq_true rfl) ?_
  intro p e s m args below meth c A Q ls S hnm hret hw hl
  have hl : lv_has ls 9 [(0, .ref (r 0)), (1, .int ar1), (2, .int ar2)] := hl
  have hx := S.1
  have hb := S.2.1
  refine lv_iload_n hx hb dX10_ask_0 rfl (lv_at hl 1 rfl) ?_
  refine lv_iconst (v := 0) hx hb dX10_ask_1 (by decide) ?_
  refine lv_aload_n hx hb dX10_ask_2 rfl (lv_at hl 0 rfl) ?_
  refine zz_get (v := .int (nI tn)) S hw fgX10_257 0 rfl rfl dX10_ask_3 ?_
  refine zz_callS (As := [.int ar1, .int 0, .int (nI tn)]) (rest := []) (wr := [((r 0), .inr (10, (zz_mo r [(0, j0), (2, j2), (4, j4), (10, j10), (11, j11), (12, j12), (13, j13), (14, j14), (15, j15), (16, j16), (17, j17), (18, (nI lv)), (19, j19), (20, j20), (34, j34), (40, j40), (44, j44), (47, j47), (50, j50), (51, j51), (56, j56), (61, (nI tn))]))), ((r 22), .inl (G.2 0, 2, .inl c22)), ((r 24), .inl (G.2 0, 14, .inl c24)), ((r 25), .inl (G.2 0, 14, .inl c25)), ((r 26), .inl (G.2 0, 2, .inl c26)), ((r 28), .inl (G.2 0, 12, .inl c28)), ((r 29), .inl (G.2 0, 12, .inl c29)), ((r 30), .inl (G.2 0, 2, .inl c30)), ((r 31), .inl (G.2 0, 2, .inl c31)), ((r 32), .inl (G.2 0, 8, .inl c32)), ((r 33), .inl (G.2 0, 8, .inl c33)), ((r 35), .inl (G.2 2, 260, .inl c35)), ((r 36), .inl (G.2 0, 260, .inl c36)), ((r 37), .inl (G.2 0, 260, .inl c37)), ((r 38), .inl (G.2 0, 260, .inl c38)), ((r 39), .inl (G.2 0, 260, .inl c39)), ((r 41), .inl (G.2 0, 840, .inl c41)), ((r 42), .inl (G.2 0, 840, .inl c42)), ((r 45), .inl (G.2 0, 9, .inl c45)), ((r 46), .inl (G.2 0, 400, .inl c46)), ((r 48), .inl (G.2 0, 71, .inl c48)), ((r 49), .inl (G.2 0, 71, .inl c49)), ((r 62), .inl (G.2 0, 20, .inl c62)), ((r 63), .inl (G.2 0, 20, .inl c63)), ((r 64), .inl (G.2 2, 20, .inl c64))]) S hw hl.1 lX10_313 (c_x_in l G ar1 0 (nI tn)) ⟨Nat.le_of_ble_eq_true rfl, Nat.le_of_ble_eq_true rfl⟩ ⟨Nat.le_of_ble_eq_true rfl, Nat.le_of_ble_eq_true rfl⟩ [] [0, 1, 2, 3, 4, 5, 6, 7, 8, 9, 10, 11, 12, 13, 14, 15, 16, 17, 18, 19, 20, 21, 22, 23, 24] (by decide +kernel) rfl rfl (by decide +kernel) (by decide +kernel) rfl rfl (Nat.le_of_ble_eq_true rfl) dX10_ask_6 ?_
  clear hw
  intro rr u H locs hp hw
  refine hp.elim fun rv_1 zg0 => zg0.elim fun zee1 zg1 => zg1.elim fun zee2 zg2 => zg2.elim fun hq6_0 zg3 => zg3.elim fun hq6_1 hq6_2 => ?_
  clear hp zg0 zg1 zg2 zg3
  subst zee1
  subst zee2
  replace hw : zz_w G A s [((r 0), .inr (10, (zz_mo r [(0, j0), (2, j2), (4, j4), (10, j10), (11, j11), (12, j12), (13, j13), (14, j14), (15, j15), (16, j16), (17, j17), (18, (nI lv)), (19, j19), (20, j20), (34, j34), (40, j40), (44, j44), (47, j47), (50, j50), (51, j51), (56, j56), (61, (nI tn))]))), ((r 22), .inl (G.2 0, 2, .inl c22)), ((r 24), .inl (G.2 0, 14, .inl c24)), ((r 25), .inl (G.2 0, 14, .inl c25)), ((r 26), .inl (G.2 0, 2, .inl c26)), ((r 28), .inl (G.2 0, 12, .inl c28)), ((r 29), .inl (G.2 0, 12, .inl c29)), ((r 30), .inl (G.2 0, 2, .inl c30)), ((r 31), .inl (G.2 0, 2, .inl c31)), ((r 32), .inl (G.2 0, 8, .inl c32)), ((r 33), .inl (G.2 0, 8, .inl c33)), ((r 35), .inl (G.2 2, 260, .inl c35)), ((r 36), .inl (G.2 0, 260, .inl c36)), ((r 37), .inl (G.2 0, 260, .inl c37)), ((r 38), .inl (G.2 0, 260, .inl c38)), ((r 39), .inl (G.2 0, 260, .inl c39)), ((r 41), .inl (G.2 0, 840, .inl c41)), ((r 42), .inl (G.2 0, 840, .inl c42)), ((r 45), .inl (G.2 0, 9, .inl c45)), ((r 46), .inl (G.2 0, 400, .inl c46)), ((r 48), .inl (G.2 0, 71, .inl c48)), ((r 49), .inl (G.2 0, 71, .inl c49)), ((r 62), .inl (G.2 0, 20, .inl c62)), ((r 63), .inl (G.2 0, 20, .inl c63)), ((r 64), .inl (G.2 2, 20, .inl c64))] H _ := hw
  refine W.eq (g2 := F0 m 9 ls [.int rv_1]) rfl ?_
  refine lv_if_eq (tgt := 22) hx hb dX10_ask_9 (by decide) (fun c9_2 => ?_) (fun c9_2 => ?_)
  · skip
    refine lv_iconst (v := (-1)) hx hb dX10_ask_22 (by decide) ?_
    exact hret _ _ _ _ _ _ ⟨(-1), j47, j50, j51, c45, c46, c49, rfl, rfl, (by first | exact zA0 (fun z => zz_innI (n := tn) (by omega) hq6_1 (by assumption) z.1) | exact zA0 (fun z => zz_innI (n := 99) (by omega) hq16_1 (by assumption) z.2) | exact zA1 ⟨⟨_, by omega, rfl⟩, ⟨_, by omega, rfl⟩⟩ ⟨_, _, by omega, rfl, hq26_0, fun Λ h => zk_ar0 (hq26_1 Λ h) (by assumption) hdry⟩ | exact zA1 ⟨⟨_, by omega, rfl⟩, ⟨_, by omega, rfl⟩⟩ ⟨_, _, by omega, rfl, hq26_0, fun Λ h => zk_br1 (hq26_1 Λ h) (hdry Λ h) (by omega) hdry⟩)⟩ hw rfl dX10_ask_23
  · skip
    have hq6_0i := hq6_0.resolve_left c9_2
    obtain ⟨vq3, hvq3, rfl⟩ : ∃ k : Nat, k ≤ tn ∧ ar1 = nI k := zz_rng (zz_lo0 hq6_0i.1) hq6_0i.2 (by omega)
    refine lv_iload_n hx hb dX10_ask_12 rfl (lv_at hl 2 rfl) ?_
    refine lv_iconst (v := 0) hx hb dX10_ask_13 (by decide) ?_
    refine lv_bipush (v := 99) hx hb dX10_ask_14 (by decide) ?_
    refine zz_callS (As := [.int ar2, .int 0, .int 99]) (rest := []) (wr := [((r 0), .inr (10, (zz_mo r [(0, j0), (2, j2), (4, j4), (10, j10), (11, j11), (12, j12), (13, j13), (14, j14), (15, j15), (16, j16), (17, j17), (18, (nI lv)), (19, j19), (20, j20), (34, j34), (40, j40), (44, j44), (47, j47), (50, j50), (51, j51), (56, j56), (61, (nI tn))]))), ((r 22), .inl (G.2 0, 2, .inl c22)), ((r 24), .inl (G.2 0, 14, .inl c24)), ((r 25), .inl (G.2 0, 14, .inl c25)), ((r 26), .inl (G.2 0, 2, .inl c26)), ((r 28), .inl (G.2 0, 12, .inl c28)), ((r 29), .inl (G.2 0, 12, .inl c29)), ((r 30), .inl (G.2 0, 2, .inl c30)), ((r 31), .inl (G.2 0, 2, .inl c31)), ((r 32), .inl (G.2 0, 8, .inl c32)), ((r 33), .inl (G.2 0, 8, .inl c33)), ((r 35), .inl (G.2 2, 260, .inl c35)), ((r 36), .inl (G.2 0, 260, .inl c36)), ((r 37), .inl (G.2 0, 260, .inl c37)), ((r 38), .inl (G.2 0, 260, .inl c38)), ((r 39), .inl (G.2 0, 260, .inl c39)), ((r 41), .inl (G.2 0, 840, .inl c41)), ((r 42), .inl (G.2 0, 840, .inl c42)), ((r 45), .inl (G.2 0, 9, .inl c45)), ((r 46), .inl (G.2 0, 400, .inl c46)), ((r 48), .inl (G.2 0, 71, .inl c48)), ((r 49), .inl (G.2 0, 71, .inl c49)), ((r 62), .inl (G.2 0, 20, .inl c62)), ((r 63), .inl (G.2 0, 20, .inl c63)), ((r 64), .inl (G.2 2, 20, .inl c64))]) S hw hl.1 lX10_313 (c_x_in l G ar2 0 99) ⟨Nat.le_of_ble_eq_true rfl, Nat.le_of_ble_eq_true rfl⟩ ⟨Nat.le_of_ble_eq_true rfl, Nat.le_of_ble_eq_true rfl⟩ [] [0, 1, 2, 3, 4, 5, 6, 7, 8, 9, 10, 11, 12, 13, 14, 15, 16, 17, 18, 19, 20, 21, 22, 23, 24] (by decide +kernel) rfl rfl (by decide +kernel) (by decide +kernel) rfl rfl (Nat.le_of_ble_eq_true rfl) dX10_ask_16 ?_
    clear hw
    intro rr u H locs hp hw
    refine hp.elim fun rv_4 zg0 => zg0.elim fun zee1 zg1 => zg1.elim fun zee2 zg2 => zg2.elim fun hq16_0 zg3 => zg3.elim fun hq16_1 hq16_2 => ?_
    clear hp zg0 zg1 zg2 zg3
    subst zee1
    subst zee2
    replace hw : zz_w G A s [((r 0), .inr (10, (zz_mo r [(0, j0), (2, j2), (4, j4), (10, j10), (11, j11), (12, j12), (13, j13), (14, j14), (15, j15), (16, j16), (17, j17), (18, (nI lv)), (19, j19), (20, j20), (34, j34), (40, j40), (44, j44), (47, j47), (50, j50), (51, j51), (56, j56), (61, (nI tn))]))), ((r 22), .inl (G.2 0, 2, .inl c22)), ((r 24), .inl (G.2 0, 14, .inl c24)), ((r 25), .inl (G.2 0, 14, .inl c25)), ((r 26), .inl (G.2 0, 2, .inl c26)), ((r 28), .inl (G.2 0, 12, .inl c28)), ((r 29), .inl (G.2 0, 12, .inl c29)), ((r 30), .inl (G.2 0, 2, .inl c30)), ((r 31), .inl (G.2 0, 2, .inl c31)), ((r 32), .inl (G.2 0, 8, .inl c32)), ((r 33), .inl (G.2 0, 8, .inl c33)), ((r 35), .inl (G.2 2, 260, .inl c35)), ((r 36), .inl (G.2 0, 260, .inl c36)), ((r 37), .inl (G.2 0, 260, .inl c37)), ((r 38), .inl (G.2 0, 260, .inl c38)), ((r 39), .inl (G.2 0, 260, .inl c39)), ((r 41), .inl (G.2 0, 840, .inl c41)), ((r 42), .inl (G.2 0, 840, .inl c42)), ((r 45), .inl (G.2 0, 9, .inl c45)), ((r 46), .inl (G.2 0, 400, .inl c46)), ((r 48), .inl (G.2 0, 71, .inl c48)), ((r 49), .inl (G.2 0, 71, .inl c49)), ((r 62), .inl (G.2 0, 20, .inl c62)), ((r 63), .inl (G.2 0, 20, .inl c63)), ((r 64), .inl (G.2 2, 20, .inl c64))] H _ := hw
    refine W.eq (g2 := F0 m 19 ls [.int rv_4]) rfl ?_
    refine lv_if_ne (tgt := 24) hx hb dX10_ask_19 (by decide) (fun c19_5 => ?_) (fun c19_5 => ?_)
    · skip
      have hq16_0i := hq16_0.resolve_left c19_5
      obtain ⟨vq6, hvq6, rfl⟩ : ∃ k : Nat, k ≤ 99 ∧ ar2 = nI k := zz_rng (zz_lo0 hq16_0i.1) hq16_0i.2 (by omega)
      refine lv_aload_n hx hb dX10_ask_24 rfl (lv_at hl 0 rfl) ?_
      refine lv_iload_n hx hb dX10_ask_25 rfl (lv_at hl 1 rfl) ?_
      refine zz_callV (qb := 0) (As := [.int (nI vq3)]) (rest := []) (wr := []) S hw hl.1 lX10_455 (c_x_whoBits l G r j0 j2 j4 j10 j11 j12 j13 j14 j15 j16 j17 j19 j20 j34 j40 j44 j47 j50 j51 j56 (nI tn) lv pp pq c22 c24 c25 c26 c28 c29 c30 c31 c32 c33 c35 c36 c37 c38 c39 c41 c42 c45 c46 c48 c49 c62 c63 c64 vq3 (by first | assumption | omega | exact Or.inr ⟨_, by omega, rfl⟩ | (unfold zz_sok; decide) | decide | exact (fun j hj => (hv7 j hj).1)) (by first | assumption | omega | exact Or.inr ⟨_, by omega, rfl⟩ | (unfold zz_sok; decide) | decide | exact (fun j hj => (hv7 j hj).1)) (by first | assumption | omega | exact Or.inr ⟨_, by omega, rfl⟩ | (unfold zz_sok; decide) | decide | exact (fun j hj => (hv7 j hj).1)) (by first | assumption | omega | exact Or.inr ⟨_, by omega, rfl⟩ | (unfold zz_sok; decide) | decide | exact (fun j hj => (hv7 j hj).1)) (by first | assumption | omega | exact Or.inr ⟨_, by omega, rfl⟩ | (unfold zz_sok; decide) | decide | exact (fun j hj => (hv7 j hj).1)) (by first | assumption | omega | exact Or.inr ⟨_, by omega, rfl⟩ | (unfold zz_sok; decide) | decide | exact (fun j hj => (hv7 j hj).1)) (by first | assumption | omega | exact Or.inr ⟨_, by omega, rfl⟩ | (unfold zz_sok; decide) | decide | exact (fun j hj => (hv7 j hj).1)) (by first | assumption | omega | exact Or.inr ⟨_, by omega, rfl⟩ | (unfold zz_sok; decide) | decide | exact (fun j hj => (hv7 j hj).1))) ⟨Nat.le_of_ble_eq_true rfl, Nat.le_of_ble_eq_true rfl⟩ ⟨Nat.le_of_ble_eq_true rfl, Nat.le_of_ble_eq_true rfl⟩ [0, 1, 2, 3, 4, 5, 6, 7, 8, 9, 10, 11, 12, 13, 14, 15, 16, 17, 18, 19, 20, 21, 22, 23, 24] [] (by decide +kernel) rfl rfl (by decide +kernel) (by decide +kernel) rfl rfl rfl rfl (Nat.le_of_ble_eq_true rfl) dX10_ask_26 ?_
      clear hw
      intro rr u H locs hp hw
      refine hp.elim fun rv_7 zg0 => zg0.elim fun k47_8 zg1 => zg1.elim fun k50_9 zg2 => zg2.elim fun k51_10 zg3 => zg3.elim fun d45_11 zg4 => zg4.elim fun d46_12 zg5 => zg5.elim fun d49_13 zg6 => zg6.elim fun zee1 zg7 => zg7.elim fun zee2 zg8 => zg8.elim fun hq26_0 hq26_1 => ?_
      clear hp zg0 zg1 zg2 zg3 zg4 zg5 zg6 zg7 zg8
      subst zee1
      subst zee2
      replace hw : zz_w G A s [((r 0), .inr (10, (zz_mo r [(0, j0), (2, j2), (4, j4), (10, j10), (11, j11), (12, j12), (13, j13), (14, j14), (15, j15), (16, j16), (17, j17), (18, (nI lv)), (19, j19), (20, j20), (34, j34), (40, j40), (44, j44), (47, k47_8), (50, k50_9), (51, k51_10), (56, j56), (61, (nI tn))]))), ((r 22), .inl (G.2 0, 2, .inl c22)), ((r 24), .inl (G.2 0, 14, .inl c24)), ((r 25), .inl (G.2 0, 14, .inl c25)), ((r 26), .inl (G.2 0, 2, .inl c26)), ((r 28), .inl (G.2 0, 12, .inl c28)), ((r 29), .inl (G.2 0, 12, .inl c29)), ((r 30), .inl (G.2 0, 2, .inl c30)), ((r 31), .inl (G.2 0, 2, .inl c31)), ((r 32), .inl (G.2 0, 8, .inl c32)), ((r 33), .inl (G.2 0, 8, .inl c33)), ((r 35), .inl (G.2 2, 260, .inl c35)), ((r 36), .inl (G.2 0, 260, .inl c36)), ((r 37), .inl (G.2 0, 260, .inl c37)), ((r 38), .inl (G.2 0, 260, .inl c38)), ((r 39), .inl (G.2 0, 260, .inl c39)), ((r 41), .inl (G.2 0, 840, .inl c41)), ((r 42), .inl (G.2 0, 840, .inl c42)), ((r 45), .inl (G.2 0, 9, .inl d45_11)), ((r 46), .inl (G.2 0, 400, .inl d46_12)), ((r 48), .inl (G.2 0, 71, .inl c48)), ((r 49), .inl (G.2 0, 71, .inl d49_13)), ((r 62), .inl (G.2 0, 20, .inl c62)), ((r 63), .inl (G.2 0, 20, .inl c63)), ((r 64), .inl (G.2 2, 20, .inl c64))] H _ := hw
      refine W.eq (g2 := F0 m 29 ls [.int rv_7]) rfl ?_
      refine lv_istore_n (lv' := [(3, .int rv_7), (0, .ref (r 0)), (1, .int (nI vq3)), (2, .int (nI vq6))]) hx hb dX10_ask_29 rfl hl (by decide) rfl (fun ls hl => ?_)
      refine W.eq (g2 := F0 m 30 ls []) rfl ?_
      refine lv_bipush (v := (-2)) hx hb dX10_ask_30 (by decide) ?_
      refine lv_istore (lv' := [(4, .int (-2)), (3, .int rv_7), (0, .ref (r 0)), (1, .int (nI vq3)), (2, .int (nI vq6))]) hx hb dX10_ask_32 hl (by decide) rfl (fun ls hl => ?_)
      refine lv_iconst (v := 0) hx hb dX10_ask_34 (by decide) ?_
      refine lv_istore (lv' := [(5, .int 0), (4, .int (-2)), (3, .int rv_7), (0, .ref (r 0)), (1, .int (nI vq3)), (2, .int (nI vq6))]) hx hb dX10_ask_35 hl (by decide) rfl (fun ls hl => ?_)
      refine lv_iconst (v := 0) hx hb dX10_ask_37 (by decide) ?_
      refine lv_istore (lv' := [(6, .int 0), (5, .int 0), (4, .int (-2)), (3, .int rv_7), (0, .ref (r 0)), (1, .int (nI vq3)), (2, .int (nI vq6))]) hx hb dX10_ask_38 hl (by decide) rfl (fun ls hl => ?_)
      have lp40_147 : ∀ (vn15 vi14 : Nat) (vy76 : Int32) (vy77 : Int32) (vy78 : Int32) (vF79 : Nat → Int32) (vF80 : Nat → Int32) (H : Heap) (locs : List Loc) (ls : Array Slot), vi14 ≤ pq → pq < vi14 + vn15 → (∀ Λ, (zr_HD lv c32 c33 c35 c36 c37 c38 c39 c41 c42 (c30 lv)) Λ → zk_as (fun p => zk_lr (zr_Sx 99 lv d49_13 c24 c28 c25 c29 (Λ 0)) rv_7 p (nI vq6) pp) vi14 vy77 vy76) → (¬ rv_7 = 0 ∨ vy77 = -2) → zz_w G A s [((r 0), .inr (10, (zz_mo r [(0, j0), (2, j2), (4, j4), (10, j10), (11, j11), (12, j12), (13, j13), (14, j14), (15, j15), (16, j16), (17, j17), (18, (nI lv)), (19, j19), (20, j20), (34, j34), (40, j40), (44, j44), (47, vy78), (50, k50_9), (51, k51_10), (56, j56), (61, (nI tn))]))), ((r 22), .inl (G.2 0, 2, .inl c22)), ((r 24), .inl (G.2 0, 14, .inl c24)), ((r 25), .inl (G.2 0, 14, .inl c25)), ((r 26), .inl (G.2 0, 2, .inl c26)), ((r 28), .inl (G.2 0, 12, .inl c28)), ((r 29), .inl (G.2 0, 12, .inl c29)), ((r 30), .inl (G.2 0, 2, .inl c30)), ((r 31), .inl (G.2 0, 2, .inl c31)), ((r 32), .inl (G.2 0, 8, .inl c32)), ((r 33), .inl (G.2 0, 8, .inl c33)), ((r 35), .inl (G.2 2, 260, .inl c35)), ((r 36), .inl (G.2 0, 260, .inl c36)), ((r 37), .inl (G.2 0, 260, .inl c37)), ((r 38), .inl (G.2 0, 260, .inl c38)), ((r 39), .inl (G.2 0, 260, .inl c39)), ((r 41), .inl (G.2 0, 840, .inl c41)), ((r 42), .inl (G.2 0, 840, .inl c42)), ((r 45), .inl (G.2 0, 9, .inl vF79)), ((r 46), .inl (G.2 0, 400, .inl vF80)), ((r 48), .inl (G.2 0, 71, .inl c48)), ((r 49), .inl (G.2 0, 71, .inl d49_13)), ((r 62), .inl (G.2 0, 20, .inl c62)), ((r 63), .inl (G.2 0, 20, .inl c63)), ((r 64), .inl (G.2 2, 20, .inl c64))] H locs → lv_has ls 9 [(6, .int (nI vi14)), (5, .int vy76), (4, .int vy77), (3, .int rv_7), (0, .ref (r 0)), (1, .int (nI vq3)), (2, .int (nI vq6))] → W p l e (zz_rm 5 0 0) s m args below meth c H locs (0) (0) Q (F0 m 40 ls []) := by
        intro vn15
        induction vn15 with
        | zero => intro vi14 vy76 vy77 vy78 vF79 vF80 H locs ls hi1 hi2; exact absurd hi2 (by omega)
        | succ vn15 ih40 =>
          intro vi14 vy76 vy77 vy78 vF79 vF80 H locs ls hi40a hi40b hv40_145 hv40_146 hw hl
          refine lv_iload hx hb dX10_ask_40 (lv_at hl 0 rfl) ?_
          refine lv_aload_n hx hb dX10_ask_42 rfl (lv_at hl 4 rfl) ?_
          refine zz_get (v := .ref (r 26)) S hw fgX10_55 0 rfl rfl dX10_ask_43 ?_
          refine lv_aload_n hx hb dX10_ask_46 rfl (lv_at hl 4 rfl) ?_
          refine zz_get (v := .int (nI lv)) S hw fgX10_236 0 rfl rfl dX10_ask_47 ?_
          refine zz_iald (v := (nI pq)) S hw 4 rfl (vp_in_nI (n := lv) (by omega) (by decide)) (by rw [show ((nI lv) : Int32).toNatClampNeg = lv from nI_clamp (n := lv) (by omega)]; exact hpa) dX10_ask_50 ?_
          refine lv_icmp_ge (tgt := 164) hx hb dX10_ask_51 (by decide) (fun c51_148 => ?_) (fun c51_148 => ?_)
          · skip
            have c51_148n : pq ≤ vi14 := (zz_le (a := pq) (b := vi14) rfl rfl (by omega) (by omega)).mp c51_148
            refine lv_iload hx hb dX10_ask_164 (lv_at hl 2 rfl) ?_
            exact hret _ _ _ _ _ _ ⟨vy77, vy78, k50_9, k51_10, vF79, vF80, d49_13, rfl, rfl, (by first | exact zA0 (fun z => zz_innI (n := tn) (by omega) hq6_1 (by assumption) z.1) | exact zA0 (fun z => zz_innI (n := 99) (by omega) hq16_1 (by assumption) z.2) | exact zA1 ⟨⟨_, by omega, rfl⟩, ⟨_, by omega, rfl⟩⟩ ⟨_, _, by omega, rfl, hq26_0, fun Λ h => zk_ar0 (hq26_1 Λ h) (by assumption) hv40_146⟩ | exact zA1 ⟨⟨_, by omega, rfl⟩, ⟨_, by omega, rfl⟩⟩ ⟨_, _, by omega, rfl, hq26_0, fun Λ h => zk_br1 (hq26_1 Λ h) (hv40_145 Λ h) (by omega) hv40_146⟩)⟩ hw rfl dX10_ask_166
          · skip
            have c51_148n : ¬ (pq ≤ vi14) := fun z => c51_148 ((zz_le (a := pq) (b := vi14) rfl rfl (by omega) (by omega)).mpr z)
            refine lv_iload_n hx hb dX10_ask_54 rfl (lv_at hl 3 rfl) ?_
            refine W.eq (g2 := F0 m 55 ls [.int rv_7]) rfl ?_
            refine lv_if_eq (tgt := 164) hx hb dX10_ask_55 (by decide) (fun c55_149 => ?_) (fun c55_149 => ?_)
            · skip
              refine lv_iload hx hb dX10_ask_164 (lv_at hl 2 rfl) ?_
              exact hret _ _ _ _ _ _ ⟨vy77, vy78, k50_9, k51_10, vF79, vF80, d49_13, rfl, rfl, (by first | exact zA0 (fun z => zz_innI (n := tn) (by omega) hq6_1 (by assumption) z.1) | exact zA0 (fun z => zz_innI (n := 99) (by omega) hq16_1 (by assumption) z.2) | exact zA1 ⟨⟨_, by omega, rfl⟩, ⟨_, by omega, rfl⟩⟩ ⟨_, _, by omega, rfl, hq26_0, fun Λ h => zk_ar0 (hq26_1 Λ h) (by assumption) hv40_146⟩ | exact zA1 ⟨⟨_, by omega, rfl⟩, ⟨_, by omega, rfl⟩⟩ ⟨_, _, by omega, rfl, hq26_0, fun Λ h => zk_br1 (hq26_1 Λ h) (hv40_145 Λ h) (by omega) hv40_146⟩)⟩ hw rfl dX10_ask_166
            · skip
              refine lv_iconst (v := 0) hx hb dX10_ask_58 (by decide) ?_
              refine lv_istore (lv' := [(7, .int 0), (6, .int (nI vi14)), (5, .int vy76), (4, .int vy77), (3, .int rv_7), (0, .ref (r 0)), (1, .int (nI vq3)), (2, .int (nI vq6))]) hx hb dX10_ask_59 hl (by decide) rfl (fun ls hl => ?_)
              refine lv_iconst (v := 0) hx hb dX10_ask_61 (by decide) ?_
              refine lv_istore (lv' := [(8, .int 0), (7, .int 0), (6, .int (nI vi14)), (5, .int vy76), (4, .int vy77), (3, .int rv_7), (0, .ref (r 0)), (1, .int (nI vq3)), (2, .int (nI vq6))]) hx hb dX10_ask_62 hl (by decide) rfl (fun ls hl => ?_)
              have lp64_193 : ∀ (vn151 vi150 : Nat) (vy170 : Int32) (vy171 : Int32) (vF172 : Nat → Int32) (vF173 : Nat → Int32) (H : Heap) (locs : List Loc) (ls : Array Slot), vi150 ≤ pp → pp < vi150 + vn151 → (∀ Λ, (zr_HD lv c32 c33 c35 c36 c37 c38 c39 c41 c42 (c30 lv)) Λ → vy170 = zS (zk_yes (zr_Sx 99 lv d49_13 c24 c28 c25 c29 (Λ 0)) rv_7 vi14 (nI vq6)) vi150) → zz_w G A s [((r 0), .inr (10, (zz_mo r [(0, j0), (2, j2), (4, j4), (10, j10), (11, j11), (12, j12), (13, j13), (14, j14), (15, j15), (16, j16), (17, j17), (18, (nI lv)), (19, j19), (20, j20), (34, j34), (40, j40), (44, j44), (47, vy171), (50, k50_9), (51, k51_10), (56, j56), (61, (nI tn))]))), ((r 22), .inl (G.2 0, 2, .inl c22)), ((r 24), .inl (G.2 0, 14, .inl c24)), ((r 25), .inl (G.2 0, 14, .inl c25)), ((r 26), .inl (G.2 0, 2, .inl c26)), ((r 28), .inl (G.2 0, 12, .inl c28)), ((r 29), .inl (G.2 0, 12, .inl c29)), ((r 30), .inl (G.2 0, 2, .inl c30)), ((r 31), .inl (G.2 0, 2, .inl c31)), ((r 32), .inl (G.2 0, 8, .inl c32)), ((r 33), .inl (G.2 0, 8, .inl c33)), ((r 35), .inl (G.2 2, 260, .inl c35)), ((r 36), .inl (G.2 0, 260, .inl c36)), ((r 37), .inl (G.2 0, 260, .inl c37)), ((r 38), .inl (G.2 0, 260, .inl c38)), ((r 39), .inl (G.2 0, 260, .inl c39)), ((r 41), .inl (G.2 0, 840, .inl c41)), ((r 42), .inl (G.2 0, 840, .inl c42)), ((r 45), .inl (G.2 0, 9, .inl vF172)), ((r 46), .inl (G.2 0, 400, .inl vF173)), ((r 48), .inl (G.2 0, 71, .inl c48)), ((r 49), .inl (G.2 0, 71, .inl d49_13)), ((r 62), .inl (G.2 0, 20, .inl c62)), ((r 63), .inl (G.2 0, 20, .inl c63)), ((r 64), .inl (G.2 2, 20, .inl c64))] H locs → lv_has ls 9 [(8, .int (nI vi150)), (7, .int vy170), (6, .int (nI vi14)), (5, .int vy76), (4, .int vy77), (3, .int rv_7), (0, .ref (r 0)), (1, .int (nI vq3)), (2, .int (nI vq6))] → W p l e (zz_rm 5 0 0) s m args below meth c H locs (0) (0) Q (F0 m 64 ls []) := by
                intro vn151
                induction vn151 with
                | zero => intro vi150 vy170 vy171 vF172 vF173 H locs ls hi1 hi2; exact absurd hi2 (by omega)
                | succ vn151 ih64 =>
                  intro vi150 vy170 vy171 vF172 vF173 H locs ls hi64a hi64b hv64_192 hw hl
                  refine lv_iload hx hb dX10_ask_64 (lv_at hl 0 rfl) ?_
                  refine lv_aload_n hx hb dX10_ask_66 rfl (lv_at hl 6 rfl) ?_
                  refine zz_get (v := .ref (r 22)) S hw fgX10_43 0 rfl rfl dX10_ask_67 ?_
                  refine lv_aload_n hx hb dX10_ask_70 rfl (lv_at hl 6 rfl) ?_
                  refine zz_get (v := .int (nI lv)) S hw fgX10_236 0 rfl rfl dX10_ask_71 ?_
                  refine zz_iald (v := (nI pp)) S hw 1 rfl (vp_in_nI (n := lv) (by omega) (by decide)) (by rw [show ((nI lv) : Int32).toNatClampNeg = lv from nI_clamp (n := lv) (by omega)]; exact hpe) dX10_ask_74 ?_
                  refine lv_icmp_ge (tgt := 109) hx hb dX10_ask_75 (by decide) (fun c75_194 => ?_) (fun c75_194 => ?_)
                  · skip
                    have c75_194n : pp ≤ vi150 := (zz_le (a := pp) (b := vi150) rfl rfl (by omega) (by omega)).mp c75_194
                    refine lv_iload hx hb dX10_ask_109 (lv_at hl 1 rfl) ?_
                    refine lv_iload_n hx hb dX10_ask_111 rfl (lv_at hl 5 rfl) ?_
                    refine zz_callS (As := [.int rv_7]) (rest := [.int vy170]) (wr := [((r 0), .inr (10, (zz_mo r [(0, j0), (2, j2), (4, j4), (10, j10), (11, j11), (12, j12), (13, j13), (14, j14), (15, j15), (16, j16), (17, j17), (18, (nI lv)), (19, j19), (20, j20), (34, j34), (40, j40), (44, j44), (47, vy171), (50, k50_9), (51, k51_10), (56, j56), (61, (nI tn))]))), ((r 22), .inl (G.2 0, 2, .inl c22)), ((r 24), .inl (G.2 0, 14, .inl c24)), ((r 25), .inl (G.2 0, 14, .inl c25)), ((r 26), .inl (G.2 0, 2, .inl c26)), ((r 28), .inl (G.2 0, 12, .inl c28)), ((r 29), .inl (G.2 0, 12, .inl c29)), ((r 30), .inl (G.2 0, 2, .inl c30)), ((r 31), .inl (G.2 0, 2, .inl c31)), ((r 32), .inl (G.2 0, 8, .inl c32)), ((r 33), .inl (G.2 0, 8, .inl c33)), ((r 35), .inl (G.2 2, 260, .inl c35)), ((r 36), .inl (G.2 0, 260, .inl c36)), ((r 37), .inl (G.2 0, 260, .inl c37)), ((r 38), .inl (G.2 0, 260, .inl c38)), ((r 39), .inl (G.2 0, 260, .inl c39)), ((r 41), .inl (G.2 0, 840, .inl c41)), ((r 42), .inl (G.2 0, 840, .inl c42)), ((r 45), .inl (G.2 0, 9, .inl vF172)), ((r 46), .inl (G.2 0, 400, .inl vF173)), ((r 48), .inl (G.2 0, 71, .inl c48)), ((r 49), .inl (G.2 0, 71, .inl d49_13)), ((r 62), .inl (G.2 0, 20, .inl c62)), ((r 63), .inl (G.2 0, 20, .inl c63)), ((r 64), .inl (G.2 2, 20, .inl c64))]) S hw hl.1 lX10_436 (c_x_bits l G rv_7) ⟨Nat.le_of_ble_eq_true rfl, Nat.le_of_ble_eq_true rfl⟩ ⟨Nat.le_of_ble_eq_true rfl, Nat.le_of_ble_eq_true rfl⟩ [] [0, 1, 2, 3, 4, 5, 6, 7, 8, 9, 10, 11, 12, 13, 14, 15, 16, 17, 18, 19, 20, 21, 22, 23, 24] (by decide +kernel) rfl rfl (by decide +kernel) (by decide +kernel) rfl rfl (Nat.le_of_ble_eq_true rfl) dX10_ask_112 ?_
                    clear hw
                    intro rr u H locs hp hw
                    refine hp.elim fun rv_195 zg0 => zg0.elim fun zee1 zg1 => zg1.elim fun zee2 hq112_0 => ?_
                    clear hp zg0 zg1
                    subst zee1
                    subst zee2
                    replace hw : zz_w G A s [((r 0), .inr (10, (zz_mo r [(0, j0), (2, j2), (4, j4), (10, j10), (11, j11), (12, j12), (13, j13), (14, j14), (15, j15), (16, j16), (17, j17), (18, (nI lv)), (19, j19), (20, j20), (34, j34), (40, j40), (44, j44), (47, vy171), (50, k50_9), (51, k51_10), (56, j56), (61, (nI tn))]))), ((r 22), .inl (G.2 0, 2, .inl c22)), ((r 24), .inl (G.2 0, 14, .inl c24)), ((r 25), .inl (G.2 0, 14, .inl c25)), ((r 26), .inl (G.2 0, 2, .inl c26)), ((r 28), .inl (G.2 0, 12, .inl c28)), ((r 29), .inl (G.2 0, 12, .inl c29)), ((r 30), .inl (G.2 0, 2, .inl c30)), ((r 31), .inl (G.2 0, 2, .inl c31)), ((r 32), .inl (G.2 0, 8, .inl c32)), ((r 33), .inl (G.2 0, 8, .inl c33)), ((r 35), .inl (G.2 2, 260, .inl c35)), ((r 36), .inl (G.2 0, 260, .inl c36)), ((r 37), .inl (G.2 0, 260, .inl c37)), ((r 38), .inl (G.2 0, 260, .inl c38)), ((r 39), .inl (G.2 0, 260, .inl c39)), ((r 41), .inl (G.2 0, 840, .inl c41)), ((r 42), .inl (G.2 0, 840, .inl c42)), ((r 45), .inl (G.2 0, 9, .inl vF172)), ((r 46), .inl (G.2 0, 400, .inl vF173)), ((r 48), .inl (G.2 0, 71, .inl c48)), ((r 49), .inl (G.2 0, 71, .inl d49_13)), ((r 62), .inl (G.2 0, 20, .inl c62)), ((r 63), .inl (G.2 0, 20, .inl c63)), ((r 64), .inl (G.2 2, 20, .inl c64))] H _ := hw
                    refine W.eq (g2 := F0 m 115 ls [.int rv_195, .int vy170]) rfl ?_
                    refine W.eq (g2 := F0 m 115 ls [.int rv_195, .int vy170]) rfl ?_
                    refine lv_iload hx hb dX10_ask_115 (lv_at hl 1 rfl) ?_
                    refine lv_isub hx hb dX10_ask_117 ?_
                    refine lv_topi (fun z196 ez196 => ?_)
                    refine lv_icmp_le (tgt := 126) hx hb dX10_ask_118 (by decide) (fun c118_197 => ?_) (fun c118_197 => ?_)
                    · skip
                      refine lv_iload_n hx hb dX10_ask_126 rfl (lv_at hl 5 rfl) ?_
                      refine zz_callS (As := [.int rv_7]) (rest := []) (wr := [((r 0), .inr (10, (zz_mo r [(0, j0), (2, j2), (4, j4), (10, j10), (11, j11), (12, j12), (13, j13), (14, j14), (15, j15), (16, j16), (17, j17), (18, (nI lv)), (19, j19), (20, j20), (34, j34), (40, j40), (44, j44), (47, vy171), (50, k50_9), (51, k51_10), (56, j56), (61, (nI tn))]))), ((r 22), .inl (G.2 0, 2, .inl c22)), ((r 24), .inl (G.2 0, 14, .inl c24)), ((r 25), .inl (G.2 0, 14, .inl c25)), ((r 26), .inl (G.2 0, 2, .inl c26)), ((r 28), .inl (G.2 0, 12, .inl c28)), ((r 29), .inl (G.2 0, 12, .inl c29)), ((r 30), .inl (G.2 0, 2, .inl c30)), ((r 31), .inl (G.2 0, 2, .inl c31)), ((r 32), .inl (G.2 0, 8, .inl c32)), ((r 33), .inl (G.2 0, 8, .inl c33)), ((r 35), .inl (G.2 2, 260, .inl c35)), ((r 36), .inl (G.2 0, 260, .inl c36)), ((r 37), .inl (G.2 0, 260, .inl c37)), ((r 38), .inl (G.2 0, 260, .inl c38)), ((r 39), .inl (G.2 0, 260, .inl c39)), ((r 41), .inl (G.2 0, 840, .inl c41)), ((r 42), .inl (G.2 0, 840, .inl c42)), ((r 45), .inl (G.2 0, 9, .inl vF172)), ((r 46), .inl (G.2 0, 400, .inl vF173)), ((r 48), .inl (G.2 0, 71, .inl c48)), ((r 49), .inl (G.2 0, 71, .inl d49_13)), ((r 62), .inl (G.2 0, 20, .inl c62)), ((r 63), .inl (G.2 0, 20, .inl c63)), ((r 64), .inl (G.2 2, 20, .inl c64))]) S hw hl.1 lX10_436 (c_x_bits l G rv_7) ⟨Nat.le_of_ble_eq_true rfl, Nat.le_of_ble_eq_true rfl⟩ ⟨Nat.le_of_ble_eq_true rfl, Nat.le_of_ble_eq_true rfl⟩ [] [0, 1, 2, 3, 4, 5, 6, 7, 8, 9, 10, 11, 12, 13, 14, 15, 16, 17, 18, 19, 20, 21, 22, 23, 24] (by decide +kernel) rfl rfl (by decide +kernel) (by decide +kernel) rfl rfl (Nat.le_of_ble_eq_true rfl) dX10_ask_127 ?_
                      clear hw
                      intro rr u H locs hp hw
                      refine hp.elim fun rv_198 zg0 => zg0.elim fun zee1 zg1 => zg1.elim fun zee2 hq127_0 => ?_
                      clear hp zg0 zg1
                      subst zee1
                      subst zee2
                      replace hw : zz_w G A s [((r 0), .inr (10, (zz_mo r [(0, j0), (2, j2), (4, j4), (10, j10), (11, j11), (12, j12), (13, j13), (14, j14), (15, j15), (16, j16), (17, j17), (18, (nI lv)), (19, j19), (20, j20), (34, j34), (40, j40), (44, j44), (47, vy171), (50, k50_9), (51, k51_10), (56, j56), (61, (nI tn))]))), ((r 22), .inl (G.2 0, 2, .inl c22)), ((r 24), .inl (G.2 0, 14, .inl c24)), ((r 25), .inl (G.2 0, 14, .inl c25)), ((r 26), .inl (G.2 0, 2, .inl c26)), ((r 28), .inl (G.2 0, 12, .inl c28)), ((r 29), .inl (G.2 0, 12, .inl c29)), ((r 30), .inl (G.2 0, 2, .inl c30)), ((r 31), .inl (G.2 0, 2, .inl c31)), ((r 32), .inl (G.2 0, 8, .inl c32)), ((r 33), .inl (G.2 0, 8, .inl c33)), ((r 35), .inl (G.2 2, 260, .inl c35)), ((r 36), .inl (G.2 0, 260, .inl c36)), ((r 37), .inl (G.2 0, 260, .inl c37)), ((r 38), .inl (G.2 0, 260, .inl c38)), ((r 39), .inl (G.2 0, 260, .inl c39)), ((r 41), .inl (G.2 0, 840, .inl c41)), ((r 42), .inl (G.2 0, 840, .inl c42)), ((r 45), .inl (G.2 0, 9, .inl vF172)), ((r 46), .inl (G.2 0, 400, .inl vF173)), ((r 48), .inl (G.2 0, 71, .inl c48)), ((r 49), .inl (G.2 0, 71, .inl d49_13)), ((r 62), .inl (G.2 0, 20, .inl c62)), ((r 63), .inl (G.2 0, 20, .inl c63)), ((r 64), .inl (G.2 2, 20, .inl c64))] H _ := hw
                      refine W.eq (g2 := F0 m 130 ls [.int rv_198]) rfl ?_
                      refine lv_iload hx hb dX10_ask_130 (lv_at hl 1 rfl) ?_
                      refine lv_isub hx hb dX10_ask_132 ?_
                      refine lv_topi (fun z199 ez199 => ?_)
                      refine lv_istore (lv' := [(8, .int z199), (7, .int vy170), (6, .int (nI vi14)), (5, .int vy76), (4, .int vy77), (3, .int rv_7), (0, .ref (r 0)), (1, .int (nI vq3)), (2, .int (nI vq6))]) hx hb dX10_ask_133 hl (by decide) rfl (fun ls hl => ?_)
                      refine lv_iload hx hb dX10_ask_135 (lv_at hl 4 rfl) ?_
                      refine lv_if_lt (tgt := 150) hx hb dX10_ask_137 (by decide) (fun c137_200 => ?_) (fun c137_200 => ?_)
                      · skip
                        refine lv_iload hx hb dX10_ask_150 (lv_at hl 2 rfl) ?_
                        refine lv_istore (lv' := [(4, .int (nI vi14)), (8, .int z199), (7, .int vy170), (6, .int (nI vi14)), (5, .int vy76), (3, .int rv_7), (0, .ref (r 0)), (1, .int (nI vq3)), (2, .int (nI vq6))]) hx hb dX10_ask_152 hl (by decide) rfl (fun ls hl => ?_)
                        refine lv_iload hx hb dX10_ask_154 (lv_at hl 1 rfl) ?_
                        refine lv_istore (lv' := [(5, .int z199), (4, .int (nI vi14)), (8, .int z199), (7, .int vy170), (6, .int (nI vi14)), (3, .int rv_7), (0, .ref (r 0)), (1, .int (nI vq3)), (2, .int (nI vq6))]) hx hb dX10_ask_156 hl (by decide) rfl (fun ls hl => ?_)
                        refine lv_iinc (v := (nI (vi14 + 1))) (lv' := [(6, .int (nI (vi14 + 1))), (5, .int z199), (4, .int (nI vi14)), (8, .int z199), (7, .int vy170), (3, .int rv_7), (0, .ref (r 0)), (1, .int (nI vq3)), (2, .int (nI vq6))]) hx hb dX10_ask_158 hl (k := 4) rfl (nI_add _ 1) (by decide) rfl (fun ls hl => ?_)
                        refine lv_goto (tgt := 40) hx hb dX10_ask_161 (by decide) ?_
                        refine W.eq (g2 := F0 m 40 ls []) rfl ?_
                        exact ih40 (vi14 + 1) z199 (nI vi14) vy171 vF172 vF173 _ _ _ (by omega) (by omega) (fun Λ h => zk_asy (hv40_145 Λ h) (zk_lr0 (hv64_192 Λ h) (by omega) hq112_0 ez196 (Int32.not_lt.mpr c118_197) hq127_0 ez199) (by omega) (Or.inl (zk_asl (hv40_145 Λ h) c137_200))) (Or.inl (by assumption)) hw (lv_sub hl [0, 1, 2, 5, 6, 7, 8] rfl)
                      · skip
                        refine lv_iload hx hb dX10_ask_140 (lv_at hl 0 rfl) ?_
                        refine lv_iload hx hb dX10_ask_142 (lv_at hl 3 rfl) ?_
                        refine lv_icmp_lt (tgt := 150) hx hb dX10_ask_144 (by decide) (fun c144_201 => ?_) (fun c144_201 => ?_)
                        · skip
                          refine lv_iload hx hb dX10_ask_150 (lv_at hl 2 rfl) ?_
                          refine lv_istore (lv' := [(4, .int (nI vi14)), (8, .int z199), (7, .int vy170), (6, .int (nI vi14)), (5, .int vy76), (3, .int rv_7), (0, .ref (r 0)), (1, .int (nI vq3)), (2, .int (nI vq6))]) hx hb dX10_ask_152 hl (by decide) rfl (fun ls hl => ?_)
                          refine lv_iload hx hb dX10_ask_154 (lv_at hl 1 rfl) ?_
                          refine lv_istore (lv' := [(5, .int z199), (4, .int (nI vi14)), (8, .int z199), (7, .int vy170), (6, .int (nI vi14)), (3, .int rv_7), (0, .ref (r 0)), (1, .int (nI vq3)), (2, .int (nI vq6))]) hx hb dX10_ask_156 hl (by decide) rfl (fun ls hl => ?_)
                          refine lv_iinc (v := (nI (vi14 + 1))) (lv' := [(6, .int (nI (vi14 + 1))), (5, .int z199), (4, .int (nI vi14)), (8, .int z199), (7, .int vy170), (3, .int rv_7), (0, .ref (r 0)), (1, .int (nI vq3)), (2, .int (nI vq6))]) hx hb dX10_ask_158 hl (k := 4) rfl (nI_add _ 1) (by decide) rfl (fun ls hl => ?_)
                          refine lv_goto (tgt := 40) hx hb dX10_ask_161 (by decide) ?_
                          exact ih40 (vi14 + 1) z199 (nI vi14) vy171 vF172 vF173 _ _ _ (by omega) (by omega) (fun Λ h => zk_asy (hv40_145 Λ h) (zk_lr0 (hv64_192 Λ h) (by omega) hq112_0 ez196 (Int32.not_lt.mpr c118_197) hq127_0 ez199) (by omega) (Or.inr c144_201)) (Or.inl (by assumption)) hw (lv_sub hl [0, 1, 2, 5, 6, 7, 8] rfl)
                        · skip
                          refine lv_goto (tgt := 158) hx hb dX10_ask_147 (by decide) ?_
                          refine lv_iinc (v := (nI (vi14 + 1))) (lv' := [(6, .int (nI (vi14 + 1))), (8, .int z199), (7, .int vy170), (5, .int vy76), (4, .int vy77), (3, .int rv_7), (0, .ref (r 0)), (1, .int (nI vq3)), (2, .int (nI vq6))]) hx hb dX10_ask_158 hl (k := 2) rfl (nI_add _ 1) (by decide) rfl (fun ls hl => ?_)
                          refine lv_goto (tgt := 40) hx hb dX10_ask_161 (by decide) ?_
                          exact ih40 (vi14 + 1) vy76 vy77 vy171 vF172 vF173 _ _ _ (by omega) (by omega) (fun Λ h => zk_asn (hv40_145 Λ h) (zk_lr0 (hv64_192 Λ h) (by omega) hq112_0 ez196 (Int32.not_lt.mpr c118_197) hq127_0 ez199) (zk_n2 c137_200) c144_201) (Or.inl (by assumption)) hw (lv_sub hl [0, 3, 4, 5, 6, 7, 8] rfl)
                    · skip
                      refine lv_iload hx hb dX10_ask_121 (lv_at hl 1 rfl) ?_
                      refine lv_goto (tgt := 133) hx hb dX10_ask_123 (by decide) ?_
                      refine lv_istore (lv' := [(8, .int vy170), (7, .int vy170), (6, .int (nI vi14)), (5, .int vy76), (4, .int vy77), (3, .int rv_7), (0, .ref (r 0)), (1, .int (nI vq3)), (2, .int (nI vq6))]) hx hb dX10_ask_133 hl (by decide) rfl (fun ls hl => ?_)
                      refine W.eq (g2 := F0 m 135 ls []) rfl ?_
                      refine lv_iload hx hb dX10_ask_135 (lv_at hl 4 rfl) ?_
                      refine lv_if_lt (tgt := 150) hx hb dX10_ask_137 (by decide) (fun c137_202 => ?_) (fun c137_202 => ?_)
                      · skip
                        refine lv_iload hx hb dX10_ask_150 (lv_at hl 2 rfl) ?_
                        refine lv_istore (lv' := [(4, .int (nI vi14)), (8, .int vy170), (7, .int vy170), (6, .int (nI vi14)), (5, .int vy76), (3, .int rv_7), (0, .ref (r 0)), (1, .int (nI vq3)), (2, .int (nI vq6))]) hx hb dX10_ask_152 hl (by decide) rfl (fun ls hl => ?_)
                        refine lv_iload hx hb dX10_ask_154 (lv_at hl 1 rfl) ?_
                        refine lv_istore (lv' := [(5, .int vy170), (4, .int (nI vi14)), (8, .int vy170), (7, .int vy170), (6, .int (nI vi14)), (3, .int rv_7), (0, .ref (r 0)), (1, .int (nI vq3)), (2, .int (nI vq6))]) hx hb dX10_ask_156 hl (by decide) rfl (fun ls hl => ?_)
                        refine lv_iinc (v := (nI (vi14 + 1))) (lv' := [(6, .int (nI (vi14 + 1))), (5, .int vy170), (4, .int (nI vi14)), (8, .int vy170), (7, .int vy170), (3, .int rv_7), (0, .ref (r 0)), (1, .int (nI vq3)), (2, .int (nI vq6))]) hx hb dX10_ask_158 hl (k := 4) rfl (nI_add _ 1) (by decide) rfl (fun ls hl => ?_)
                        refine lv_goto (tgt := 40) hx hb dX10_ask_161 (by decide) ?_
                        exact ih40 (vi14 + 1) vy170 (nI vi14) vy171 vF172 vF173 _ _ _ (by omega) (by omega) (fun Λ h => zk_asy (hv40_145 Λ h) (zk_lr1 (hv64_192 Λ h) (by omega) hq112_0 ez196 (by first | exact c118_197 | exact Int32.not_le.mp c118_197)) (by omega) (Or.inl (zk_asl (hv40_145 Λ h) c137_202))) (Or.inl (by assumption)) hw (lv_sub hl [0, 1, 2, 5, 6, 7, 8] rfl)
                      · skip
                        refine lv_iload hx hb dX10_ask_140 (lv_at hl 0 rfl) ?_
                        refine lv_iload hx hb dX10_ask_142 (lv_at hl 3 rfl) ?_
                        refine lv_icmp_lt (tgt := 150) hx hb dX10_ask_144 (by decide) (fun c144_203 => ?_) (fun c144_203 => ?_)
                        · skip
                          refine lv_iload hx hb dX10_ask_150 (lv_at hl 2 rfl) ?_
                          refine lv_istore (lv' := [(4, .int (nI vi14)), (8, .int vy170), (7, .int vy170), (6, .int (nI vi14)), (5, .int vy76), (3, .int rv_7), (0, .ref (r 0)), (1, .int (nI vq3)), (2, .int (nI vq6))]) hx hb dX10_ask_152 hl (by decide) rfl (fun ls hl => ?_)
                          refine lv_iload hx hb dX10_ask_154 (lv_at hl 1 rfl) ?_
                          refine lv_istore (lv' := [(5, .int vy170), (4, .int (nI vi14)), (8, .int vy170), (7, .int vy170), (6, .int (nI vi14)), (3, .int rv_7), (0, .ref (r 0)), (1, .int (nI vq3)), (2, .int (nI vq6))]) hx hb dX10_ask_156 hl (by decide) rfl (fun ls hl => ?_)
                          refine lv_iinc (v := (nI (vi14 + 1))) (lv' := [(6, .int (nI (vi14 + 1))), (5, .int vy170), (4, .int (nI vi14)), (8, .int vy170), (7, .int vy170), (3, .int rv_7), (0, .ref (r 0)), (1, .int (nI vq3)), (2, .int (nI vq6))]) hx hb dX10_ask_158 hl (k := 4) rfl (nI_add _ 1) (by decide) rfl (fun ls hl => ?_)
                          refine W.eq (g2 := F0 m 161 ls []) rfl ?_
                          refine lv_goto (tgt := 40) hx hb dX10_ask_161 (by decide) ?_
                          exact ih40 (vi14 + 1) vy170 (nI vi14) vy171 vF172 vF173 _ _ _ (by omega) (by omega) (fun Λ h => zk_asy (hv40_145 Λ h) (zk_lr1 (hv64_192 Λ h) (by omega) hq112_0 ez196 (by first | exact c118_197 | exact Int32.not_le.mp c118_197)) (by omega) (Or.inr c144_203)) (Or.inl (by assumption)) hw (lv_sub hl [0, 1, 2, 5, 6, 7, 8] rfl)
                        · skip
                          refine lv_goto (tgt := 158) hx hb dX10_ask_147 (by decide) ?_
                          refine lv_iinc (v := (nI (vi14 + 1))) (lv' := [(6, .int (nI (vi14 + 1))), (8, .int vy170), (7, .int vy170), (5, .int vy76), (4, .int vy77), (3, .int rv_7), (0, .ref (r 0)), (1, .int (nI vq3)), (2, .int (nI vq6))]) hx hb dX10_ask_158 hl (k := 2) rfl (nI_add _ 1) (by decide) rfl (fun ls hl => ?_)
                          refine lv_goto (tgt := 40) hx hb dX10_ask_161 (by decide) ?_
                          exact ih40 (vi14 + 1) vy76 vy77 vy171 vF172 vF173 _ _ _ (by omega) (by omega) (fun Λ h => zk_asn (hv40_145 Λ h) (zk_lr1 (hv64_192 Λ h) (by omega) hq112_0 ez196 (by first | exact c118_197 | exact Int32.not_le.mp c118_197)) (zk_n2 c137_202) c144_203) (Or.inl (by assumption)) hw (lv_sub hl [0, 3, 4, 5, 6, 7, 8] rfl)
                  · skip
                    have c75_194n : ¬ (pp ≤ vi150) := fun z => c75_194 ((zz_le (a := pp) (b := vi150) rfl rfl (by omega) (by omega)).mpr z)
                    refine lv_iload_n hx hb dX10_ask_78 rfl (lv_at hl 5 rfl) ?_
                    refine lv_iload hx hb dX10_ask_79 (lv_at hl 0 rfl) ?_
                    refine lv_ishr hx hb dX10_ask_81 ?_
                    refine lv_topi (fun z204 ez204 => ?_)
                    refine lv_iconst (v := 1) hx hb dX10_ask_82 (by decide) ?_
                    refine lv_iand hx hb dX10_ask_83 ?_
                    refine lv_topi (fun z205 ez205 => ?_)
                    refine lv_iconst (v := 1) hx hb dX10_ask_84 (by decide) ?_
                    refine lv_icmp_ne (tgt := 103) hx hb dX10_ask_85 (by decide) (fun c85_206 => ?_) (fun c85_206 => ?_)
                    · skip
                      refine lv_iinc (v := (nI (vi150 + 1))) (lv' := [(8, .int (nI (vi150 + 1))), (7, .int vy170), (6, .int (nI vi14)), (5, .int vy76), (4, .int vy77), (3, .int rv_7), (0, .ref (r 0)), (1, .int (nI vq3)), (2, .int (nI vq6))]) hx hb dX10_ask_103 hl (k := 0) rfl (nI_add _ 1) (by decide) rfl (fun ls hl => ?_)
                      refine lv_goto (tgt := 64) hx hb dX10_ask_106 (by decide) ?_
                      exact ih64 (vi150 + 1) vy170 vy171 vF172 vF173 _ _ _ (by omega) (by omega) (by first | exact fun Λ h => zk_yt2 (hv64_192 Λ h) (zm_bd ez204 ez205) (by assumption) (hq93_0 Λ h.1 (h.2.1 0 (by decide))) (by assumption) | exact fun Λ h => zk_yf1 (hv64_192 Λ h) (hq93_0 Λ h.1 (h.2.1 0 (by decide))) (by assumption) | exact fun Λ h => zk_yf2 (hv64_192 Λ h) (zm_bd ez204 ez205) (by omega) (by assumption)) hw (lv_sub hl [0, 1, 2, 3, 4, 5, 6, 7, 8] rfl)
                    · skip
                      refine lv_aload_n hx hb dX10_ask_88 rfl (lv_at hl 6 rfl) ?_
                      refine lv_iload hx hb dX10_ask_89 (lv_at hl 0 rfl) ?_
                      refine W.eq (g2 := F0 m 91 ls [.int (nI vi150), .ref (r 0)]) rfl ?_
                      refine lv_iload hx hb dX10_ask_91 (lv_at hl 2 rfl) ?_
                      refine zz_callV (qb := 0) (As := [.int (nI vi150), .int (nI vi14)]) (rest := []) (wr := [((r 22), .inl (G.2 0, 2, .inl c22)), ((r 26), .inl (G.2 0, 2, .inl c26)), ((r 30), .inl (G.2 0, 2, .inl c30)), ((r 31), .inl (G.2 0, 2, .inl c31)), ((r 48), .inl (G.2 0, 71, .inl c48)), ((r 62), .inl (G.2 0, 20, .inl c62)), ((r 63), .inl (G.2 0, 20, .inl c63)), ((r 64), .inl (G.2 2, 20, .inl c64))]) S hw hl.1 lX10_348 (c_x_standsOf l G r j0 j2 j4 j10 j11 j12 j13 j14 j15 j16 j17 j19 j20 j34 j40 j44 vy171 k50_9 k51_10 j56 (nI tn) lv c24 c25 c28 c29 c32 c33 c35 c36 c37 c38 c39 c41 c42 vF172 vF173 d49_13 vi150 vi14 (by first | assumption | omega | exact Or.inr ⟨_, by omega, rfl⟩ | (unfold zz_sok; decide) | decide | exact (fun j hj => (hv7 j hj).1)) (by first | assumption | omega | exact Or.inr ⟨_, by omega, rfl⟩ | (unfold zz_sok; decide) | decide | exact (fun j hj => (hv7 j hj).1)) (by first | assumption | omega | exact Or.inr ⟨_, by omega, rfl⟩ | (unfold zz_sok; decide) | decide | exact (fun j hj => (hv7 j hj).1)) (by first | assumption | omega | exact Or.inr ⟨_, by omega, rfl⟩ | (unfold zz_sok; decide) | decide | exact (fun j hj => (hv7 j hj).1))) ⟨Nat.le_of_ble_eq_true rfl, Nat.le_of_ble_eq_true rfl⟩ ⟨Nat.le_of_ble_eq_true rfl, Nat.le_of_ble_eq_true rfl⟩ [0, 2, 3, 5, 6, 9, 10, 11, 12, 13, 14, 15, 16, 17, 18, 19, 21] [1, 4, 7, 8, 20, 22, 23, 24] (by decide +kernel) rfl rfl (by decide +kernel) (by decide +kernel) rfl rfl rfl rfl (Nat.le_of_ble_eq_true rfl) dX10_ask_93 ?_
                      clear hw
                      intro rr u H locs hp hw
                      refine hp.elim fun rv_207 zg0 => zg0.elim fun k47_208 zg1 => zg1.elim fun d45_209 zg2 => zg2.elim fun d46_210 zg3 => zg3.elim fun zee1 zg4 => zg4.elim fun zee2 hq93_0 => ?_
                      clear hp zg0 zg1 zg2 zg3 zg4
                      subst zee1
                      subst zee2
                      replace hw : zz_w G A s [((r 22), .inl (G.2 0, 2, .inl c22)), ((r 26), .inl (G.2 0, 2, .inl c26)), ((r 30), .inl (G.2 0, 2, .inl c30)), ((r 31), .inl (G.2 0, 2, .inl c31)), ((r 48), .inl (G.2 0, 71, .inl c48)), ((r 62), .inl (G.2 0, 20, .inl c62)), ((r 63), .inl (G.2 0, 20, .inl c63)), ((r 64), .inl (G.2 2, 20, .inl c64)), ((r 0), .inr (10, (zz_mo r [(0, j0), (2, j2), (4, j4), (10, j10), (11, j11), (12, j12), (13, j13), (14, j14), (15, j15), (16, j16), (17, j17), (18, (nI lv)), (19, j19), (20, j20), (34, j34), (40, j40), (44, j44), (47, k47_208), (50, k50_9), (51, k51_10), (56, j56), (61, (nI tn))]))), ((r 24), .inl (G.2 0, 14, .inl c24)), ((r 25), .inl (G.2 0, 14, .inl c25)), ((r 28), .inl (G.2 0, 12, .inl c28)), ((r 29), .inl (G.2 0, 12, .inl c29)), ((r 32), .inl (G.2 0, 8, .inl c32)), ((r 33), .inl (G.2 0, 8, .inl c33)), ((r 35), .inl (G.2 2, 260, .inl c35)), ((r 36), .inl (G.2 0, 260, .inl c36)), ((r 37), .inl (G.2 0, 260, .inl c37)), ((r 38), .inl (G.2 0, 260, .inl c38)), ((r 39), .inl (G.2 0, 260, .inl c39)), ((r 41), .inl (G.2 0, 840, .inl c41)), ((r 42), .inl (G.2 0, 840, .inl c42)), ((r 45), .inl (G.2 0, 9, .inl d45_209)), ((r 46), .inl (G.2 0, 400, .inl d46_210)), ((r 49), .inl (G.2 0, 71, .inl d49_13))] H _ := hw
                      refine W.eq (g2 := F0 m 96 ls [.int rv_207]) rfl ?_
                      refine lv_iload_n hx hb dX10_ask_96 rfl (lv_at hl 8 rfl) ?_
                      refine lv_icmp_lt (tgt := 103) hx hb dX10_ask_97 (by decide) (fun c97_211 => ?_) (fun c97_211 => ?_)
                      · skip
                        refine lv_iinc (v := (nI (vi150 + 1))) (lv' := [(8, .int (nI (vi150 + 1))), (7, .int vy170), (6, .int (nI vi14)), (5, .int vy76), (4, .int vy77), (3, .int rv_7), (0, .ref (r 0)), (1, .int (nI vq3)), (2, .int (nI vq6))]) hx hb dX10_ask_103 hl (k := 0) rfl (nI_add _ 1) (by decide) rfl (fun ls hl => ?_)
                        refine lv_goto (tgt := 64) hx hb dX10_ask_106 (by decide) ?_
                        exact ih64 (vi150 + 1) vy170 k47_208 d45_209 d46_210 _ _ _ (by omega) (by omega) (by first | exact fun Λ h => zk_yt2 (hv64_192 Λ h) (zm_bd ez204 ez205) (by assumption) (hq93_0 Λ h.1 (h.2.1 0 (by decide))) (by assumption) | exact fun Λ h => zk_yf1 (hv64_192 Λ h) (hq93_0 Λ h.1 (h.2.1 0 (by decide))) (by assumption) | exact fun Λ h => zk_yf2 (hv64_192 Λ h) (zm_bd ez204 ez205) (by omega) (by assumption)) (hw.sub [8, 0, 9, 10, 1, 11, 12, 2, 3, 13, 14, 15, 16, 17, 18, 19, 20, 21, 22, 23, 4, 24, 5, 6, 7] (by decide +kernel) rfl) (lv_sub hl [0, 1, 2, 3, 4, 5, 6, 7, 8] rfl)
                      · skip
                        refine lv_iinc (v := (vy170 + 1)) (lv' := [(7, .int (vy170 + 1)), (8, .int (nI vi150)), (6, .int (nI vi14)), (5, .int vy76), (4, .int vy77), (3, .int rv_7), (0, .ref (r 0)), (1, .int (nI vq3)), (2, .int (nI vq6))]) hx hb dX10_ask_100 hl (k := 1) rfl (rfl) (by decide) rfl (fun ls hl => ?_)
                        refine lv_iinc (v := (nI (vi150 + 1))) (lv' := [(8, .int (nI (vi150 + 1))), (7, .int (vy170 + 1)), (6, .int (nI vi14)), (5, .int vy76), (4, .int vy77), (3, .int rv_7), (0, .ref (r 0)), (1, .int (nI vq3)), (2, .int (nI vq6))]) hx hb dX10_ask_103 hl (k := 1) rfl (nI_add _ 1) (by decide) rfl (fun ls hl => ?_)
                        refine lv_goto (tgt := 64) hx hb dX10_ask_106 (by decide) ?_
                        exact ih64 (vi150 + 1) (vy170 + 1) k47_208 d45_209 d46_210 _ _ _ (by omega) (by omega) (by first | exact fun Λ h => zk_yt2 (hv64_192 Λ h) (zm_bd ez204 ez205) (by assumption) (hq93_0 Λ h.1 (h.2.1 0 (by decide))) (by assumption) | exact fun Λ h => zk_yf1 (hv64_192 Λ h) (hq93_0 Λ h.1 (h.2.1 0 (by decide))) (by assumption) | exact fun Λ h => zk_yf2 (hv64_192 Λ h) (zm_bd ez204 ez205) (by omega) (by assumption)) (hw.sub [8, 0, 9, 10, 1, 11, 12, 2, 3, 13, 14, 15, 16, 17, 18, 19, 20, 21, 22, 23, 4, 24, 5, 6, 7] (by decide +kernel) rfl) (lv_sub hl [0, 1, 2, 3, 4, 5, 6, 7, 8] rfl)
              exact lp64_193 (pp + 1 - 0) 0 0 vy78 vF79 vF80 _ _ _ (by omega) (by omega) (fun _ _ => rfl) hw (lv_sub hl [0, 1, 2, 3, 4, 5, 6, 7, 8] rfl)
      exact lp40_147 (pq + 1 - 0) 0 0 (-2) k47_8 d45_11 d46_12 _ _ _ (by omega) (by omega) (fun _ _ => zk_as0) (Or.inr rfl) hw (lv_sub hl [0, 1, 2, 3, 4, 5, 6] rfl)
    · skip
      refine lv_iconst (v := (-1)) hx hb dX10_ask_22 (by decide) ?_
      exact hret _ _ _ _ _ _ ⟨(-1), j47, j50, j51, c45, c46, c49, rfl, rfl, (by first | exact zA0 (fun z => zz_innI (n := tn) (by omega) hq6_1 (by assumption) z.1) | exact zA0 (fun z => zz_innI (n := 99) (by omega) hq16_1 (by assumption) z.2) | exact zA1 ⟨⟨_, by omega, rfl⟩, ⟨_, by omega, rfl⟩⟩ ⟨_, _, by omega, rfl, hq26_0, fun Λ h => zk_ar0 (hq26_1 Λ h) (by assumption) hdry⟩ | exact zA1 ⟨⟨_, by omega, rfl⟩, ⟨_, by omega, rfl⟩⟩ ⟨_, _, by omega, rfl, hq26_0, fun Λ h => zk_br1 (hq26_1 Λ h) (hdry Λ h) (by omega) hdry⟩)⟩ hw rfl dX10_ask_23
theorem kd_ncX10_hold : kd_ck 444196428495217929918307042522237057705796049297978218048454487969106503566572350617617759895052573502438975700788207485723 51 cX10_hold.data.toList 0 = true := by decide +kernel
theorem dX10_hold_0 : decode cX10_hold 0 = .ok (.iload_n 1, 1) := kd_dk0 kd_o27 kd_ncX10_hold rfl
theorem dX10_hold_1 : decode cX10_hold 1 = .ok (.iconst 0, 1) := kd_dk0 kd_o3 kd_ncX10_hold rfl
theorem dX10_hold_2 : decode cX10_hold 2 = .ok (.iconst 2, 1) := kd_dk0 kd_o5 kd_ncX10_hold rfl
theorem dX10_hold_3 : decode cX10_hold 3 = .ok (.invokestatic 313, 3) := kd_dk2 kd_o184 kd_ncX10_hold rfl
theorem dX10_hold_6 : decode cX10_hold 6 = .ok (.ifCond .ne 5, 3) := kd_dj2 kd_o154 (w := 5) kd_ncX10_hold rfl rfl
theorem dX10_hold_9 : decode cX10_hold 9 = .ok (.iconst 0, 1) := kd_dk0 kd_o3 kd_ncX10_hold rfl
theorem dX10_hold_10 : decode cX10_hold 10 = .ok (.ireturn, 1) := kd_dk0 kd_o172 kd_ncX10_hold rfl
theorem dX10_hold_11 : decode cX10_hold 11 = .ok (.aload_n 0, 1) := kd_dk0 kd_o42 kd_ncX10_hold rfl
theorem dX10_hold_12 : decode cX10_hold 12 = .ok (.getfield 149, 3) := kd_dk2 kd_o180 kd_ncX10_hold rfl
theorem dX10_hold_15 : decode cX10_hold 15 = .ok (.iload_n 1, 1) := kd_dk0 kd_o27 kd_ncX10_hold rfl
theorem dX10_hold_16 : decode cX10_hold 16 = .ok (.iconst 1, 1) := kd_dk0 kd_o4 kd_ncX10_hold rfl
theorem dX10_hold_17 : decode cX10_hold 17 = .ok (.bastore, 1) := kd_dk0 kd_o84 kd_ncX10_hold rfl
theorem dX10_hold_18 : decode cX10_hold 18 = .ok (.iconst 0, 1) := kd_dk0 kd_o3 kd_ncX10_hold rfl
theorem dX10_hold_19 : decode cX10_hold 19 = .ok (.istore_n 2, 1) := kd_dk0 kd_o61 kd_ncX10_hold rfl
theorem dX10_hold_20 : decode cX10_hold 20 = .ok (.iload_n 2, 1) := kd_dk0 kd_o28 kd_ncX10_hold rfl
theorem dX10_hold_21 : decode cX10_hold 21 = .ok (.bipush 71, 2) := kd_dj1 kd_o16 (w := 71) kd_ncX10_hold rfl rfl
theorem dX10_hold_23 : decode cX10_hold 23 = .ok (.if_icmp .ge 26, 3) := kd_dj2 kd_o162 (w := 26) kd_ncX10_hold rfl rfl
theorem dX10_hold_26 : decode cX10_hold 26 = .ok (.aload_n 0, 1) := kd_dk0 kd_o42 kd_ncX10_hold rfl
theorem dX10_hold_27 : decode cX10_hold 27 = .ok (.getfield 152, 3) := kd_dk2 kd_o180 kd_ncX10_hold rfl
theorem dX10_hold_30 : decode cX10_hold 30 = .ok (.bipush 71, 2) := kd_dj1 kd_o16 (w := 71) kd_ncX10_hold rfl rfl
theorem dX10_hold_32 : decode cX10_hold 32 = .ok (.iload_n 1, 1) := kd_dk0 kd_o27 kd_ncX10_hold rfl
theorem dX10_hold_33 : decode cX10_hold 33 = .ok (.imul, 1) := kd_dk0 kd_o104 kd_ncX10_hold rfl
theorem dX10_hold_34 : decode cX10_hold 34 = .ok (.iload_n 2, 1) := kd_dk0 kd_o28 kd_ncX10_hold rfl
theorem dX10_hold_35 : decode cX10_hold 35 = .ok (.iadd, 1) := kd_dk0 kd_o96 kd_ncX10_hold rfl
theorem dX10_hold_36 : decode cX10_hold 36 = .ok (.aload_n 0, 1) := kd_dk0 kd_o42 kd_ncX10_hold rfl
theorem dX10_hold_37 : decode cX10_hold 37 = .ok (.getfield 110, 3) := kd_dk2 kd_o180 kd_ncX10_hold rfl
theorem dX10_hold_40 : decode cX10_hold 40 = .ok (.iload_n 2, 1) := kd_dk0 kd_o28 kd_ncX10_hold rfl
theorem dX10_hold_41 : decode cX10_hold 41 = .ok (.iaload, 1) := kd_dk0 kd_o46 kd_ncX10_hold rfl
theorem dX10_hold_42 : decode cX10_hold 42 = .ok (.iastore, 1) := kd_dk0 kd_o79 kd_ncX10_hold rfl
theorem dX10_hold_43 : decode cX10_hold 43 = .ok (.iinc 2 1, 3) := kd_dji kd_o132 (w := 1) kd_ncX10_hold rfl rfl
theorem dX10_hold_46 : decode cX10_hold 46 = .ok (.goto (-26), 3) := kd_dj2 kd_o167 (w := 65510) kd_ncX10_hold rfl rfl
theorem dX10_hold_49 : decode cX10_hold 49 = .ok (.iconst 1, 1) := kd_dk0 kd_o4 kd_ncX10_hold rfl
theorem dX10_hold_50 : decode cX10_hold 50 = .ok (.ireturn, 1) := kd_dk0 kd_o172 kd_ncX10_hold rfl
set_option maxHeartbeats 8000000 in
set_option maxRecDepth 100000 in
theorem c_x_hold (l : Launch) (G : zz_G) (r : Nat → Nat) (j0 : Int32) (j2 : Int32) (j4 : Int32) (j10 : Int32) (j11 : Int32) (j12 : Int32) (j13 : Int32) (j14 : Int32) (j15 : Int32) (j16 : Int32) (j17 : Int32) (j18 : Int32) (j19 : Int32) (j20 : Int32) (j34 : Int32) (j40 : Int32) (j44 : Int32) (j47 : Int32) (j50 : Int32) (j51 : Int32) (j56 : Int32) (j61 : Int32) (c48 : Nat → Int32) (c65 : Nat → Int32) (c66 : Nat → Int32) (ar1 : Int32) : zz_M l G mX10_hold 1 0 0 [.ref (r 0), .int ar1] [((r 0), .inr (10, (zz_mo r [(0, j0), (2, j2), (4, j4), (10, j10), (11, j11), (12, j12), (13, j13), (14, j14), (15, j15), (16, j16), (17, j17), (18, j18), (19, j19), (20, j20), (34, j34), (40, j40), (44, j44), (47, j47), (50, j50), (51, j51), (56, j56), (61, j61)]))), ((r 48), .inl (G.2 0, 71, .inl c48)), ((r 65), .inl (G.2 2, 3, .inl c65)), ((r 66), .inl (G.2 0, 213, .inl c66))] (fun rr u => ∃ (rv : Int32), ∃ (d65 : Nat → Int32), ∃ (d66 : Nat → Int32), rr = some (.int rv) ∧ u = [((r 0), .inr (10, (zz_mo r [(0, j0), (2, j2), (4, j4), (10, j10), (11, j11), (12, j12), (13, j13), (14, j14), (15, j15), (16, j16), (17, j17), (18, j18), (19, j19), (20, j20), (34, j34), (40, j40), (44, j44), (47, j47), (50, j50), (51, j51), (56, j56), (61, j61)]))), ((r 48), .inl (G.2 0, 71, .inl c48)), ((r 65), .inl (G.2 2, 3, .inl d65)), ((r 66), .inl (G.2 0, 213, .inl d66))] ∧ (rv = zz_inn ar1 0 2) ∧ (zz_hle ar1 c65 d65) ∧ (zy_hR ar1 c48 c66 d66) ∧ (rv = 0 ∨ rv = 1)) := by
  refine zz_enteri (by decide +kernel) (Nat.le_of_ble_eq_true rfl) ?_
  intro p e s m args below meth c A Q ls S hnm hret hw hl
  have hl : lv_has ls 3 [(0, .ref (r 0)), (1, .int ar1)] := hl
  have hx := S.1
  have hb := S.2.1
  refine lv_iload_n hx hb dX10_hold_0 rfl (lv_at hl 1 rfl) ?_
  refine lv_iconst (v := 0) hx hb dX10_hold_1 (by decide) ?_
  refine lv_iconst (v := 2) hx hb dX10_hold_2 (by decide) ?_
  refine zz_callS (As := [.int ar1, .int 0, .int 2]) (rest := []) (wr := [((r 0), .inr (10, (zz_mo r [(0, j0), (2, j2), (4, j4), (10, j10), (11, j11), (12, j12), (13, j13), (14, j14), (15, j15), (16, j16), (17, j17), (18, j18), (19, j19), (20, j20), (34, j34), (40, j40), (44, j44), (47, j47), (50, j50), (51, j51), (56, j56), (61, j61)]))), ((r 48), .inl (G.2 0, 71, .inl c48)), ((r 65), .inl (G.2 2, 3, .inl c65)), ((r 66), .inl (G.2 0, 213, .inl c66))]) S hw hl.1 lX10_313 (c_x_in l G ar1 0 2) ⟨Nat.le_of_ble_eq_true rfl, Nat.le_of_ble_eq_true rfl⟩ ⟨Nat.le_of_ble_eq_true rfl, Nat.le_of_ble_eq_true rfl⟩ [] [0, 1, 2, 3] (by decide) rfl rfl (by decide) (by decide) rfl rfl (Nat.le_of_ble_eq_true rfl) dX10_hold_3 ?_
  clear hw
  intro rr u H locs hp hw
  refine hp.elim fun rv_1 zg0 => zg0.elim fun zee1 zg1 => zg1.elim fun zee2 zg2 => zg2.elim fun hq3_0 zg3 => zg3.elim fun hq3_1 hq3_2 => ?_
  clear hp zg0 zg1 zg2 zg3
  subst zee1
  subst zee2
  replace hw : zz_w G A s [((r 0), .inr (10, (zz_mo r [(0, j0), (2, j2), (4, j4), (10, j10), (11, j11), (12, j12), (13, j13), (14, j14), (15, j15), (16, j16), (17, j17), (18, j18), (19, j19), (20, j20), (34, j34), (40, j40), (44, j44), (47, j47), (50, j50), (51, j51), (56, j56), (61, j61)]))), ((r 48), .inl (G.2 0, 71, .inl c48)), ((r 65), .inl (G.2 2, 3, .inl c65)), ((r 66), .inl (G.2 0, 213, .inl c66))] H _ := hw
  refine W.eq (g2 := F0 m 6 ls [.int rv_1]) rfl ?_
  refine lv_if_ne (tgt := 11) hx hb dX10_hold_6 (by decide) (fun c6_2 => ?_) (fun c6_2 => ?_)
  · skip
    have hq3_0i := hq3_0.resolve_left c6_2
    obtain ⟨vq3, hvq3, rfl⟩ : ∃ k : Nat, k ≤ 2 ∧ ar1 = nI k := zz_rng (zz_lo0 hq3_0i.1) hq3_0i.2 (by omega)
    refine lv_aload_n hx hb dX10_hold_11 rfl (lv_at hl 0 rfl) ?_
    refine zz_get (v := .ref (r 65)) S hw fgX10_149 0 rfl rfl dX10_hold_12 ?_
    refine lv_iload_n hx hb dX10_hold_15 rfl (lv_at hl 1 rfl) ?_
    refine lv_iconst (v := 1) hx hb dX10_hold_16 (by decide) ?_
    obtain ⟨vF4, evF4⟩ : ∃ z : Nat → Int32, upd c65 ((nI vq3) : Int32).toNatClampNeg (vp_nar .boolean 1) = z := ⟨_, rfl⟩
    refine zz_zast (ws' := [((r 0), .inr (10, (zz_mo r [(0, j0), (2, j2), (4, j4), (10, j10), (11, j11), (12, j12), (13, j13), (14, j14), (15, j15), (16, j16), (17, j17), (18, j18), (19, j19), (20, j20), (34, j34), (40, j40), (44, j44), (47, j47), (50, j50), (51, j51), (56, j56), (61, j61)]))), ((r 48), .inl (G.2 0, 71, .inl c48)), ((r 65), .inl (G.2 2, 3, .inl vF4)), ((r 66), .inl (G.2 0, 213, .inl c66))]) (g := vF4) S hw 2 rfl (vp_in_nI (n := vq3) (by omega) (by decide)) (evF4) rfl dX10_hold_17 ?_
    clear hw
    intro H locs hw
    refine lv_iconst (v := 0) hx hb dX10_hold_18 (by decide) ?_
    refine lv_istore_n (lv' := [(2, .int 0), (0, .ref (r 0)), (1, .int (nI vq3))]) hx hb dX10_hold_19 rfl hl (by decide) rfl (fun ls hl => ?_)
    have lp20_11 : ∀ (vn6 vi5 : Nat) (vF8 : Nat → Int32) (H : Heap) (locs : List Loc) (ls : Array Slot), vi5 ≤ 71 → 71 < vi5 + vn6 → zy_pt vi5 (71 * vq3) c66 c48 vF8 → zz_w G A s [((r 0), .inr (10, (zz_mo r [(0, j0), (2, j2), (4, j4), (10, j10), (11, j11), (12, j12), (13, j13), (14, j14), (15, j15), (16, j16), (17, j17), (18, j18), (19, j19), (20, j20), (34, j34), (40, j40), (44, j44), (47, j47), (50, j50), (51, j51), (56, j56), (61, j61)]))), ((r 48), .inl (G.2 0, 71, .inl c48)), ((r 65), .inl (G.2 2, 3, .inl vF4)), ((r 66), .inl (G.2 0, 213, .inl vF8))] H locs → lv_has ls 3 [(2, .int (nI vi5)), (0, .ref (r 0)), (1, .int (nI vq3))] → W p l e (zz_rm 1 0 0) s m args below meth c H locs (0) (0) Q (F0 m 20 ls []) := by
      intro vn6
      induction vn6 with
      | zero => intro vi5 vF8 H locs ls hi1 hi2; exact absurd hi2 (by omega)
      | succ vn6 ih20 =>
        intro vi5 vF8 H locs ls hi20a hi20b hv20_10 hw hl
        refine lv_iload_n hx hb dX10_hold_20 rfl (lv_at hl 0 rfl) ?_
        refine lv_bipush (v := 71) hx hb dX10_hold_21 (by decide) ?_
        refine lv_icmp_ge (tgt := 49) hx hb dX10_hold_23 (by decide) (fun c23_12 => ?_) (fun c23_12 => ?_)
        · skip
          have c23_12n : 71 ≤ vi5 := (zz_le (a := 71) (b := vi5) rfl rfl (by omega) (by omega)).mp c23_12
          refine lv_iconst (v := 1) hx hb dX10_hold_49 (by decide) ?_
          refine W.eq (g2 := F0 m 50 ls [.int 1]) rfl ?_
          exact hret _ _ _ _ _ _ ⟨1, vF4, vF8, rfl, rfl, (by first | exact zz_inn0 (by assumption) (by assumption) | exact zz_inn1 (by assumption) (by assumption)), (by first | exact zz_hl0 (by assumption) (by assumption) | exact zz_hl_0 (by assumption) | exact zz_hl_1 (by assumption) | exact zz_hl_2 (by assumption) | exact zz_hl_k (by omega) (by assumption)), (by first | exact zy_hR1 (by omega) hv20_10 (by omega) | exact zy_hR0 (by assumption) (by assumption)), (by first | exact Or.inl rfl | exact Or.inr rfl | assumption)⟩ hw rfl dX10_hold_50
        · skip
          have c23_12n : ¬ (71 ≤ vi5) := fun z => c23_12 ((zz_le (a := 71) (b := vi5) rfl rfl (by omega) (by omega)).mpr z)
          refine lv_aload_n hx hb dX10_hold_26 rfl (lv_at hl 1 rfl) ?_
          refine zz_get (v := .ref (r 66)) S hw fgX10_152 0 rfl rfl dX10_hold_27 ?_
          refine lv_bipush (v := 71) hx hb dX10_hold_30 (by decide) ?_
          refine lv_iload_n hx hb dX10_hold_32 rfl (lv_at hl 2 rfl) ?_
          refine lv_imul hx hb dX10_hold_33 ?_
          refine zz_topi (y := (nI (71 * vq3))) (pk_mul _ _) ?_
          refine lv_iload_n hx hb dX10_hold_34 rfl (lv_at hl 0 rfl) ?_
          refine lv_iadd hx hb dX10_hold_35 ?_
          refine zz_topi (y := (nI ((71 * vq3) + vi5))) (nI_add _ _) ?_
          refine lv_aload_n hx hb dX10_hold_36 rfl (lv_at hl 1 rfl) ?_
          refine zz_get (v := .ref (r 48)) S hw fgX10_110 0 rfl rfl dX10_hold_37 ?_
          refine lv_iload_n hx hb dX10_hold_40 rfl (lv_at hl 0 rfl) ?_
          refine zz_iald (v := (c48 vi5)) S hw 1 rfl (vp_in_nI (n := vi5) (by omega) (by decide)) (congrArg c48 (nI_clamp (n := vi5) (by omega))) dX10_hold_41 ?_
          refine zz_iast (ws' := [((r 0), .inr (10, (zz_mo r [(0, j0), (2, j2), (4, j4), (10, j10), (11, j11), (12, j12), (13, j13), (14, j14), (15, j15), (16, j16), (17, j17), (18, j18), (19, j19), (20, j20), (34, j34), (40, j40), (44, j44), (47, j47), (50, j50), (51, j51), (56, j56), (61, j61)]))), ((r 48), .inl (G.2 0, 71, .inl c48)), ((r 65), .inl (G.2 2, 3, .inl vF4)), ((r 66), .inl (G.2 0, 213, .inl (upd vF8 ((71 * vq3) + vi5) (c48 vi5))))]) (g := (upd vF8 ((71 * vq3) + vi5) (c48 vi5))) S hw 3 rfl (vp_in_nI (n := ((71 * vq3) + vi5)) (by omega) (by decide)) (zz_upn (n := ((71 * vq3) + vi5)) (by omega)) rfl dX10_hold_42 ?_
          clear hw
          intro H locs hw
          refine lv_iinc (v := (nI (vi5 + 1))) (lv' := [(2, .int (nI (vi5 + 1))), (0, .ref (r 0)), (1, .int (nI vq3))]) hx hb dX10_hold_43 hl (k := 0) rfl (nI_add _ 1) (by decide) rfl (fun ls hl => ?_)
          refine lv_goto (tgt := 20) hx hb dX10_hold_46 (by decide) ?_
          refine W.eq (g2 := F0 m 20 ls []) rfl ?_
          exact ih20 (vi5 + 1) (upd vF8 ((71 * vq3) + vi5) (c48 vi5)) _ _ _ (by omega) (by omega) (zy_pt1 hv20_10) hw (lv_sub hl [0, 1, 2] rfl)
    exact lp20_11 (71 + 1 - 0) 0 c66 _ _ _ (by omega) (by omega) zy_pt0 hw (lv_sub hl [0, 1, 2] rfl)
  · skip
    refine lv_iconst (v := 0) hx hb dX10_hold_9 (by decide) ?_
    exact hret _ _ _ _ _ _ ⟨0, c65, c66, rfl, rfl, (by first | exact zz_inn0 (by assumption) (by assumption) | exact zz_inn1 (by assumption) (by assumption)), (by first | exact zz_hl0 (by assumption) (by assumption) | exact zz_hl_0 (by assumption) | exact zz_hl_1 (by assumption) | exact zz_hl_2 (by assumption) | exact zz_hl_k (by omega) (by assumption)), (by first | exact zy_hR1 (by omega) hdry (by omega) | exact zy_hR0 (by assumption) (by assumption)), (by first | exact Or.inl rfl | exact Or.inr rfl | assumption)⟩ hw rfl dX10_hold_10
theorem kd_ncX10_restore : kd_ck 32007791231220099610208104952433839857533548709790064052104962602782333304539473134469717199192381368571281723104210596378165050066365383451 58 cX10_restore.data.toList 0 = true := by decide +kernel
theorem dX10_restore_0 : decode cX10_restore 0 = .ok (.iload_n 1, 1) := kd_dk0 kd_o27 kd_ncX10_restore rfl
theorem dX10_restore_1 : decode cX10_restore 1 = .ok (.iconst 0, 1) := kd_dk0 kd_o3 kd_ncX10_restore rfl
theorem dX10_restore_2 : decode cX10_restore 2 = .ok (.iconst 2, 1) := kd_dk0 kd_o5 kd_ncX10_restore rfl
theorem dX10_restore_3 : decode cX10_restore 3 = .ok (.invokestatic 313, 3) := kd_dk2 kd_o184 kd_ncX10_restore rfl
theorem dX10_restore_6 : decode cX10_restore 6 = .ok (.ifCond .eq 12, 3) := kd_dj2 kd_o153 (w := 12) kd_ncX10_restore rfl rfl
theorem dX10_restore_9 : decode cX10_restore 9 = .ok (.aload_n 0, 1) := kd_dk0 kd_o42 kd_ncX10_restore rfl
theorem dX10_restore_10 : decode cX10_restore 10 = .ok (.getfield 149, 3) := kd_dk2 kd_o180 kd_ncX10_restore rfl
theorem dX10_restore_13 : decode cX10_restore 13 = .ok (.iload_n 1, 1) := kd_dk0 kd_o27 kd_ncX10_restore rfl
theorem dX10_restore_14 : decode cX10_restore 14 = .ok (.baload, 1) := kd_dk0 kd_o51 kd_ncX10_restore rfl
theorem dX10_restore_15 : decode cX10_restore 15 = .ok (.ifCond .ne 5, 3) := kd_dj2 kd_o154 (w := 5) kd_ncX10_restore rfl rfl
theorem dX10_restore_18 : decode cX10_restore 18 = .ok (.iconst 0, 1) := kd_dk0 kd_o3 kd_ncX10_restore rfl
theorem dX10_restore_19 : decode cX10_restore 19 = .ok (.ireturn, 1) := kd_dk0 kd_o172 kd_ncX10_restore rfl
theorem dX10_restore_20 : decode cX10_restore 20 = .ok (.iconst 0, 1) := kd_dk0 kd_o3 kd_ncX10_restore rfl
theorem dX10_restore_21 : decode cX10_restore 21 = .ok (.istore_n 2, 1) := kd_dk0 kd_o61 kd_ncX10_restore rfl
theorem dX10_restore_22 : decode cX10_restore 22 = .ok (.iload_n 2, 1) := kd_dk0 kd_o28 kd_ncX10_restore rfl
theorem dX10_restore_23 : decode cX10_restore 23 = .ok (.bipush 71, 2) := kd_dj1 kd_o16 (w := 71) kd_ncX10_restore rfl rfl
theorem dX10_restore_25 : decode cX10_restore 25 = .ok (.if_icmp .ge 26, 3) := kd_dj2 kd_o162 (w := 26) kd_ncX10_restore rfl rfl
theorem dX10_restore_28 : decode cX10_restore 28 = .ok (.aload_n 0, 1) := kd_dk0 kd_o42 kd_ncX10_restore rfl
theorem dX10_restore_29 : decode cX10_restore 29 = .ok (.getfield 110, 3) := kd_dk2 kd_o180 kd_ncX10_restore rfl
theorem dX10_restore_32 : decode cX10_restore 32 = .ok (.iload_n 2, 1) := kd_dk0 kd_o28 kd_ncX10_restore rfl
theorem dX10_restore_33 : decode cX10_restore 33 = .ok (.aload_n 0, 1) := kd_dk0 kd_o42 kd_ncX10_restore rfl
theorem dX10_restore_34 : decode cX10_restore 34 = .ok (.getfield 152, 3) := kd_dk2 kd_o180 kd_ncX10_restore rfl
theorem dX10_restore_37 : decode cX10_restore 37 = .ok (.bipush 71, 2) := kd_dj1 kd_o16 (w := 71) kd_ncX10_restore rfl rfl
theorem dX10_restore_39 : decode cX10_restore 39 = .ok (.iload_n 1, 1) := kd_dk0 kd_o27 kd_ncX10_restore rfl
theorem dX10_restore_40 : decode cX10_restore 40 = .ok (.imul, 1) := kd_dk0 kd_o104 kd_ncX10_restore rfl
theorem dX10_restore_41 : decode cX10_restore 41 = .ok (.iload_n 2, 1) := kd_dk0 kd_o28 kd_ncX10_restore rfl
theorem dX10_restore_42 : decode cX10_restore 42 = .ok (.iadd, 1) := kd_dk0 kd_o96 kd_ncX10_restore rfl
theorem dX10_restore_43 : decode cX10_restore 43 = .ok (.iaload, 1) := kd_dk0 kd_o46 kd_ncX10_restore rfl
theorem dX10_restore_44 : decode cX10_restore 44 = .ok (.iastore, 1) := kd_dk0 kd_o79 kd_ncX10_restore rfl
theorem dX10_restore_45 : decode cX10_restore 45 = .ok (.iinc 2 1, 3) := kd_dji kd_o132 (w := 1) kd_ncX10_restore rfl rfl
theorem dX10_restore_48 : decode cX10_restore 48 = .ok (.goto (-26), 3) := kd_dj2 kd_o167 (w := 65510) kd_ncX10_restore rfl rfl
theorem dX10_restore_51 : decode cX10_restore 51 = .ok (.aload_n 0, 1) := kd_dk0 kd_o42 kd_ncX10_restore rfl
theorem dX10_restore_52 : decode cX10_restore 52 = .ok (.iconst 0, 1) := kd_dk0 kd_o3 kd_ncX10_restore rfl
theorem dX10_restore_53 : decode cX10_restore 53 = .ok (.putfield 254, 3) := kd_dk2 kd_o181 kd_ncX10_restore rfl
theorem dX10_restore_56 : decode cX10_restore 56 = .ok (.iconst 1, 1) := kd_dk0 kd_o4 kd_ncX10_restore rfl
theorem dX10_restore_57 : decode cX10_restore 57 = .ok (.ireturn, 1) := kd_dk0 kd_o172 kd_ncX10_restore rfl
set_option maxHeartbeats 8000000 in
set_option maxRecDepth 100000 in
theorem c_x_restore (l : Launch) (G : zz_G) (r : Nat → Nat) (j0 : Int32) (j2 : Int32) (j4 : Int32) (j10 : Int32) (j11 : Int32) (j12 : Int32) (j13 : Int32) (j14 : Int32) (j15 : Int32) (j16 : Int32) (j17 : Int32) (j18 : Int32) (j19 : Int32) (j20 : Int32) (j34 : Int32) (j40 : Int32) (j44 : Int32) (j47 : Int32) (j50 : Int32) (j51 : Int32) (j61 : Int32) (c48 : Nat → Int32) (c65 : Nat → Int32) (c66 : Nat → Int32) (ar1 : Int32) (un : Nat) (hun : un ≤ 40) : zz_M l G mX10_restore 1 0 0 [.ref (r 0), .int ar1] [((r 0), .inr (10, (zz_mo r [(0, j0), (2, j2), (4, j4), (10, j10), (11, j11), (12, j12), (13, j13), (14, j14), (15, j15), (16, j16), (17, j17), (18, j18), (19, j19), (20, j20), (34, j34), (40, j40), (44, j44), (47, j47), (50, j50), (51, j51), (56, (nI un)), (61, j61)]))), ((r 48), .inl (G.2 0, 71, .inl c48)), ((r 65), .inl (G.2 2, 3, .inl c65)), ((r 66), .inl (G.2 0, 213, .inl c66))] (fun rr u => ∃ (rv : Int32), ∃ (un2 : Nat), ∃ (d48 : Nat → Int32), rr = some (.int rv) ∧ u = [((r 0), .inr (10, (zz_mo r [(0, j0), (2, j2), (4, j4), (10, j10), (11, j11), (12, j12), (13, j13), (14, j14), (15, j15), (16, j16), (17, j17), (18, j18), (19, j19), (20, j20), (34, j34), (40, j40), (44, j44), (47, j47), (50, j50), (51, j51), (56, (nI un2)), (61, j61)]))), ((r 48), .inl (G.2 0, 71, .inl d48)), ((r 65), .inl (G.2 2, 3, .inl c65)), ((r 66), .inl (G.2 0, 213, .inl c66))] ∧ (un2 ≤ 40) ∧ (zz_rse ar1 c65 rv) ∧ (zy_sR ar1 c48 c66 un rv un2 d48) ∧ (rv = 0 ∨ rv = 1)) := by
  refine zz_enteri (by decide +kernel) (Nat.le_of_ble_eq_true rfl) ?_
  intro p e s m args below meth c A Q ls S hnm hret hw hl
  have hl : lv_has ls 3 [(0, .ref (r 0)), (1, .int ar1)] := hl
  have hx := S.1
  have hb := S.2.1
  refine lv_iload_n hx hb dX10_restore_0 rfl (lv_at hl 1 rfl) ?_
  refine lv_iconst (v := 0) hx hb dX10_restore_1 (by decide) ?_
  refine lv_iconst (v := 2) hx hb dX10_restore_2 (by decide) ?_
  refine zz_callS (As := [.int ar1, .int 0, .int 2]) (rest := []) (wr := [((r 0), .inr (10, (zz_mo r [(0, j0), (2, j2), (4, j4), (10, j10), (11, j11), (12, j12), (13, j13), (14, j14), (15, j15), (16, j16), (17, j17), (18, j18), (19, j19), (20, j20), (34, j34), (40, j40), (44, j44), (47, j47), (50, j50), (51, j51), (56, (nI un)), (61, j61)]))), ((r 48), .inl (G.2 0, 71, .inl c48)), ((r 65), .inl (G.2 2, 3, .inl c65)), ((r 66), .inl (G.2 0, 213, .inl c66))]) S hw hl.1 lX10_313 (c_x_in l G ar1 0 2) ⟨Nat.le_of_ble_eq_true rfl, Nat.le_of_ble_eq_true rfl⟩ ⟨Nat.le_of_ble_eq_true rfl, Nat.le_of_ble_eq_true rfl⟩ [] [0, 1, 2, 3] (by decide) rfl rfl (by decide) (by decide) rfl rfl (Nat.le_of_ble_eq_true rfl) dX10_restore_3 ?_
  clear hw
  intro rr u H locs hp hw
  refine hp.elim fun rv_1 zg0 => zg0.elim fun zee1 zg1 => zg1.elim fun zee2 zg2 => zg2.elim fun hq3_0 zg3 => zg3.elim fun hq3_1 hq3_2 => ?_
  clear hp zg0 zg1 zg2 zg3
  subst zee1
  subst zee2
  replace hw : zz_w G A s [((r 0), .inr (10, (zz_mo r [(0, j0), (2, j2), (4, j4), (10, j10), (11, j11), (12, j12), (13, j13), (14, j14), (15, j15), (16, j16), (17, j17), (18, j18), (19, j19), (20, j20), (34, j34), (40, j40), (44, j44), (47, j47), (50, j50), (51, j51), (56, (nI un)), (61, j61)]))), ((r 48), .inl (G.2 0, 71, .inl c48)), ((r 65), .inl (G.2 2, 3, .inl c65)), ((r 66), .inl (G.2 0, 213, .inl c66))] H _ := hw
  refine W.eq (g2 := F0 m 6 ls [.int rv_1]) rfl ?_
  refine lv_if_eq (tgt := 18) hx hb dX10_restore_6 (by decide) (fun c6_2 => ?_) (fun c6_2 => ?_)
  · skip
    refine lv_iconst (v := 0) hx hb dX10_restore_18 (by decide) ?_
    exact hret _ _ _ _ _ _ ⟨0, un, c48, rfl, rfl, (by omega), (by first | exact zz_rs0 (by assumption) (by assumption) | exact zz_rs1 (by assumption) (by omega) | exact zz_rs2 (by assumption) (by omega)), (by first | exact zy_sR1 (by omega) hdry (by omega) | exact Or.inl ⟨rfl, rfl, rfl⟩), (by first | exact Or.inl rfl | exact Or.inr rfl | assumption)⟩ hw rfl dX10_restore_19
  · skip
    have hq3_0i := hq3_0.resolve_left c6_2
    obtain ⟨vq3, hvq3, rfl⟩ : ∃ k : Nat, k ≤ 2 ∧ ar1 = nI k := zz_rng (zz_lo0 hq3_0i.1) hq3_0i.2 (by omega)
    refine lv_aload_n hx hb dX10_restore_9 rfl (lv_at hl 0 rfl) ?_
    refine zz_get (v := .ref (r 65)) S hw fgX10_149 0 rfl rfl dX10_restore_10 ?_
    refine lv_iload_n hx hb dX10_restore_13 rfl (lv_at hl 1 rfl) ?_
    refine zz_zald (v := (c65 vq3)) S hw 2 rfl (vp_in_nI (n := vq3) (by omega) (by decide)) (congrArg c65 (nI_clamp (n := vq3) (by omega))) dX10_restore_14 ?_
    refine lv_if_ne (tgt := 20) hx hb dX10_restore_15 (by decide) (fun c15_4 => ?_) (fun c15_4 => ?_)
    · skip
      refine lv_iconst (v := 0) hx hb dX10_restore_20 (by decide) ?_
      refine lv_istore_n (lv' := [(2, .int 0), (0, .ref (r 0)), (1, .int (nI vq3))]) hx hb dX10_restore_21 rfl hl (by decide) rfl (fun ls hl => ?_)
      have lp22_11 : ∀ (vn6 vi5 : Nat) (vF8 : Nat → Int32) (H : Heap) (locs : List Loc) (ls : Array Slot), vi5 ≤ 71 → 71 < vi5 + vn6 → zy_q vi5 (fun j => c66 (71 * vq3 + j)) vF8 → zz_w G A s [((r 0), .inr (10, (zz_mo r [(0, j0), (2, j2), (4, j4), (10, j10), (11, j11), (12, j12), (13, j13), (14, j14), (15, j15), (16, j16), (17, j17), (18, j18), (19, j19), (20, j20), (34, j34), (40, j40), (44, j44), (47, j47), (50, j50), (51, j51), (56, (nI un)), (61, j61)]))), ((r 48), .inl (G.2 0, 71, .inl vF8)), ((r 65), .inl (G.2 2, 3, .inl c65)), ((r 66), .inl (G.2 0, 213, .inl c66))] H locs → lv_has ls 3 [(2, .int (nI vi5)), (0, .ref (r 0)), (1, .int (nI vq3))] → W p l e (zz_rm 1 0 0) s m args below meth c H locs (0) (0) Q (F0 m 22 ls []) := by
        intro vn6
        induction vn6 with
        | zero => intro vi5 vF8 H locs ls hi1 hi2; exact absurd hi2 (by omega)
        | succ vn6 ih22 =>
          intro vi5 vF8 H locs ls hi22a hi22b hv22_10 hw hl
          refine lv_iload_n hx hb dX10_restore_22 rfl (lv_at hl 0 rfl) ?_
          refine lv_bipush (v := 71) hx hb dX10_restore_23 (by decide) ?_
          refine lv_icmp_ge (tgt := 51) hx hb dX10_restore_25 (by decide) (fun c25_12 => ?_) (fun c25_12 => ?_)
          · skip
            have c25_12n : 71 ≤ vi5 := (zz_le (a := 71) (b := vi5) rfl rfl (by omega) (by omega)).mp c25_12
            refine lv_aload_n hx hb dX10_restore_51 rfl (lv_at hl 1 rfl) ?_
            refine W.eq (g2 := F0 m 52 ls [.ref (r 0)]) rfl ?_
            refine lv_iconst (v := 0) hx hb dX10_restore_52 (by decide) ?_
            refine zz_put (ws' := [((r 0), .inr (10, (zz_mo r [(0, j0), (2, j2), (4, j4), (10, j10), (11, j11), (12, j12), (13, j13), (14, j14), (15, j15), (16, j16), (17, j17), (18, j18), (19, j19), (20, j20), (34, j34), (40, j40), (44, j44), (47, j47), (50, j50), (51, j51), (61, j61)]))), ((r 48), .inl (G.2 0, 71, .inl vF8)), ((r 65), .inl (G.2 2, 3, .inl c65)), ((r 66), .inl (G.2 0, 213, .inl c66))]) (v := .int 0) S hw fpX10_254 0 rfl rfl rfl (Nat.le_of_ble_eq_true rfl) rfl dX10_restore_53 ?_
            clear hw
            intro H locs hw
            refine lv_iconst (v := 1) hx hb dX10_restore_56 (by decide) ?_
            exact hret _ _ _ _ _ _ ⟨1, 0, vF8, rfl, rfl, (by omega), (by first | exact zz_rs0 (by assumption) (by assumption) | exact zz_rs1 (by assumption) (by omega) | exact zz_rs2 (by assumption) (by omega)), (by first | exact zy_sR1 (by omega) hv22_10 (by omega) | exact Or.inl ⟨rfl, rfl, rfl⟩), (by first | exact Or.inl rfl | exact Or.inr rfl | assumption)⟩ hw rfl dX10_restore_57
          · skip
            have c25_12n : ¬ (71 ≤ vi5) := fun z => c25_12 ((zz_le (a := 71) (b := vi5) rfl rfl (by omega) (by omega)).mpr z)
            refine lv_aload_n hx hb dX10_restore_28 rfl (lv_at hl 1 rfl) ?_
            refine zz_get (v := .ref (r 48)) S hw fgX10_110 0 rfl rfl dX10_restore_29 ?_
            refine lv_iload_n hx hb dX10_restore_32 rfl (lv_at hl 0 rfl) ?_
            refine lv_aload_n hx hb dX10_restore_33 rfl (lv_at hl 1 rfl) ?_
            refine zz_get (v := .ref (r 66)) S hw fgX10_152 0 rfl rfl dX10_restore_34 ?_
            refine lv_bipush (v := 71) hx hb dX10_restore_37 (by decide) ?_
            refine lv_iload_n hx hb dX10_restore_39 rfl (lv_at hl 2 rfl) ?_
            refine lv_imul hx hb dX10_restore_40 ?_
            refine zz_topi (y := (nI (71 * vq3))) (pk_mul _ _) ?_
            refine lv_iload_n hx hb dX10_restore_41 rfl (lv_at hl 0 rfl) ?_
            refine lv_iadd hx hb dX10_restore_42 ?_
            refine zz_topi (y := (nI ((71 * vq3) + vi5))) (nI_add _ _) ?_
            refine zz_iald (v := (c66 ((71 * vq3) + vi5))) S hw 3 rfl (vp_in_nI (n := ((71 * vq3) + vi5)) (by omega) (by decide)) (congrArg c66 (nI_clamp (n := ((71 * vq3) + vi5)) (by omega))) dX10_restore_43 ?_
            refine W.eq (g2 := F0 m 44 ls [.int (c66 ((71 * vq3) + vi5)), .int (nI vi5), .ref (r 48)]) rfl ?_
            refine zz_iast (ws' := [((r 0), .inr (10, (zz_mo r [(0, j0), (2, j2), (4, j4), (10, j10), (11, j11), (12, j12), (13, j13), (14, j14), (15, j15), (16, j16), (17, j17), (18, j18), (19, j19), (20, j20), (34, j34), (40, j40), (44, j44), (47, j47), (50, j50), (51, j51), (56, (nI un)), (61, j61)]))), ((r 48), .inl (G.2 0, 71, .inl (upd vF8 vi5 (c66 ((71 * vq3) + vi5))))), ((r 65), .inl (G.2 2, 3, .inl c65)), ((r 66), .inl (G.2 0, 213, .inl c66))]) (g := (upd vF8 vi5 (c66 ((71 * vq3) + vi5)))) S hw 1 rfl (vp_in_nI (n := vi5) (by omega) (by decide)) (zz_upn (n := vi5) (by omega)) rfl dX10_restore_44 ?_
            clear hw
            intro H locs hw
            refine lv_iinc (v := (nI (vi5 + 1))) (lv' := [(2, .int (nI (vi5 + 1))), (0, .ref (r 0)), (1, .int (nI vq3))]) hx hb dX10_restore_45 hl (k := 0) rfl (nI_add _ 1) (by decide) rfl (fun ls hl => ?_)
            refine lv_goto (tgt := 22) hx hb dX10_restore_48 (by decide) ?_
            exact ih22 (vi5 + 1) (upd vF8 vi5 (c66 ((71 * vq3) + vi5))) _ _ _ (by omega) (by omega) (zy_qs hv22_10 rfl) hw (lv_sub hl [0, 1, 2] rfl)
      exact lp22_11 (71 + 1 - 0) 0 c48 _ _ _ (by omega) (by omega) zy_q0 hw (lv_sub hl [0, 1, 2] rfl)
    · skip
      refine lv_iconst (v := 0) hx hb dX10_restore_18 (by decide) ?_
      exact hret _ _ _ _ _ _ ⟨0, un, c48, rfl, rfl, (by omega), (by first | exact zz_rs0 (by assumption) (by assumption) | exact zz_rs1 (by assumption) (by omega) | exact zz_rs2 (by assumption) (by omega)), (by first | exact zy_sR1 (by omega) hdry (by omega) | exact Or.inl ⟨rfl, rfl, rfl⟩), (by first | exact Or.inl rfl | exact Or.inr rfl | assumption)⟩ hw rfl dX10_restore_19
theorem kd_ncX10_apartAll : kd_ck 2098749258328999704159949880472119296784571183663936592996148231817297764481009176256818255860186562960374084772956854541346551131555973080235011 60 cX10_apartAll.data.toList 0 = true := by decide +kernel
theorem dX10_apartAll_0 : decode cX10_apartAll 0 = .ok (.iconst 0, 1) := kd_dk0 kd_o3 kd_ncX10_apartAll rfl
theorem dX10_apartAll_1 : decode cX10_apartAll 1 = .ok (.istore_n 1, 1) := kd_dk0 kd_o60 kd_ncX10_apartAll rfl
theorem dX10_apartAll_2 : decode cX10_apartAll 2 = .ok (.iconst 0, 1) := kd_dk0 kd_o3 kd_ncX10_apartAll rfl
theorem dX10_apartAll_3 : decode cX10_apartAll 3 = .ok (.istore_n 2, 1) := kd_dk0 kd_o61 kd_ncX10_apartAll rfl
theorem dX10_apartAll_4 : decode cX10_apartAll 4 = .ok (.iload_n 2, 1) := kd_dk0 kd_o28 kd_ncX10_apartAll rfl
theorem dX10_apartAll_5 : decode cX10_apartAll 5 = .ok (.aload_n 0, 1) := kd_dk0 kd_o42 kd_ncX10_apartAll rfl
theorem dX10_apartAll_6 : decode cX10_apartAll 6 = .ok (.getfield 55, 3) := kd_dk2 kd_o180 kd_ncX10_apartAll rfl
theorem dX10_apartAll_9 : decode cX10_apartAll 9 = .ok (.aload_n 0, 1) := kd_dk0 kd_o42 kd_ncX10_apartAll rfl
theorem dX10_apartAll_10 : decode cX10_apartAll 10 = .ok (.getfield 236, 3) := kd_dk2 kd_o180 kd_ncX10_apartAll rfl
theorem dX10_apartAll_13 : decode cX10_apartAll 13 = .ok (.iaload, 1) := kd_dk0 kd_o46 kd_ncX10_apartAll rfl
theorem dX10_apartAll_14 : decode cX10_apartAll 14 = .ok (.if_icmp .ge 44, 3) := kd_dj2 kd_o162 (w := 44) kd_ncX10_apartAll rfl rfl
theorem dX10_apartAll_17 : decode cX10_apartAll 17 = .ok (.aload_n 0, 1) := kd_dk0 kd_o42 kd_ncX10_apartAll rfl
theorem dX10_apartAll_18 : decode cX10_apartAll 18 = .ok (.getfield 116, 3) := kd_dk2 kd_o180 kd_ncX10_apartAll rfl
theorem dX10_apartAll_21 : decode cX10_apartAll 21 = .ok (.iload_n 2, 1) := kd_dk0 kd_o28 kd_ncX10_apartAll rfl
theorem dX10_apartAll_22 : decode cX10_apartAll 22 = .ok (.iaload, 1) := kd_dk0 kd_o46 kd_ncX10_apartAll rfl
theorem dX10_apartAll_23 : decode cX10_apartAll 23 = .ok (.ifCond .lt 29, 3) := kd_dj2 kd_o155 (w := 29) kd_ncX10_apartAll rfl rfl
theorem dX10_apartAll_26 : decode cX10_apartAll 26 = .ok (.iload_n 1, 1) := kd_dk0 kd_o27 kd_ncX10_apartAll rfl
theorem dX10_apartAll_27 : decode cX10_apartAll 27 = .ok (.aload_n 0, 1) := kd_dk0 kd_o42 kd_ncX10_apartAll rfl
theorem dX10_apartAll_28 : decode cX10_apartAll 28 = .ok (.getfield 113, 3) := kd_dk2 kd_o180 kd_ncX10_apartAll rfl
theorem dX10_apartAll_31 : decode cX10_apartAll 31 = .ok (.aload_n 0, 1) := kd_dk0 kd_o42 kd_ncX10_apartAll rfl
theorem dX10_apartAll_32 : decode cX10_apartAll 32 = .ok (.getfield 116, 3) := kd_dk2 kd_o180 kd_ncX10_apartAll rfl
theorem dX10_apartAll_35 : decode cX10_apartAll 35 = .ok (.iload_n 2, 1) := kd_dk0 kd_o28 kd_ncX10_apartAll rfl
theorem dX10_apartAll_36 : decode cX10_apartAll 36 = .ok (.iaload, 1) := kd_dk0 kd_o46 kd_ncX10_apartAll rfl
theorem dX10_apartAll_37 : decode cX10_apartAll 37 = .ok (.iaload, 1) := kd_dk0 kd_o46 kd_ncX10_apartAll rfl
theorem dX10_apartAll_38 : decode cX10_apartAll 38 = .ok (.aload_n 0, 1) := kd_dk0 kd_o42 kd_ncX10_apartAll rfl
theorem dX10_apartAll_39 : decode cX10_apartAll 39 = .ok (.getfield 113, 3) := kd_dk2 kd_o180 kd_ncX10_apartAll rfl
theorem dX10_apartAll_42 : decode cX10_apartAll 42 = .ok (.bipush 21, 2) := kd_dj1 kd_o16 (w := 21) kd_ncX10_apartAll rfl rfl
theorem dX10_apartAll_44 : decode cX10_apartAll 44 = .ok (.iload_n 2, 1) := kd_dk0 kd_o28 kd_ncX10_apartAll rfl
theorem dX10_apartAll_45 : decode cX10_apartAll 45 = .ok (.iadd, 1) := kd_dk0 kd_o96 kd_ncX10_apartAll rfl
theorem dX10_apartAll_46 : decode cX10_apartAll 46 = .ok (.iaload, 1) := kd_dk0 kd_o46 kd_ncX10_apartAll rfl
theorem dX10_apartAll_47 : decode cX10_apartAll 47 = .ok (.invokestatic 330, 3) := kd_dk2 kd_o184 kd_ncX10_apartAll rfl
theorem dX10_apartAll_50 : decode cX10_apartAll 50 = .ok (.iadd, 1) := kd_dk0 kd_o96 kd_ncX10_apartAll rfl
theorem dX10_apartAll_51 : decode cX10_apartAll 51 = .ok (.istore_n 1, 1) := kd_dk0 kd_o60 kd_ncX10_apartAll rfl
theorem dX10_apartAll_52 : decode cX10_apartAll 52 = .ok (.iinc 2 1, 3) := kd_dji kd_o132 (w := 1) kd_ncX10_apartAll rfl rfl
theorem dX10_apartAll_55 : decode cX10_apartAll 55 = .ok (.goto (-51), 3) := kd_dj2 kd_o167 (w := 65485) kd_ncX10_apartAll rfl rfl
theorem dX10_apartAll_58 : decode cX10_apartAll 58 = .ok (.iload_n 1, 1) := kd_dk0 kd_o27 kd_ncX10_apartAll rfl
theorem dX10_apartAll_59 : decode cX10_apartAll 59 = .ok (.ireturn, 1) := kd_dk0 kd_o172 kd_ncX10_apartAll rfl
set_option maxHeartbeats 8000000 in
set_option maxRecDepth 100000 in
theorem c_x_apartAll (l : Launch) (G : zz_G) (r : Nat → Nat) (j0 : Int32) (j2 : Int32) (j4 : Int32) (j10 : Int32) (j11 : Int32) (j12 : Int32) (j13 : Int32) (j14 : Int32) (j15 : Int32) (j16 : Int32) (j17 : Int32) (j19 : Int32) (j20 : Int32) (j34 : Int32) (j40 : Int32) (j44 : Int32) (j47 : Int32) (j50 : Int32) (j51 : Int32) (j56 : Int32) (j61 : Int32) (lv : Nat) (pq : Nat) (c26 : Nat → Int32) (c49 : Nat → Int32) (c52 : Nat → Int32) (hlv : lv ≤ 1) (hpa : c26 lv = nI pq) (hpq : pq ≤ 6) (hca : ∀ j, j < 6 → zz_ok 7 (c52 j)) : zz_M l G mX10_apartAll 2 0 0 [.ref (r 0)] [((r 0), .inr (10, (zz_mo r [(0, j0), (2, j2), (4, j4), (10, j10), (11, j11), (12, j12), (13, j13), (14, j14), (15, j15), (16, j16), (17, j17), (18, (nI lv)), (19, j19), (20, j20), (34, j34), (40, j40), (44, j44), (47, j47), (50, j50), (51, j51), (56, j56), (61, j61)]))), ((r 26), .inl (G.2 0, 2, .inl c26)), ((r 49), .inl (G.2 0, 71, .inl c49)), ((r 52), .inl (G.2 0, 6, .inl c52))] (fun rr u => ∃ (rv : Int32), rr = some (.int rv) ∧ u = [((r 0), .inr (10, (zz_mo r [(0, j0), (2, j2), (4, j4), (10, j10), (11, j11), (12, j12), (13, j13), (14, j14), (15, j15), (16, j16), (17, j17), (18, (nI lv)), (19, j19), (20, j20), (34, j34), (40, j40), (44, j44), (47, j47), (50, j50), (51, j51), (56, j56), (61, j61)]))), ((r 26), .inl (G.2 0, 2, .inl c26)), ((r 49), .inl (G.2 0, 71, .inl c49)), ((r 52), .inl (G.2 0, 6, .inl c52))] ∧ (rv = zS (zk_hr c49 c52) pq)) := by
  refine zz_enteri (by decide +kernel) (Nat.le_of_ble_eq_true rfl) ?_
  intro p e s m args below meth c A Q ls S hnm hret hw hl
  have hl : lv_has ls 3 [(0, .ref (r 0))] := hl
  have hx := S.1
  have hb := S.2.1
  refine lv_iconst (v := 0) hx hb dX10_apartAll_0 (by decide) ?_
  refine lv_istore_n (lv' := [(1, .int 0), (0, .ref (r 0))]) hx hb dX10_apartAll_1 rfl hl (by decide) rfl (fun ls hl => ?_)
  refine lv_iconst (v := 0) hx hb dX10_apartAll_2 (by decide) ?_
  refine lv_istore_n (lv' := [(2, .int 0), (1, .int 0), (0, .ref (r 0))]) hx hb dX10_apartAll_3 rfl hl (by decide) rfl (fun ls hl => ?_)
  have lp4_20 : ∀ (vn2 vi1 : Nat) (vy12 : Int32) (H : Heap) (locs : List Loc) (ls : Array Slot), vi1 ≤ pq → pq < vi1 + vn2 → vy12 = zS (zk_hr c49 c52) vi1 → zz_w G A s [((r 0), .inr (10, (zz_mo r [(0, j0), (2, j2), (4, j4), (10, j10), (11, j11), (12, j12), (13, j13), (14, j14), (15, j15), (16, j16), (17, j17), (18, (nI lv)), (19, j19), (20, j20), (34, j34), (40, j40), (44, j44), (47, j47), (50, j50), (51, j51), (56, j56), (61, j61)]))), ((r 26), .inl (G.2 0, 2, .inl c26)), ((r 49), .inl (G.2 0, 71, .inl c49)), ((r 52), .inl (G.2 0, 6, .inl c52))] H locs → lv_has ls 3 [(2, .int (nI vi1)), (1, .int vy12), (0, .ref (r 0))] → W p l e (zz_rm 2 0 0) s m args below meth c H locs (0) (0) Q (F0 m 4 ls []) := by
    intro vn2
    induction vn2 with
    | zero => intro vi1 vy12 H locs ls hi1 hi2; exact absurd hi2 (by omega)
    | succ vn2 ih4 =>
      intro vi1 vy12 H locs ls hi4a hi4b hv4_19 hw hl
      refine lv_iload_n hx hb dX10_apartAll_4 rfl (lv_at hl 0 rfl) ?_
      refine lv_aload_n hx hb dX10_apartAll_5 rfl (lv_at hl 2 rfl) ?_
      refine zz_get (v := .ref (r 26)) S hw fgX10_55 0 rfl rfl dX10_apartAll_6 ?_
      refine lv_aload_n hx hb dX10_apartAll_9 rfl (lv_at hl 2 rfl) ?_
      refine zz_get (v := .int (nI lv)) S hw fgX10_236 0 rfl rfl dX10_apartAll_10 ?_
      refine zz_iald (v := (nI pq)) S hw 1 rfl (vp_in_nI (n := lv) (by omega) (by decide)) (by rw [show ((nI lv) : Int32).toNatClampNeg = lv from nI_clamp (n := lv) (by omega)]; exact hpa) dX10_apartAll_13 ?_
      refine lv_icmp_ge (tgt := 58) hx hb dX10_apartAll_14 (by decide) (fun c14_21 => ?_) (fun c14_21 => ?_)
      · skip
        have c14_21n : pq ≤ vi1 := (zz_le (a := pq) (b := vi1) rfl rfl (by omega) (by omega)).mp c14_21
        refine lv_iload_n hx hb dX10_apartAll_58 rfl (lv_at hl 1 rfl) ?_
        exact hret _ _ _ _ _ _ ⟨vy12, rfl, rfl, (zS_e hv4_19 (by omega))⟩ hw rfl dX10_apartAll_59
      · skip
        have c14_21n : ¬ (pq ≤ vi1) := fun z => c14_21 ((zz_le (a := pq) (b := vi1) rfl rfl (by omega) (by omega)).mpr z)
        refine lv_aload_n hx hb dX10_apartAll_17 rfl (lv_at hl 2 rfl) ?_
        refine zz_get (v := .ref (r 52)) S hw fgX10_116 0 rfl rfl dX10_apartAll_18 ?_
        refine lv_iload_n hx hb dX10_apartAll_21 rfl (lv_at hl 0 rfl) ?_
        refine W.eq (g2 := F0 m 22 ls [.int (nI vi1), .ref (r 52)]) rfl ?_
        obtain ⟨vz22, hvz22, evz22⟩ : ∃ z : Int32, zz_ok 7 z ∧ c52 vi1 = z := ⟨_, (show ∀ j, j < 6 → zz_ok 7 (c52 j) from by assumption) vi1 (by omega), rfl⟩
        refine zz_iald (v := vz22) S hw 3 rfl (vp_in_nI (n := vi1) (by omega) (by decide)) (by rw [show ((nI vi1) : Int32).toNatClampNeg = vi1 from nI_clamp (n := vi1) (by omega)]; exact evz22) dX10_apartAll_22 ?_
        refine lv_if_lt (tgt := 52) hx hb dX10_apartAll_23 (by decide) (fun c23_23 => ?_) (fun c23_23 => ?_)
        · skip
          refine lv_iinc (v := (nI (vi1 + 1))) (lv' := [(2, .int (nI (vi1 + 1))), (1, .int vy12), (0, .ref (r 0))]) hx hb dX10_apartAll_52 hl (k := 0) rfl (nI_add _ 1) (by decide) rfl (fun ls hl => ?_)
          refine lv_goto (tgt := 4) hx hb dX10_apartAll_55 (by decide) ?_
          exact ih4 (vi1 + 1) vy12 _ _ _ (by omega) (by omega) (by first | exact zS_s hv4_19 (by assumption) (zk_hr1 (by assumption) (by assumption) hq47_0) | exact zS_0 hv4_19 (zk_hr0 (by first | exact zr_lt0 (by assumption) (by assumption) | exact zA_lz (by assumption) (Int32.not_le.mp (by assumption))))) hw (lv_sub hl [0, 1, 2] rfl)
        · skip
          obtain ⟨vq24, hvq24, rfl⟩ := zz_okn hvz22 c23_23
          refine lv_iload_n hx hb dX10_apartAll_26 rfl (lv_at hl 1 rfl) ?_
          refine lv_aload_n hx hb dX10_apartAll_27 rfl (lv_at hl 2 rfl) ?_
          refine zz_get (v := .ref (r 49)) S hw fgX10_113 0 rfl rfl dX10_apartAll_28 ?_
          refine lv_aload_n hx hb dX10_apartAll_31 rfl (lv_at hl 2 rfl) ?_
          refine zz_get (v := .ref (r 52)) S hw fgX10_116 0 rfl rfl dX10_apartAll_32 ?_
          refine lv_iload_n hx hb dX10_apartAll_35 rfl (lv_at hl 0 rfl) ?_
          refine zz_iald (v := (nI vq24)) S hw 3 rfl (vp_in_nI (n := vi1) (by omega) (by decide)) (by rw [show ((nI vi1) : Int32).toNatClampNeg = vi1 from nI_clamp (n := vi1) (by omega)]; exact evz22) dX10_apartAll_36 ?_
          refine zz_iald (v := (c49 vq24)) S hw 2 rfl (vp_in_nI (n := vq24) (by omega) (by decide)) (congrArg c49 (nI_clamp (n := vq24) (by omega))) dX10_apartAll_37 ?_
          refine lv_aload_n hx hb dX10_apartAll_38 rfl (lv_at hl 2 rfl) ?_
          refine zz_get (v := .ref (r 49)) S hw fgX10_113 0 rfl rfl dX10_apartAll_39 ?_
          refine lv_bipush (v := 21) hx hb dX10_apartAll_42 (by decide) ?_
          refine W.eq (g2 := F0 m 44 ls [.int 21, .ref (r 49), .int (c49 vq24), .int vy12]) rfl ?_
          refine lv_iload_n hx hb dX10_apartAll_44 rfl (lv_at hl 0 rfl) ?_
          refine lv_iadd hx hb dX10_apartAll_45 ?_
          refine zz_topi (y := (nI (21 + vi1))) (nI_add _ _) ?_
          refine zz_iald (v := (c49 (21 + vi1))) S hw 2 rfl (vp_in_nI (n := (21 + vi1)) (by omega) (by decide)) (congrArg c49 (nI_clamp (n := (21 + vi1)) (by omega))) dX10_apartAll_46 ?_
          refine zz_callS (As := [.int (c49 vq24), .int (c49 (21 + vi1))]) (rest := [.int vy12]) (wr := [((r 0), .inr (10, (zz_mo r [(0, j0), (2, j2), (4, j4), (10, j10), (11, j11), (12, j12), (13, j13), (14, j14), (15, j15), (16, j16), (17, j17), (18, (nI lv)), (19, j19), (20, j20), (34, j34), (40, j40), (44, j44), (47, j47), (50, j50), (51, j51), (56, j56), (61, j61)]))), ((r 26), .inl (G.2 0, 2, .inl c26)), ((r 49), .inl (G.2 0, 71, .inl c49)), ((r 52), .inl (G.2 0, 6, .inl c52))]) S hw hl.1 lX10_330 (c_x_roundOff l G (c49 vq24) (c49 (21 + vi1))) ⟨Nat.le_of_ble_eq_true rfl, Nat.le_of_ble_eq_true rfl⟩ ⟨Nat.le_of_ble_eq_true rfl, Nat.le_of_ble_eq_true rfl⟩ [] [0, 1, 2, 3] (by decide) rfl rfl (by decide) (by decide) rfl rfl (Nat.le_of_ble_eq_true rfl) dX10_apartAll_47 ?_
          clear hw
          intro rr u H locs hp hw
          refine hp.elim fun rv_25 zg0 => zg0.elim fun zee1 zg1 => zg1.elim fun zee2 hq47_0 => ?_
          clear hp zg0 zg1
          subst zee1
          subst zee2
          replace hw : zz_w G A s [((r 0), .inr (10, (zz_mo r [(0, j0), (2, j2), (4, j4), (10, j10), (11, j11), (12, j12), (13, j13), (14, j14), (15, j15), (16, j16), (17, j17), (18, (nI lv)), (19, j19), (20, j20), (34, j34), (40, j40), (44, j44), (47, j47), (50, j50), (51, j51), (56, j56), (61, j61)]))), ((r 26), .inl (G.2 0, 2, .inl c26)), ((r 49), .inl (G.2 0, 71, .inl c49)), ((r 52), .inl (G.2 0, 6, .inl c52))] H _ := hw
          refine W.eq (g2 := F0 m 50 ls [.int rv_25, .int vy12]) rfl ?_
          refine lv_iadd hx hb dX10_apartAll_50 ?_
          refine lv_topi (fun z26 ez26 => ?_)
          refine lv_istore_n (lv' := [(1, .int z26), (2, .int (nI vi1)), (0, .ref (r 0))]) hx hb dX10_apartAll_51 rfl hl (by decide) rfl (fun ls hl => ?_)
          refine lv_iinc (v := (nI (vi1 + 1))) (lv' := [(2, .int (nI (vi1 + 1))), (1, .int z26), (0, .ref (r 0))]) hx hb dX10_apartAll_52 hl (k := 1) rfl (nI_add _ 1) (by decide) rfl (fun ls hl => ?_)
          refine lv_goto (tgt := 4) hx hb dX10_apartAll_55 (by decide) ?_
          exact ih4 (vi1 + 1) z26 _ _ _ (by omega) (by omega) (by first | exact zS_s hv4_19 (by assumption) (zk_hr1 (by assumption) (by assumption) hq47_0) | exact zS_0 hv4_19 (zk_hr0 (by first | exact zr_lt0 (by assumption) (by assumption) | exact zA_lz (by assumption) (Int32.not_le.mp (by assumption))))) hw (lv_sub hl [0, 1, 2] rfl)
  exact lp4_20 (pq + 1 - 0) 0 0 _ _ _ (by omega) (by omega) rfl hw (lv_sub hl [0, 1, 2] rfl)
theorem kd_ncX10_count : kd_ck 4884539883115439064062494800198091045371927150212385549350922098268153362160241144131384376558467798532319001870135593841257475458295091455467268937332889173864093171660402235313441611736563481324673959906656730509631481784127893516118809612633622471316055023000444023310528868747815615138779647653741017228511914298514875318635721271444543127056347330935613840751909029721215812354608234547385688916949541385983686390954558715014825705469832426976561713632141431546595966230805998990951341403540376421348123844835188168141847825498580113303640636946213260113275090253649274376038011386890081361868258730746977483659303741371166151078022809374138342651706186126509797450855839935674427726792448670606160793681453375279464959472593188823147336821782917389990521717051960460424746 323 cX10_count.data.toList 0 = true := by decide +kernel
theorem dX10_count_0 : decode cX10_count 0 = .ok (.aload_n 0, 1) := kd_dk0 kd_o42 kd_ncX10_count rfl
theorem dX10_count_1 : decode cX10_count 1 = .ok (.invokevirtual 323, 3) := kd_dk2 kd_o182 kd_ncX10_count rfl
theorem dX10_count_4 : decode cX10_count 4 = .ok (.aload_n 0, 1) := kd_dk0 kd_o42 kd_ncX10_count rfl
theorem dX10_count_5 : decode cX10_count 5 = .ok (.invokevirtual 351, 3) := kd_dk2 kd_o182 kd_ncX10_count rfl
theorem dX10_count_8 : decode cX10_count 8 = .ok (.iconst 0, 1) := kd_dk0 kd_o3 kd_ncX10_count rfl
theorem dX10_count_9 : decode cX10_count 9 = .ok (.istore_n 2, 1) := kd_dk0 kd_o61 kd_ncX10_count rfl
theorem dX10_count_10 : decode cX10_count 10 = .ok (.iload_n 1, 1) := kd_dk0 kd_o27 kd_ncX10_count rfl
theorem dX10_count_11 : decode cX10_count 11 = .ok (.tableswitch 310 0 13 #[69, 79, 89, 97, 115, 120, 155, 192, 200, 205, 210, 215, 260, 305], 69) := by decide +kernel
theorem dX10_count_80 : decode cX10_count 80 = .ok (.aload_n 0, 1) := kd_dk0 kd_o42 kd_ncX10_count rfl
theorem dX10_count_81 : decode cX10_count 81 = .ok (.getfield 43, 3) := kd_dk2 kd_o180 kd_ncX10_count rfl
theorem dX10_count_84 : decode cX10_count 84 = .ok (.aload_n 0, 1) := kd_dk0 kd_o42 kd_ncX10_count rfl
theorem dX10_count_85 : decode cX10_count 85 = .ok (.getfield 236, 3) := kd_dk2 kd_o180 kd_ncX10_count rfl
theorem dX10_count_88 : decode cX10_count 88 = .ok (.iaload, 1) := kd_dk0 kd_o46 kd_ncX10_count rfl
theorem dX10_count_89 : decode cX10_count 89 = .ok (.ireturn, 1) := kd_dk0 kd_o172 kd_ncX10_count rfl
theorem dX10_count_90 : decode cX10_count 90 = .ok (.aload_n 0, 1) := kd_dk0 kd_o42 kd_ncX10_count rfl
theorem dX10_count_91 : decode cX10_count 91 = .ok (.getfield 55, 3) := kd_dk2 kd_o180 kd_ncX10_count rfl
theorem dX10_count_94 : decode cX10_count 94 = .ok (.aload_n 0, 1) := kd_dk0 kd_o42 kd_ncX10_count rfl
theorem dX10_count_95 : decode cX10_count 95 = .ok (.getfield 236, 3) := kd_dk2 kd_o180 kd_ncX10_count rfl
theorem dX10_count_98 : decode cX10_count 98 = .ok (.iaload, 1) := kd_dk0 kd_o46 kd_ncX10_count rfl
theorem dX10_count_99 : decode cX10_count 99 = .ok (.ireturn, 1) := kd_dk0 kd_o172 kd_ncX10_count rfl
theorem dX10_count_100 : decode cX10_count 100 = .ok (.aload_n 0, 1) := kd_dk0 kd_o42 kd_ncX10_count rfl
theorem dX10_count_101 : decode cX10_count 101 = .ok (.getfield 113, 3) := kd_dk2 kd_o180 kd_ncX10_count rfl
theorem dX10_count_104 : decode cX10_count 104 = .ok (.bipush 69, 2) := kd_dj1 kd_o16 (w := 69) kd_ncX10_count rfl rfl
theorem dX10_count_106 : decode cX10_count 106 = .ok (.iaload, 1) := kd_dk0 kd_o46 kd_ncX10_count rfl
theorem dX10_count_107 : decode cX10_count 107 = .ok (.ireturn, 1) := kd_dk0 kd_o172 kd_ncX10_count rfl
theorem dX10_count_108 : decode cX10_count 108 = .ok (.aload_n 0, 1) := kd_dk0 kd_o42 kd_ncX10_count rfl
theorem dX10_count_109 : decode cX10_count 109 = .ok (.getfield 55, 3) := kd_dk2 kd_o180 kd_ncX10_count rfl
theorem dX10_count_112 : decode cX10_count 112 = .ok (.aload_n 0, 1) := kd_dk0 kd_o42 kd_ncX10_count rfl
theorem dX10_count_113 : decode cX10_count 113 = .ok (.getfield 236, 3) := kd_dk2 kd_o180 kd_ncX10_count rfl
theorem dX10_count_116 : decode cX10_count 116 = .ok (.iaload, 1) := kd_dk0 kd_o46 kd_ncX10_count rfl
theorem dX10_count_117 : decode cX10_count 117 = .ok (.aload_n 0, 1) := kd_dk0 kd_o42 kd_ncX10_count rfl
theorem dX10_count_118 : decode cX10_count 118 = .ok (.invokevirtual 400, 3) := kd_dk2 kd_o182 kd_ncX10_count rfl
theorem dX10_count_121 : decode cX10_count 121 = .ok (.invokestatic 436, 3) := kd_dk2 kd_o184 kd_ncX10_count rfl
theorem dX10_count_124 : decode cX10_count 124 = .ok (.isub, 1) := kd_dk0 kd_o100 kd_ncX10_count rfl
theorem dX10_count_125 : decode cX10_count 125 = .ok (.ireturn, 1) := kd_dk0 kd_o172 kd_ncX10_count rfl
theorem dX10_count_126 : decode cX10_count 126 = .ok (.aload_n 0, 1) := kd_dk0 kd_o42 kd_ncX10_count rfl
theorem dX10_count_127 : decode cX10_count 127 = .ok (.invokevirtual 429, 3) := kd_dk2 kd_o182 kd_ncX10_count rfl
theorem dX10_count_130 : decode cX10_count 130 = .ok (.ireturn, 1) := kd_dk0 kd_o172 kd_ncX10_count rfl
theorem dX10_count_131 : decode cX10_count 131 = .ok (.iconst 0, 1) := kd_dk0 kd_o3 kd_ncX10_count rfl
theorem dX10_count_132 : decode cX10_count 132 = .ok (.istore_n 3, 1) := kd_dk0 kd_o62 kd_ncX10_count rfl
theorem dX10_count_133 : decode cX10_count 133 = .ok (.iload_n 3, 1) := kd_dk0 kd_o29 kd_ncX10_count rfl
theorem dX10_count_134 : decode cX10_count 134 = .ok (.aload_n 0, 1) := kd_dk0 kd_o42 kd_ncX10_count rfl
theorem dX10_count_135 : decode cX10_count 135 = .ok (.getfield 43, 3) := kd_dk2 kd_o180 kd_ncX10_count rfl
theorem dX10_count_138 : decode cX10_count 138 = .ok (.aload_n 0, 1) := kd_dk0 kd_o42 kd_ncX10_count rfl
theorem dX10_count_139 : decode cX10_count 139 = .ok (.getfield 236, 3) := kd_dk2 kd_o180 kd_ncX10_count rfl
theorem dX10_count_142 : decode cX10_count 142 = .ok (.iaload, 1) := kd_dk0 kd_o46 kd_ncX10_count rfl
theorem dX10_count_143 : decode cX10_count 143 = .ok (.if_icmp .ge 21, 3) := kd_dj2 kd_o162 (w := 21) kd_ncX10_count rfl rfl
theorem dX10_count_146 : decode cX10_count 146 = .ok (.iload_n 2, 1) := kd_dk0 kd_o28 kd_ncX10_count rfl
theorem dX10_count_147 : decode cX10_count 147 = .ok (.aload_n 0, 1) := kd_dk0 kd_o42 kd_ncX10_count rfl
theorem dX10_count_148 : decode cX10_count 148 = .ok (.getfield 113, 3) := kd_dk2 kd_o180 kd_ncX10_count rfl
theorem dX10_count_151 : decode cX10_count 151 = .ok (.bipush 7, 2) := kd_dj1 kd_o16 (w := 7) kd_ncX10_count rfl rfl
theorem dX10_count_153 : decode cX10_count 153 = .ok (.iload_n 3, 1) := kd_dk0 kd_o29 kd_ncX10_count rfl
theorem dX10_count_154 : decode cX10_count 154 = .ok (.iadd, 1) := kd_dk0 kd_o96 kd_ncX10_count rfl
theorem dX10_count_155 : decode cX10_count 155 = .ok (.iaload, 1) := kd_dk0 kd_o46 kd_ncX10_count rfl
theorem dX10_count_156 : decode cX10_count 156 = .ok (.iadd, 1) := kd_dk0 kd_o96 kd_ncX10_count rfl
theorem dX10_count_157 : decode cX10_count 157 = .ok (.istore_n 2, 1) := kd_dk0 kd_o61 kd_ncX10_count rfl
theorem dX10_count_158 : decode cX10_count 158 = .ok (.iinc 3 1, 3) := kd_dji kd_o132 (w := 1) kd_ncX10_count rfl rfl
theorem dX10_count_161 : decode cX10_count 161 = .ok (.goto (-28), 3) := kd_dj2 kd_o167 (w := 65508) kd_ncX10_count rfl rfl
theorem dX10_count_164 : decode cX10_count 164 = .ok (.iload_n 2, 1) := kd_dk0 kd_o28 kd_ncX10_count rfl
theorem dX10_count_165 : decode cX10_count 165 = .ok (.ireturn, 1) := kd_dk0 kd_o172 kd_ncX10_count rfl
theorem dX10_count_166 : decode cX10_count 166 = .ok (.iconst 0, 1) := kd_dk0 kd_o3 kd_ncX10_count rfl
theorem dX10_count_167 : decode cX10_count 167 = .ok (.istore_n 3, 1) := kd_dk0 kd_o62 kd_ncX10_count rfl
theorem dX10_count_168 : decode cX10_count 168 = .ok (.iload_n 3, 1) := kd_dk0 kd_o29 kd_ncX10_count rfl
theorem dX10_count_169 : decode cX10_count 169 = .ok (.aload_n 0, 1) := kd_dk0 kd_o42 kd_ncX10_count rfl
theorem dX10_count_170 : decode cX10_count 170 = .ok (.getfield 43, 3) := kd_dk2 kd_o180 kd_ncX10_count rfl
theorem dX10_count_173 : decode cX10_count 173 = .ok (.aload_n 0, 1) := kd_dk0 kd_o42 kd_ncX10_count rfl
theorem dX10_count_174 : decode cX10_count 174 = .ok (.getfield 236, 3) := kd_dk2 kd_o180 kd_ncX10_count rfl
theorem dX10_count_177 : decode cX10_count 177 = .ok (.iaload, 1) := kd_dk0 kd_o46 kd_ncX10_count rfl
theorem dX10_count_178 : decode cX10_count 178 = .ok (.if_icmp .ge 23, 3) := kd_dj2 kd_o162 (w := 23) kd_ncX10_count rfl rfl
theorem dX10_count_181 : decode cX10_count 181 = .ok (.iload_n 2, 1) := kd_dk0 kd_o28 kd_ncX10_count rfl
theorem dX10_count_182 : decode cX10_count 182 = .ok (.aload_n 0, 1) := kd_dk0 kd_o42 kd_ncX10_count rfl
theorem dX10_count_183 : decode cX10_count 183 = .ok (.getfield 113, 3) := kd_dk2 kd_o180 kd_ncX10_count rfl
theorem dX10_count_186 : decode cX10_count 186 = .ok (.bipush 14, 2) := kd_dj1 kd_o16 (w := 14) kd_ncX10_count rfl rfl
theorem dX10_count_188 : decode cX10_count 188 = .ok (.iload_n 3, 1) := kd_dk0 kd_o29 kd_ncX10_count rfl
theorem dX10_count_189 : decode cX10_count 189 = .ok (.iadd, 1) := kd_dk0 kd_o96 kd_ncX10_count rfl
theorem dX10_count_190 : decode cX10_count 190 = .ok (.iaload, 1) := kd_dk0 kd_o46 kd_ncX10_count rfl
theorem dX10_count_191 : decode cX10_count 191 = .ok (.iload_n 3, 1) := kd_dk0 kd_o29 kd_ncX10_count rfl
theorem dX10_count_192 : decode cX10_count 192 = .ok (.ishl, 1) := kd_dk0 kd_o120 kd_ncX10_count rfl
theorem dX10_count_193 : decode cX10_count 193 = .ok (.ior, 1) := kd_dk0 kd_o128 kd_ncX10_count rfl
theorem dX10_count_194 : decode cX10_count 194 = .ok (.istore_n 2, 1) := kd_dk0 kd_o61 kd_ncX10_count rfl
theorem dX10_count_195 : decode cX10_count 195 = .ok (.iinc 3 1, 3) := kd_dji kd_o132 (w := 1) kd_ncX10_count rfl rfl
theorem dX10_count_198 : decode cX10_count 198 = .ok (.goto (-30), 3) := kd_dj2 kd_o167 (w := 65506) kd_ncX10_count rfl rfl
theorem dX10_count_201 : decode cX10_count 201 = .ok (.iload_n 2, 1) := kd_dk0 kd_o28 kd_ncX10_count rfl
theorem dX10_count_202 : decode cX10_count 202 = .ok (.ireturn, 1) := kd_dk0 kd_o172 kd_ncX10_count rfl
theorem dX10_count_203 : decode cX10_count 203 = .ok (.aload_n 0, 1) := kd_dk0 kd_o42 kd_ncX10_count rfl
theorem dX10_count_204 : decode cX10_count 204 = .ok (.getfield 113, 3) := kd_dk2 kd_o180 kd_ncX10_count rfl
theorem dX10_count_207 : decode cX10_count 207 = .ok (.bipush 70, 2) := kd_dj1 kd_o16 (w := 70) kd_ncX10_count rfl rfl
theorem dX10_count_209 : decode cX10_count 209 = .ok (.iaload, 1) := kd_dk0 kd_o46 kd_ncX10_count rfl
theorem dX10_count_210 : decode cX10_count 210 = .ok (.ireturn, 1) := kd_dk0 kd_o172 kd_ncX10_count rfl
theorem dX10_count_211 : decode cX10_count 211 = .ok (.aload_n 0, 1) := kd_dk0 kd_o42 kd_ncX10_count rfl
theorem dX10_count_212 : decode cX10_count 212 = .ok (.getfield 169, 3) := kd_dk2 kd_o180 kd_ncX10_count rfl
theorem dX10_count_215 : decode cX10_count 215 = .ok (.ireturn, 1) := kd_dk0 kd_o172 kd_ncX10_count rfl
theorem dX10_count_216 : decode cX10_count 216 = .ok (.aload_n 0, 1) := kd_dk0 kd_o42 kd_ncX10_count rfl
theorem dX10_count_217 : decode cX10_count 217 = .ok (.getfield 254, 3) := kd_dk2 kd_o180 kd_ncX10_count rfl
theorem dX10_count_220 : decode cX10_count 220 = .ok (.ireturn, 1) := kd_dk0 kd_o172 kd_ncX10_count rfl
theorem dX10_count_221 : decode cX10_count 221 = .ok (.aload_n 0, 1) := kd_dk0 kd_o42 kd_ncX10_count rfl
theorem dX10_count_222 : decode cX10_count 222 = .ok (.getfield 257, 3) := kd_dk2 kd_o180 kd_ncX10_count rfl
theorem dX10_count_225 : decode cX10_count 225 = .ok (.ireturn, 1) := kd_dk0 kd_o172 kd_ncX10_count rfl
theorem dX10_count_226 : decode cX10_count 226 = .ok (.aload_n 0, 1) := kd_dk0 kd_o42 kd_ncX10_count rfl
theorem dX10_count_227 : decode cX10_count 227 = .ok (.getfield 149, 3) := kd_dk2 kd_o180 kd_ncX10_count rfl
theorem dX10_count_230 : decode cX10_count 230 = .ok (.iconst 0, 1) := kd_dk0 kd_o3 kd_ncX10_count rfl
theorem dX10_count_231 : decode cX10_count 231 = .ok (.baload, 1) := kd_dk0 kd_o51 kd_ncX10_count rfl
theorem dX10_count_232 : decode cX10_count 232 = .ok (.ifCond .eq 7, 3) := kd_dj2 kd_o153 (w := 7) kd_ncX10_count rfl rfl
theorem dX10_count_235 : decode cX10_count 235 = .ok (.iconst 1, 1) := kd_dk0 kd_o4 kd_ncX10_count rfl
theorem dX10_count_236 : decode cX10_count 236 = .ok (.goto 4, 3) := kd_dj2 kd_o167 (w := 4) kd_ncX10_count rfl rfl
theorem dX10_count_239 : decode cX10_count 239 = .ok (.iconst 0, 1) := kd_dk0 kd_o3 kd_ncX10_count rfl
theorem dX10_count_240 : decode cX10_count 240 = .ok (.aload_n 0, 1) := kd_dk0 kd_o42 kd_ncX10_count rfl
theorem dX10_count_241 : decode cX10_count 241 = .ok (.getfield 149, 3) := kd_dk2 kd_o180 kd_ncX10_count rfl
theorem dX10_count_244 : decode cX10_count 244 = .ok (.iconst 1, 1) := kd_dk0 kd_o4 kd_ncX10_count rfl
theorem dX10_count_245 : decode cX10_count 245 = .ok (.baload, 1) := kd_dk0 kd_o51 kd_ncX10_count rfl
theorem dX10_count_246 : decode cX10_count 246 = .ok (.ifCond .eq 7, 3) := kd_dj2 kd_o153 (w := 7) kd_ncX10_count rfl rfl
theorem dX10_count_249 : decode cX10_count 249 = .ok (.iconst 1, 1) := kd_dk0 kd_o4 kd_ncX10_count rfl
theorem dX10_count_250 : decode cX10_count 250 = .ok (.goto 4, 3) := kd_dj2 kd_o167 (w := 4) kd_ncX10_count rfl rfl
theorem dX10_count_253 : decode cX10_count 253 = .ok (.iconst 0, 1) := kd_dk0 kd_o3 kd_ncX10_count rfl
theorem dX10_count_254 : decode cX10_count 254 = .ok (.iadd, 1) := kd_dk0 kd_o96 kd_ncX10_count rfl
theorem dX10_count_255 : decode cX10_count 255 = .ok (.aload_n 0, 1) := kd_dk0 kd_o42 kd_ncX10_count rfl
theorem dX10_count_256 : decode cX10_count 256 = .ok (.getfield 149, 3) := kd_dk2 kd_o180 kd_ncX10_count rfl
theorem dX10_count_259 : decode cX10_count 259 = .ok (.iconst 2, 1) := kd_dk0 kd_o5 kd_ncX10_count rfl
theorem dX10_count_260 : decode cX10_count 260 = .ok (.baload, 1) := kd_dk0 kd_o51 kd_ncX10_count rfl
theorem dX10_count_261 : decode cX10_count 261 = .ok (.ifCond .eq 7, 3) := kd_dj2 kd_o153 (w := 7) kd_ncX10_count rfl rfl
theorem dX10_count_264 : decode cX10_count 264 = .ok (.iconst 1, 1) := kd_dk0 kd_o4 kd_ncX10_count rfl
theorem dX10_count_265 : decode cX10_count 265 = .ok (.goto 4, 3) := kd_dj2 kd_o167 (w := 4) kd_ncX10_count rfl rfl
theorem dX10_count_268 : decode cX10_count 268 = .ok (.iconst 0, 1) := kd_dk0 kd_o3 kd_ncX10_count rfl
theorem dX10_count_269 : decode cX10_count 269 = .ok (.iadd, 1) := kd_dk0 kd_o96 kd_ncX10_count rfl
theorem dX10_count_270 : decode cX10_count 270 = .ok (.ireturn, 1) := kd_dk0 kd_o172 kd_ncX10_count rfl
theorem dX10_count_271 : decode cX10_count 271 = .ok (.iconst 0, 1) := kd_dk0 kd_o3 kd_ncX10_count rfl
theorem dX10_count_272 : decode cX10_count 272 = .ok (.istore_n 3, 1) := kd_dk0 kd_o62 kd_ncX10_count rfl
theorem dX10_count_273 : decode cX10_count 273 = .ok (.iload_n 3, 1) := kd_dk0 kd_o29 kd_ncX10_count rfl
theorem dX10_count_274 : decode cX10_count 274 = .ok (.aload_n 0, 1) := kd_dk0 kd_o42 kd_ncX10_count rfl
theorem dX10_count_275 : decode cX10_count 275 = .ok (.getfield 43, 3) := kd_dk2 kd_o180 kd_ncX10_count rfl
theorem dX10_count_278 : decode cX10_count 278 = .ok (.aload_n 0, 1) := kd_dk0 kd_o42 kd_ncX10_count rfl
theorem dX10_count_279 : decode cX10_count 279 = .ok (.getfield 236, 3) := kd_dk2 kd_o180 kd_ncX10_count rfl
theorem dX10_count_282 : decode cX10_count 282 = .ok (.iaload, 1) := kd_dk0 kd_o46 kd_ncX10_count rfl
theorem dX10_count_283 : decode cX10_count 283 = .ok (.if_icmp .ge 31, 3) := kd_dj2 kd_o162 (w := 31) kd_ncX10_count rfl rfl
theorem dX10_count_286 : decode cX10_count 286 = .ok (.aload_n 0, 1) := kd_dk0 kd_o42 kd_ncX10_count rfl
theorem dX10_count_287 : decode cX10_count 287 = .ok (.iload_n 3, 1) := kd_dk0 kd_o29 kd_ncX10_count rfl
theorem dX10_count_288 : decode cX10_count 288 = .ok (.invokevirtual 345, 3) := kd_dk2 kd_o182 kd_ncX10_count rfl
theorem dX10_count_291 : decode cX10_count 291 = .ok (.ifCond .ne 17, 3) := kd_dj2 kd_o154 (w := 17) kd_ncX10_count rfl rfl
theorem dX10_count_294 : decode cX10_count 294 = .ok (.aload_n 0, 1) := kd_dk0 kd_o42 kd_ncX10_count rfl
theorem dX10_count_295 : decode cX10_count 295 = .ok (.iload_n 3, 1) := kd_dk0 kd_o29 kd_ncX10_count rfl
theorem dX10_count_296 : decode cX10_count 296 = .ok (.invokevirtual 376, 3) := kd_dk2 kd_o182 kd_ncX10_count rfl
theorem dX10_count_299 : decode cX10_count 299 = .ok (.ifCond .ge 9, 3) := kd_dj2 kd_o156 (w := 9) kd_ncX10_count rfl rfl
theorem dX10_count_302 : decode cX10_count 302 = .ok (.iload_n 2, 1) := kd_dk0 kd_o28 kd_ncX10_count rfl
theorem dX10_count_303 : decode cX10_count 303 = .ok (.iconst 1, 1) := kd_dk0 kd_o4 kd_ncX10_count rfl
theorem dX10_count_304 : decode cX10_count 304 = .ok (.iload_n 3, 1) := kd_dk0 kd_o29 kd_ncX10_count rfl
theorem dX10_count_305 : decode cX10_count 305 = .ok (.ishl, 1) := kd_dk0 kd_o120 kd_ncX10_count rfl
theorem dX10_count_306 : decode cX10_count 306 = .ok (.ior, 1) := kd_dk0 kd_o128 kd_ncX10_count rfl
theorem dX10_count_307 : decode cX10_count 307 = .ok (.istore_n 2, 1) := kd_dk0 kd_o61 kd_ncX10_count rfl
theorem dX10_count_308 : decode cX10_count 308 = .ok (.iinc 3 1, 3) := kd_dji kd_o132 (w := 1) kd_ncX10_count rfl rfl
theorem dX10_count_311 : decode cX10_count 311 = .ok (.goto (-38), 3) := kd_dj2 kd_o167 (w := 65498) kd_ncX10_count rfl rfl
theorem dX10_count_314 : decode cX10_count 314 = .ok (.iload_n 2, 1) := kd_dk0 kd_o28 kd_ncX10_count rfl
theorem dX10_count_315 : decode cX10_count 315 = .ok (.ireturn, 1) := kd_dk0 kd_o172 kd_ncX10_count rfl
theorem dX10_count_316 : decode cX10_count 316 = .ok (.aload_n 0, 1) := kd_dk0 kd_o42 kd_ncX10_count rfl
theorem dX10_count_317 : decode cX10_count 317 = .ok (.invokevirtual 458, 3) := kd_dk2 kd_o182 kd_ncX10_count rfl
theorem dX10_count_320 : decode cX10_count 320 = .ok (.ireturn, 1) := kd_dk0 kd_o172 kd_ncX10_count rfl
theorem dX10_count_321 : decode cX10_count 321 = .ok (.iconst (-1), 1) := kd_dk0 kd_o2 kd_ncX10_count rfl
theorem dX10_count_322 : decode cX10_count 322 = .ok (.ireturn, 1) := kd_dk0 kd_o172 kd_ncX10_count rfl
set_option maxHeartbeats 8000000 in
set_option maxRecDepth 100000 in
theorem c_x_count (l : Launch) (G : zz_G) (r : Nat → Nat) (j0 : Int32) (j2 : Int32) (j4 : Int32) (j10 : Int32) (j11 : Int32) (j12 : Int32) (j13 : Int32) (j14 : Int32) (j15 : Int32) (j16 : Int32) (j17 : Int32) (j19 : Int32) (j20 : Int32) (j34 : Int32) (j40 : Int32) (j44 : Int32) (j47 : Int32) (j50 : Int32) (j51 : Int32) (j56 : Int32) (j61 : Int32) (lv : Nat) (pp : Nat) (pq : Nat) (c22 : Nat → Int32) (c24 : Nat → Int32) (c25 : Nat → Int32) (c26 : Nat → Int32) (c28 : Nat → Int32) (c29 : Nat → Int32) (c30 : Nat → Int32) (c31 : Nat → Int32) (c32 : Nat → Int32) (c33 : Nat → Int32) (c35 : Nat → Int32) (c36 : Nat → Int32) (c37 : Nat → Int32) (c38 : Nat → Int32) (c39 : Nat → Int32) (c41 : Nat → Int32) (c42 : Nat → Int32) (c45 : Nat → Int32) (c46 : Nat → Int32) (c48 : Nat → Int32) (c49 : Nat → Int32) (c52 : Nat → Int32) (c65 : Nat → Int32) (ar1 : Int32) (hlv : lv ≤ 1) (hpe : c22 lv = nI pp) (hpp : pp ≤ 7) (hpa : c26 lv = nI pq) (hpq : pq ≤ 6) (hlw : zz_LW 2 0 0 c32 c33 c35 c36 c37 c38 c39 c41 c42) (hca : ∀ j, j < 6 → zz_ok 7 (c52 j)) : zz_M l G mX10_count 5 0 0 [.ref (r 0), .int ar1] [((r 0), .inr (10, (zz_mo r [(0, j0), (2, j2), (4, j4), (10, j10), (11, j11), (12, j12), (13, j13), (14, j14), (15, j15), (16, j16), (17, j17), (18, (nI lv)), (19, j19), (20, j20), (34, j34), (40, j40), (44, j44), (47, j47), (50, j50), (51, j51), (56, j56), (61, j61)]))), ((r 22), .inl (G.2 0, 2, .inl c22)), ((r 24), .inl (G.2 0, 14, .inl c24)), ((r 25), .inl (G.2 0, 14, .inl c25)), ((r 26), .inl (G.2 0, 2, .inl c26)), ((r 28), .inl (G.2 0, 12, .inl c28)), ((r 29), .inl (G.2 0, 12, .inl c29)), ((r 30), .inl (G.2 0, 2, .inl c30)), ((r 31), .inl (G.2 0, 2, .inl c31)), ((r 32), .inl (G.2 0, 8, .inl c32)), ((r 33), .inl (G.2 0, 8, .inl c33)), ((r 35), .inl (G.2 2, 260, .inl c35)), ((r 36), .inl (G.2 0, 260, .inl c36)), ((r 37), .inl (G.2 0, 260, .inl c37)), ((r 38), .inl (G.2 0, 260, .inl c38)), ((r 39), .inl (G.2 0, 260, .inl c39)), ((r 41), .inl (G.2 0, 840, .inl c41)), ((r 42), .inl (G.2 0, 840, .inl c42)), ((r 45), .inl (G.2 0, 9, .inl c45)), ((r 46), .inl (G.2 0, 400, .inl c46)), ((r 48), .inl (G.2 0, 71, .inl c48)), ((r 49), .inl (G.2 0, 71, .inl c49)), ((r 52), .inl (G.2 0, 6, .inl c52)), ((r 65), .inl (G.2 2, 3, .inl c65))] (fun rr u => ∃ (rv : Int32), ∃ (k47 : Int32), ∃ (k50 : Int32), ∃ (k51 : Int32), ∃ (d45 : Nat → Int32), ∃ (d46 : Nat → Int32), ∃ (d49 : Nat → Int32), ∃ (d52 : Nat → Int32), rr = some (.int rv) ∧ u = [((r 0), .inr (10, (zz_mo r [(0, j0), (2, j2), (4, j4), (10, j10), (11, j11), (12, j12), (13, j13), (14, j14), (15, j15), (16, j16), (17, j17), (18, (nI lv)), (19, j19), (20, j20), (34, j34), (40, j40), (44, j44), (47, k47), (50, k50), (51, k51), (56, j56), (61, j61)]))), ((r 22), .inl (G.2 0, 2, .inl c22)), ((r 24), .inl (G.2 0, 14, .inl c24)), ((r 25), .inl (G.2 0, 14, .inl c25)), ((r 26), .inl (G.2 0, 2, .inl c26)), ((r 28), .inl (G.2 0, 12, .inl c28)), ((r 29), .inl (G.2 0, 12, .inl c29)), ((r 30), .inl (G.2 0, 2, .inl c30)), ((r 31), .inl (G.2 0, 2, .inl c31)), ((r 32), .inl (G.2 0, 8, .inl c32)), ((r 33), .inl (G.2 0, 8, .inl c33)), ((r 35), .inl (G.2 2, 260, .inl c35)), ((r 36), .inl (G.2 0, 260, .inl c36)), ((r 37), .inl (G.2 0, 260, .inl c37)), ((r 38), .inl (G.2 0, 260, .inl c38)), ((r 39), .inl (G.2 0, 260, .inl c39)), ((r 41), .inl (G.2 0, 840, .inl c41)), ((r 42), .inl (G.2 0, 840, .inl c42)), ((r 45), .inl (G.2 0, 9, .inl d45)), ((r 46), .inl (G.2 0, 400, .inl d46)), ((r 48), .inl (G.2 0, 71, .inl c48)), ((r 49), .inl (G.2 0, 71, .inl d49)), ((r 52), .inl (G.2 0, 6, .inl d52)), ((r 65), .inl (G.2 2, 3, .inl c65))] ∧ (∃ τ C, zy_q 71 c48 τ ∧ zr_FX (zr_HD lv c32 c33 c35 c36 c37 c38 c39 c41 c42 (c30 lv)) (fun Λ => zr_Sx 99 lv τ c24 c28 c25 c29 (Λ 0)) (fun a => τ (14 + a) = 1) (c30 lv) pp pq C ∧ ((ar1 = nI 0 ∧ rv = nI pp) ∨ (ar1 = nI 1 ∧ rv = nI pq) ∨ (ar1 = nI 2 ∧ rv = τ 69) ∨ (ar1 = nI 3 ∧ rv = nI pq - zS (fun j => zm_bit (zO (fun p => C p < 0) pq) (nI j)) 7) ∨ (ar1 = nI 4 ∧ zE (fun p9 v9 => (C p9 < 0 ∧ v9 = 0) ∨ ∃ a9 : Nat, a9 < 7 ∧ C p9 = nI a9 ∧ zr_MS lv 0 c32 c33 c35 c36 c37 c38 c39 c41 c42 (zm_fc zr_ro zr_of (τ a9) (τ (21 + p9)) (c24 (7 * lv + a9)) (c28 (6 * lv + p9)) (c25 (7 * lv + a9)) (c29 (6 * lv + p9)) (τ 69) (τ (27 + 6 * a9 + p9)) p9) 99 v9) pq rv) ∨ (ar1 = nI 5 ∧ rv = zS (fun a => τ (7 + a)) pp) ∨ (ar1 = nI 6 ∧ rv = zV (fun a => τ (14 + a)) pp) ∨ (ar1 = nI 7 ∧ rv = τ 70) ∨ (ar1 = nI 8 ∧ rv = j2) ∨ (ar1 = nI 9 ∧ rv = j56) ∨ (ar1 = nI 10 ∧ rv = j61) ∨ (ar1 = nI 11 ∧ rv = zC1 (¬ c65 0 = 0) + zC1 (¬ c65 1 = 0) + zC1 (¬ c65 2 = 0)) ∨ (ar1 = nI 12 ∧ rv = zO (fun a => ¬ τ (14 + a) = 1 ∧ ∀ j, j < pq → ¬ C j = nI a) pp) ∨ (ar1 = nI 13 ∧ rv = zS (zk_hr τ C) pq) ∨ ((ar1.toInt < 0 ∨ 13 < ar1.toInt) ∧ rv = -1))) ∧ (∀ j, j < 6 → zz_ok 7 (d52 j))) := by
  refine zz_enteri (by decide +kernel) (Nat.le_of_ble_eq_true rfl) ?_
  intro p e s m args below meth c A Q ls S hnm hret hw hl
  have hl : lv_has ls 4 [(0, .ref (r 0)), (1, .int ar1)] := hl
  have hx := S.1
  have hb := S.2.1
  refine lv_aload_n hx hb dX10_count_0 rfl (lv_at hl 0 rfl) ?_
  refine zz_callV (qb := 0) (As := []) (rest := []) (wr := [((r 22), .inl (G.2 0, 2, .inl c22)), ((r 24), .inl (G.2 0, 14, .inl c24)), ((r 25), .inl (G.2 0, 14, .inl c25)), ((r 26), .inl (G.2 0, 2, .inl c26)), ((r 28), .inl (G.2 0, 12, .inl c28)), ((r 29), .inl (G.2 0, 12, .inl c29)), ((r 30), .inl (G.2 0, 2, .inl c30)), ((r 32), .inl (G.2 0, 8, .inl c32)), ((r 33), .inl (G.2 0, 8, .inl c33)), ((r 35), .inl (G.2 2, 260, .inl c35)), ((r 36), .inl (G.2 0, 260, .inl c36)), ((r 37), .inl (G.2 0, 260, .inl c37)), ((r 38), .inl (G.2 0, 260, .inl c38)), ((r 39), .inl (G.2 0, 260, .inl c39)), ((r 41), .inl (G.2 0, 840, .inl c41)), ((r 42), .inl (G.2 0, 840, .inl c42)), ((r 45), .inl (G.2 0, 9, .inl c45)), ((r 46), .inl (G.2 0, 400, .inl c46)), ((r 52), .inl (G.2 0, 6, .inl c52)), ((r 65), .inl (G.2 2, 3, .inl c65))]) S hw hl.1 lX10_323 (c_x_copies l G r j0 j2 j4 j10 j11 j12 j13 j14 j15 j16 j17 j19 j20 j34 j40 j44 j47 j50 j51 j56 j61 lv c31 c48 c49 (by first | assumption | omega | exact Or.inr ⟨_, by omega, rfl⟩ | (unfold zz_sok; decide) | decide | exact (fun j hj => (hv7 j hj).1))) ⟨Nat.le_of_ble_eq_true rfl, Nat.le_of_ble_eq_true rfl⟩ ⟨Nat.le_of_ble_eq_true rfl, Nat.le_of_ble_eq_true rfl⟩ [0, 8, 20, 21] [1, 2, 3, 4, 5, 6, 7, 9, 10, 11, 12, 13, 14, 15, 16, 17, 18, 19, 22, 23] (by decide +kernel) rfl rfl (by decide +kernel) (by decide +kernel) rfl rfl rfl rfl (Nat.le_of_ble_eq_true rfl) dX10_count_1 ?_
  clear hw
  intro rr u H locs hp hw
  refine hp.elim fun k50_1 zg0 => zg0.elim fun k51_2 zg1 => zg1.elim fun d49_3 zg2 => zg2.elim fun zee1 zg3 => zg3.elim fun zee2 zg4 => zg4.elim fun hq1_0 zg5 => zg5.elim fun hq1_1 hq1_2 => ?_
  clear hp zg0 zg1 zg2 zg3 zg4 zg5
  subst zee1
  subst zee2
  replace hw : zz_w G A s [((r 22), .inl (G.2 0, 2, .inl c22)), ((r 24), .inl (G.2 0, 14, .inl c24)), ((r 25), .inl (G.2 0, 14, .inl c25)), ((r 26), .inl (G.2 0, 2, .inl c26)), ((r 28), .inl (G.2 0, 12, .inl c28)), ((r 29), .inl (G.2 0, 12, .inl c29)), ((r 30), .inl (G.2 0, 2, .inl c30)), ((r 32), .inl (G.2 0, 8, .inl c32)), ((r 33), .inl (G.2 0, 8, .inl c33)), ((r 35), .inl (G.2 2, 260, .inl c35)), ((r 36), .inl (G.2 0, 260, .inl c36)), ((r 37), .inl (G.2 0, 260, .inl c37)), ((r 38), .inl (G.2 0, 260, .inl c38)), ((r 39), .inl (G.2 0, 260, .inl c39)), ((r 41), .inl (G.2 0, 840, .inl c41)), ((r 42), .inl (G.2 0, 840, .inl c42)), ((r 45), .inl (G.2 0, 9, .inl c45)), ((r 46), .inl (G.2 0, 400, .inl c46)), ((r 52), .inl (G.2 0, 6, .inl c52)), ((r 65), .inl (G.2 2, 3, .inl c65)), ((r 0), .inr (10, (zz_mo r [(0, j0), (2, j2), (4, j4), (10, j10), (11, j11), (12, j12), (13, j13), (14, j14), (15, j15), (16, j16), (17, j17), (18, (nI lv)), (19, j19), (20, j20), (34, j34), (40, j40), (44, j44), (47, j47), (50, k50_1), (51, k51_2), (56, j56), (61, j61)]))), ((r 31), .inl (G.2 0, 2, .inl c31)), ((r 48), .inl (G.2 0, 71, .inl c48)), ((r 49), .inl (G.2 0, 71, .inl d49_3))] H _ := hw
  refine W.eq (g2 := F0 m 4 ls []) rfl ?_
  refine lv_aload_n hx hb dX10_count_4 rfl (lv_at hl 0 rfl) ?_
  refine zz_callV (qb := 20) (As := []) (rest := []) (wr := [((r 65), .inl (G.2 2, 3, .inl c65)), ((r 31), .inl (G.2 0, 2, .inl c31)), ((r 48), .inl (G.2 0, 71, .inl c48))]) S hw hl.1 lX10_351 (c_x_casts l G r j0 j2 j4 j10 j11 j12 j13 j14 j15 j16 j17 j19 j20 j34 j40 j44 j47 k50_1 k51_2 j56 j61 lv pp pq c22 c24 c25 c26 c28 c29 c30 c32 c33 c35 c36 c37 c38 c39 c41 c42 c45 c46 d49_3 c52 (by first | assumption | omega | exact Or.inr ⟨_, by omega, rfl⟩ | (unfold zz_sok; decide) | decide | exact (fun j hj => (hv7 j hj).1)) (by first | assumption | omega | exact Or.inr ⟨_, by omega, rfl⟩ | (unfold zz_sok; decide) | decide | exact (fun j hj => (hv7 j hj).1)) (by first | assumption | omega | exact Or.inr ⟨_, by omega, rfl⟩ | (unfold zz_sok; decide) | decide | exact (fun j hj => (hv7 j hj).1)) (by first | assumption | omega | exact Or.inr ⟨_, by omega, rfl⟩ | (unfold zz_sok; decide) | decide | exact (fun j hj => (hv7 j hj).1)) (by first | assumption | omega | exact Or.inr ⟨_, by omega, rfl⟩ | (unfold zz_sok; decide) | decide | exact (fun j hj => (hv7 j hj).1)) (by first | assumption | omega | exact Or.inr ⟨_, by omega, rfl⟩ | (unfold zz_sok; decide) | decide | exact (fun j hj => (hv7 j hj).1)) (by first | assumption | omega | exact Or.inr ⟨_, by omega, rfl⟩ | (unfold zz_sok; decide) | decide | exact (fun j hj => (hv7 j hj).1))) ⟨Nat.le_of_ble_eq_true rfl, Nat.le_of_ble_eq_true rfl⟩ ⟨Nat.le_of_ble_eq_true rfl, Nat.le_of_ble_eq_true rfl⟩ [20, 0, 1, 2, 3, 4, 5, 6, 7, 8, 9, 10, 11, 12, 13, 14, 15, 16, 17, 23, 18] [19, 21, 22] (by decide +kernel) rfl rfl (by decide +kernel) (by decide +kernel) rfl rfl rfl rfl (Nat.le_of_ble_eq_true rfl) dX10_count_5 ?_
  clear hw
  intro rr u H locs hp hw
  refine hp.elim fun k47_4 zg0 => zg0.elim fun d45_5 zg1 => zg1.elim fun d46_6 zg2 => zg2.elim fun d52_7 zg3 => zg3.elim fun zee1 zg4 => zg4.elim fun zee2 zg5 => zg5.elim fun hq5_0 hq5_1 => ?_
  clear hp zg0 zg1 zg2 zg3 zg4 zg5
  subst zee1
  subst zee2
  replace hw : zz_w G A s [((r 65), .inl (G.2 2, 3, .inl c65)), ((r 31), .inl (G.2 0, 2, .inl c31)), ((r 48), .inl (G.2 0, 71, .inl c48)), ((r 0), .inr (10, (zz_mo r [(0, j0), (2, j2), (4, j4), (10, j10), (11, j11), (12, j12), (13, j13), (14, j14), (15, j15), (16, j16), (17, j17), (18, (nI lv)), (19, j19), (20, j20), (34, j34), (40, j40), (44, j44), (47, k47_4), (50, k50_1), (51, k51_2), (56, j56), (61, j61)]))), ((r 22), .inl (G.2 0, 2, .inl c22)), ((r 24), .inl (G.2 0, 14, .inl c24)), ((r 25), .inl (G.2 0, 14, .inl c25)), ((r 26), .inl (G.2 0, 2, .inl c26)), ((r 28), .inl (G.2 0, 12, .inl c28)), ((r 29), .inl (G.2 0, 12, .inl c29)), ((r 30), .inl (G.2 0, 2, .inl c30)), ((r 32), .inl (G.2 0, 8, .inl c32)), ((r 33), .inl (G.2 0, 8, .inl c33)), ((r 35), .inl (G.2 2, 260, .inl c35)), ((r 36), .inl (G.2 0, 260, .inl c36)), ((r 37), .inl (G.2 0, 260, .inl c37)), ((r 38), .inl (G.2 0, 260, .inl c38)), ((r 39), .inl (G.2 0, 260, .inl c39)), ((r 41), .inl (G.2 0, 840, .inl c41)), ((r 42), .inl (G.2 0, 840, .inl c42)), ((r 45), .inl (G.2 0, 9, .inl d45_5)), ((r 46), .inl (G.2 0, 400, .inl d46_6)), ((r 49), .inl (G.2 0, 71, .inl d49_3)), ((r 52), .inl (G.2 0, 6, .inl d52_7))] H _ := hw
  refine W.eq (g2 := F0 m 8 ls []) rfl ?_
  refine lv_iconst (v := 0) hx hb dX10_count_8 (by decide) ?_
  refine lv_istore_n (lv' := [(2, .int 0), (0, .ref (r 0)), (1, .int ar1)]) hx hb dX10_count_9 rfl hl (by decide) rfl (fun ls hl => ?_)
  refine lv_iload_n hx hb dX10_count_10 rfl (lv_at hl 2 rfl) ?_
  rcases zz_sw ar1 0 13 (by decide) (by decide) with hw8 | hw8
  · skip
    refine lv_tableOut (tgt := 321) hx hb dX10_count_11 hw8 (by decide) ?_
    refine lv_iconst (v := (-1)) hx hb dX10_count_321 (by decide) ?_
    exact hret _ _ _ _ _ _ ⟨(-1), k47_4, k50_1, k51_2, d45_5, d46_6, d49_3, d52_7, rfl, rfl, (by first | exact ⟨_, _, hq1_0, hq5_0, Or.inl ⟨Int32.toInt_inj.mp (Eq.trans (by assumption) (by decide)), rfl⟩⟩ | exact ⟨_, _, hq1_0, hq5_0, Or.inr (Or.inl ⟨Int32.toInt_inj.mp (Eq.trans (by assumption) (by decide)), rfl⟩)⟩ | exact ⟨_, _, hq1_0, hq5_0, Or.inr (Or.inr (Or.inl ⟨Int32.toInt_inj.mp (Eq.trans (by assumption) (by decide)), rfl⟩))⟩ | exact ⟨_, _, hq1_0, hq5_0, Or.inr (Or.inr (Or.inr (Or.inr (Or.inl ⟨Int32.toInt_inj.mp (Eq.trans (by assumption) (by decide)), hq127_0⟩))))⟩ | exact ⟨_, _, hq1_0, hq5_0, Or.inr (Or.inr (Or.inr (Or.inr (Or.inr (Or.inl ⟨Int32.toInt_inj.mp (Eq.trans (by assumption) (by decide)), (zS_e hdry (by omega))⟩)))))⟩ | exact ⟨_, _, hq1_0, hq5_0, Or.inr (Or.inr (Or.inr (Or.inr (Or.inr (Or.inr (Or.inl ⟨Int32.toInt_inj.mp (Eq.trans (by assumption) (by decide)), (zV_e hdry (by omega))⟩))))))⟩ | exact ⟨_, _, hq1_0, hq5_0, Or.inr (Or.inr (Or.inr (Or.inr (Or.inr (Or.inr (Or.inr (Or.inl ⟨Int32.toInt_inj.mp (Eq.trans (by assumption) (by decide)), rfl⟩)))))))⟩ | exact ⟨_, _, hq1_0, hq5_0, Or.inr (Or.inr (Or.inr (Or.inr (Or.inr (Or.inr (Or.inr (Or.inr (Or.inl ⟨Int32.toInt_inj.mp (Eq.trans (by assumption) (by decide)), rfl⟩))))))))⟩ | exact ⟨_, _, hq1_0, hq5_0, Or.inr (Or.inr (Or.inr (Or.inr (Or.inr (Or.inr (Or.inr (Or.inr (Or.inr (Or.inl ⟨Int32.toInt_inj.mp (Eq.trans (by assumption) (by decide)), rfl⟩)))))))))⟩ | exact ⟨_, _, hq1_0, hq5_0, Or.inr (Or.inr (Or.inr (Or.inr (Or.inr (Or.inr (Or.inr (Or.inr (Or.inr (Or.inr (Or.inl ⟨Int32.toInt_inj.mp (Eq.trans (by assumption) (by decide)), rfl⟩))))))))))⟩ | exact ⟨_, _, hq1_0, hq5_0, Or.inr (Or.inr (Or.inr (Or.inr (Or.inr (Or.inr (Or.inr (Or.inr (Or.inr (Or.inr (Or.inr (Or.inl ⟨Int32.toInt_inj.mp (Eq.trans (by assumption) (by decide)), (zC_3 (by first | exact (zC_1 (by assumption)).symm | exact (zC_0 (fun z => z (by assumption))).symm) (by first | exact (zC_1 (by assumption)).symm | exact (zC_0 (fun z => z (by assumption))).symm) (by first | exact (zC_1 (by assumption)).symm | exact (zC_0 (fun z => z (by assumption))).symm) (by decide))⟩)))))))))))⟩ | exact ⟨_, _, hq1_0, hq5_0, Or.inr (Or.inr (Or.inr (Or.inr (Or.inr (Or.inr (Or.inr (Or.inr (Or.inr (Or.inr (Or.inr (Or.inr (Or.inl ⟨Int32.toInt_inj.mp (Eq.trans (by assumption) (by decide)), (zO_e hdry (by omega))⟩))))))))))))⟩ | exact ⟨_, _, hq1_0, hq5_0, Or.inr (Or.inr (Or.inr (Or.inr (Or.inr (Or.inr (Or.inr (Or.inr (Or.inr (Or.inr (Or.inr (Or.inr (Or.inr (Or.inl ⟨Int32.toInt_inj.mp (Eq.trans (by assumption) (by decide)), hq317_0⟩)))))))))))))⟩ | exact ⟨_, _, hq1_0, hq5_0, Or.inr (Or.inr (Or.inr (Or.inr (Or.inr (Or.inr (Or.inr (Or.inr (Or.inr (Or.inr (Or.inr (Or.inr (Or.inr (Or.inr (⟨by assumption, rfl⟩))))))))))))))⟩), (by first | assumption | exact Or.inl rfl | exact Or.inr rfl | omega | exact Or.inr (by assumption) | exact zz_oku (by assumption) (by first | exact Or.inl rfl | exact Or.inr ⟨_, by omega, rfl⟩))⟩ (hw.sub [3, 4, 5, 6, 7, 8, 9, 10, 1, 11, 12, 13, 14, 15, 16, 17, 18, 19, 20, 21, 2, 22, 23, 0] (by decide +kernel) rfl) rfl dX10_count_322
  · rcases (show (ar1 : Int32).toInt = 0 ∨ (ar1 : Int32).toInt = 1 ∨ (ar1 : Int32).toInt = 2 ∨ (ar1 : Int32).toInt = 3 ∨ (ar1 : Int32).toInt = 4 ∨ (ar1 : Int32).toInt = 5 ∨ (ar1 : Int32).toInt = 6 ∨ (ar1 : Int32).toInt = 7 ∨ (ar1 : Int32).toInt = 8 ∨ (ar1 : Int32).toInt = 9 ∨ (ar1 : Int32).toInt = 10 ∨ (ar1 : Int32).toInt = 11 ∨ (ar1 : Int32).toInt = 12 ∨ (ar1 : Int32).toInt = 13 by omega) with qw8 | qw8 | qw8 | qw8 | qw8 | qw8 | qw8 | qw8 | qw8 | qw8 | qw8 | qw8 | qw8 | qw8
    · skip
      refine lv_tableIn (off := 69) (tgt := 80) hx hb dX10_count_11 (by rw [qw8]; decide) (by rw [qw8]; decide) (by rw [qw8]; rfl) (by decide) ?_
      refine lv_aload_n hx hb dX10_count_80 rfl (lv_at hl 1 rfl) ?_
      refine zz_get (v := .ref (r 22)) S hw fgX10_43 3 rfl rfl dX10_count_81 ?_
      refine lv_aload_n hx hb dX10_count_84 rfl (lv_at hl 1 rfl) ?_
      refine zz_get (v := .int (nI lv)) S hw fgX10_236 3 rfl rfl dX10_count_85 ?_
      refine zz_iald (v := (nI pp)) S hw 4 rfl (vp_in_nI (n := lv) (by omega) (by decide)) (by rw [show ((nI lv) : Int32).toNatClampNeg = lv from nI_clamp (n := lv) (by omega)]; exact hpe) dX10_count_88 ?_
      exact hret _ _ _ _ _ _ ⟨(nI pp), k47_4, k50_1, k51_2, d45_5, d46_6, d49_3, d52_7, rfl, rfl, (by first | exact ⟨_, _, hq1_0, hq5_0, Or.inl ⟨Int32.toInt_inj.mp (Eq.trans (by assumption) (by decide)), rfl⟩⟩ | exact ⟨_, _, hq1_0, hq5_0, Or.inr (Or.inl ⟨Int32.toInt_inj.mp (Eq.trans (by assumption) (by decide)), rfl⟩)⟩ | exact ⟨_, _, hq1_0, hq5_0, Or.inr (Or.inr (Or.inl ⟨Int32.toInt_inj.mp (Eq.trans (by assumption) (by decide)), rfl⟩))⟩ | exact ⟨_, _, hq1_0, hq5_0, Or.inr (Or.inr (Or.inr (Or.inr (Or.inl ⟨Int32.toInt_inj.mp (Eq.trans (by assumption) (by decide)), hq127_0⟩))))⟩ | exact ⟨_, _, hq1_0, hq5_0, Or.inr (Or.inr (Or.inr (Or.inr (Or.inr (Or.inl ⟨Int32.toInt_inj.mp (Eq.trans (by assumption) (by decide)), (zS_e hdry (by omega))⟩)))))⟩ | exact ⟨_, _, hq1_0, hq5_0, Or.inr (Or.inr (Or.inr (Or.inr (Or.inr (Or.inr (Or.inl ⟨Int32.toInt_inj.mp (Eq.trans (by assumption) (by decide)), (zV_e hdry (by omega))⟩))))))⟩ | exact ⟨_, _, hq1_0, hq5_0, Or.inr (Or.inr (Or.inr (Or.inr (Or.inr (Or.inr (Or.inr (Or.inl ⟨Int32.toInt_inj.mp (Eq.trans (by assumption) (by decide)), rfl⟩)))))))⟩ | exact ⟨_, _, hq1_0, hq5_0, Or.inr (Or.inr (Or.inr (Or.inr (Or.inr (Or.inr (Or.inr (Or.inr (Or.inl ⟨Int32.toInt_inj.mp (Eq.trans (by assumption) (by decide)), rfl⟩))))))))⟩ | exact ⟨_, _, hq1_0, hq5_0, Or.inr (Or.inr (Or.inr (Or.inr (Or.inr (Or.inr (Or.inr (Or.inr (Or.inr (Or.inl ⟨Int32.toInt_inj.mp (Eq.trans (by assumption) (by decide)), rfl⟩)))))))))⟩ | exact ⟨_, _, hq1_0, hq5_0, Or.inr (Or.inr (Or.inr (Or.inr (Or.inr (Or.inr (Or.inr (Or.inr (Or.inr (Or.inr (Or.inl ⟨Int32.toInt_inj.mp (Eq.trans (by assumption) (by decide)), rfl⟩))))))))))⟩ | exact ⟨_, _, hq1_0, hq5_0, Or.inr (Or.inr (Or.inr (Or.inr (Or.inr (Or.inr (Or.inr (Or.inr (Or.inr (Or.inr (Or.inr (Or.inl ⟨Int32.toInt_inj.mp (Eq.trans (by assumption) (by decide)), (zC_3 (by first | exact (zC_1 (by assumption)).symm | exact (zC_0 (fun z => z (by assumption))).symm) (by first | exact (zC_1 (by assumption)).symm | exact (zC_0 (fun z => z (by assumption))).symm) (by first | exact (zC_1 (by assumption)).symm | exact (zC_0 (fun z => z (by assumption))).symm) (by decide))⟩)))))))))))⟩ | exact ⟨_, _, hq1_0, hq5_0, Or.inr (Or.inr (Or.inr (Or.inr (Or.inr (Or.inr (Or.inr (Or.inr (Or.inr (Or.inr (Or.inr (Or.inr (Or.inl ⟨Int32.toInt_inj.mp (Eq.trans (by assumption) (by decide)), (zO_e hdry (by omega))⟩))))))))))))⟩ | exact ⟨_, _, hq1_0, hq5_0, Or.inr (Or.inr (Or.inr (Or.inr (Or.inr (Or.inr (Or.inr (Or.inr (Or.inr (Or.inr (Or.inr (Or.inr (Or.inr (Or.inl ⟨Int32.toInt_inj.mp (Eq.trans (by assumption) (by decide)), hq317_0⟩)))))))))))))⟩ | exact ⟨_, _, hq1_0, hq5_0, Or.inr (Or.inr (Or.inr (Or.inr (Or.inr (Or.inr (Or.inr (Or.inr (Or.inr (Or.inr (Or.inr (Or.inr (Or.inr (Or.inr (⟨by assumption, rfl⟩))))))))))))))⟩), (by first | assumption | exact Or.inl rfl | exact Or.inr rfl | omega | exact Or.inr (by assumption) | exact zz_oku (by assumption) (by first | exact Or.inl rfl | exact Or.inr ⟨_, by omega, rfl⟩))⟩ (hw.sub [3, 4, 5, 6, 7, 8, 9, 10, 1, 11, 12, 13, 14, 15, 16, 17, 18, 19, 20, 21, 2, 22, 23, 0] (by decide +kernel) rfl) rfl dX10_count_89
    · skip
      refine lv_tableIn (off := 79) (tgt := 90) hx hb dX10_count_11 (by rw [qw8]; decide) (by rw [qw8]; decide) (by rw [qw8]; rfl) (by decide) ?_
      refine lv_aload_n hx hb dX10_count_90 rfl (lv_at hl 1 rfl) ?_
      refine W.eq (g2 := F0 m 91 ls [.ref (r 0)]) rfl ?_
      refine zz_get (v := .ref (r 26)) S hw fgX10_55 3 rfl rfl dX10_count_91 ?_
      refine lv_aload_n hx hb dX10_count_94 rfl (lv_at hl 1 rfl) ?_
      refine zz_get (v := .int (nI lv)) S hw fgX10_236 3 rfl rfl dX10_count_95 ?_
      refine zz_iald (v := (nI pq)) S hw 7 rfl (vp_in_nI (n := lv) (by omega) (by decide)) (by rw [show ((nI lv) : Int32).toNatClampNeg = lv from nI_clamp (n := lv) (by omega)]; exact hpa) dX10_count_98 ?_
      exact hret _ _ _ _ _ _ ⟨(nI pq), k47_4, k50_1, k51_2, d45_5, d46_6, d49_3, d52_7, rfl, rfl, (by first | exact ⟨_, _, hq1_0, hq5_0, Or.inl ⟨Int32.toInt_inj.mp (Eq.trans (by assumption) (by decide)), rfl⟩⟩ | exact ⟨_, _, hq1_0, hq5_0, Or.inr (Or.inl ⟨Int32.toInt_inj.mp (Eq.trans (by assumption) (by decide)), rfl⟩)⟩ | exact ⟨_, _, hq1_0, hq5_0, Or.inr (Or.inr (Or.inl ⟨Int32.toInt_inj.mp (Eq.trans (by assumption) (by decide)), rfl⟩))⟩ | exact ⟨_, _, hq1_0, hq5_0, Or.inr (Or.inr (Or.inr (Or.inr (Or.inl ⟨Int32.toInt_inj.mp (Eq.trans (by assumption) (by decide)), hq127_0⟩))))⟩ | exact ⟨_, _, hq1_0, hq5_0, Or.inr (Or.inr (Or.inr (Or.inr (Or.inr (Or.inl ⟨Int32.toInt_inj.mp (Eq.trans (by assumption) (by decide)), (zS_e hdry (by omega))⟩)))))⟩ | exact ⟨_, _, hq1_0, hq5_0, Or.inr (Or.inr (Or.inr (Or.inr (Or.inr (Or.inr (Or.inl ⟨Int32.toInt_inj.mp (Eq.trans (by assumption) (by decide)), (zV_e hdry (by omega))⟩))))))⟩ | exact ⟨_, _, hq1_0, hq5_0, Or.inr (Or.inr (Or.inr (Or.inr (Or.inr (Or.inr (Or.inr (Or.inl ⟨Int32.toInt_inj.mp (Eq.trans (by assumption) (by decide)), rfl⟩)))))))⟩ | exact ⟨_, _, hq1_0, hq5_0, Or.inr (Or.inr (Or.inr (Or.inr (Or.inr (Or.inr (Or.inr (Or.inr (Or.inl ⟨Int32.toInt_inj.mp (Eq.trans (by assumption) (by decide)), rfl⟩))))))))⟩ | exact ⟨_, _, hq1_0, hq5_0, Or.inr (Or.inr (Or.inr (Or.inr (Or.inr (Or.inr (Or.inr (Or.inr (Or.inr (Or.inl ⟨Int32.toInt_inj.mp (Eq.trans (by assumption) (by decide)), rfl⟩)))))))))⟩ | exact ⟨_, _, hq1_0, hq5_0, Or.inr (Or.inr (Or.inr (Or.inr (Or.inr (Or.inr (Or.inr (Or.inr (Or.inr (Or.inr (Or.inl ⟨Int32.toInt_inj.mp (Eq.trans (by assumption) (by decide)), rfl⟩))))))))))⟩ | exact ⟨_, _, hq1_0, hq5_0, Or.inr (Or.inr (Or.inr (Or.inr (Or.inr (Or.inr (Or.inr (Or.inr (Or.inr (Or.inr (Or.inr (Or.inl ⟨Int32.toInt_inj.mp (Eq.trans (by assumption) (by decide)), (zC_3 (by first | exact (zC_1 (by assumption)).symm | exact (zC_0 (fun z => z (by assumption))).symm) (by first | exact (zC_1 (by assumption)).symm | exact (zC_0 (fun z => z (by assumption))).symm) (by first | exact (zC_1 (by assumption)).symm | exact (zC_0 (fun z => z (by assumption))).symm) (by decide))⟩)))))))))))⟩ | exact ⟨_, _, hq1_0, hq5_0, Or.inr (Or.inr (Or.inr (Or.inr (Or.inr (Or.inr (Or.inr (Or.inr (Or.inr (Or.inr (Or.inr (Or.inr (Or.inl ⟨Int32.toInt_inj.mp (Eq.trans (by assumption) (by decide)), (zO_e hdry (by omega))⟩))))))))))))⟩ | exact ⟨_, _, hq1_0, hq5_0, Or.inr (Or.inr (Or.inr (Or.inr (Or.inr (Or.inr (Or.inr (Or.inr (Or.inr (Or.inr (Or.inr (Or.inr (Or.inr (Or.inl ⟨Int32.toInt_inj.mp (Eq.trans (by assumption) (by decide)), hq317_0⟩)))))))))))))⟩ | exact ⟨_, _, hq1_0, hq5_0, Or.inr (Or.inr (Or.inr (Or.inr (Or.inr (Or.inr (Or.inr (Or.inr (Or.inr (Or.inr (Or.inr (Or.inr (Or.inr (Or.inr (⟨by assumption, rfl⟩))))))))))))))⟩), (by first | assumption | exact Or.inl rfl | exact Or.inr rfl | omega | exact Or.inr (by assumption) | exact zz_oku (by assumption) (by first | exact Or.inl rfl | exact Or.inr ⟨_, by omega, rfl⟩))⟩ (hw.sub [3, 4, 5, 6, 7, 8, 9, 10, 1, 11, 12, 13, 14, 15, 16, 17, 18, 19, 20, 21, 2, 22, 23, 0] (by decide +kernel) rfl) rfl dX10_count_99
    · skip
      refine lv_tableIn (off := 89) (tgt := 100) hx hb dX10_count_11 (by rw [qw8]; decide) (by rw [qw8]; decide) (by rw [qw8]; rfl) (by decide) ?_
      refine lv_aload_n hx hb dX10_count_100 rfl (lv_at hl 1 rfl) ?_
      refine zz_get (v := .ref (r 49)) S hw fgX10_113 3 rfl rfl dX10_count_101 ?_
      refine lv_bipush (v := 69) hx hb dX10_count_104 (by decide) ?_
      refine zz_iald (v := (d49_3 69)) S hw 22 rfl (vp_in_nI (n := 69) (by decide) (by decide)) (congrArg d49_3 (nI_clamp (n := 69) (by decide))) dX10_count_106 ?_
      exact hret _ _ _ _ _ _ ⟨(d49_3 69), k47_4, k50_1, k51_2, d45_5, d46_6, d49_3, d52_7, rfl, rfl, (by first | exact ⟨_, _, hq1_0, hq5_0, Or.inl ⟨Int32.toInt_inj.mp (Eq.trans (by assumption) (by decide)), rfl⟩⟩ | exact ⟨_, _, hq1_0, hq5_0, Or.inr (Or.inl ⟨Int32.toInt_inj.mp (Eq.trans (by assumption) (by decide)), rfl⟩)⟩ | exact ⟨_, _, hq1_0, hq5_0, Or.inr (Or.inr (Or.inl ⟨Int32.toInt_inj.mp (Eq.trans (by assumption) (by decide)), rfl⟩))⟩ | exact ⟨_, _, hq1_0, hq5_0, Or.inr (Or.inr (Or.inr (Or.inr (Or.inl ⟨Int32.toInt_inj.mp (Eq.trans (by assumption) (by decide)), hq127_0⟩))))⟩ | exact ⟨_, _, hq1_0, hq5_0, Or.inr (Or.inr (Or.inr (Or.inr (Or.inr (Or.inl ⟨Int32.toInt_inj.mp (Eq.trans (by assumption) (by decide)), (zS_e hdry (by omega))⟩)))))⟩ | exact ⟨_, _, hq1_0, hq5_0, Or.inr (Or.inr (Or.inr (Or.inr (Or.inr (Or.inr (Or.inl ⟨Int32.toInt_inj.mp (Eq.trans (by assumption) (by decide)), (zV_e hdry (by omega))⟩))))))⟩ | exact ⟨_, _, hq1_0, hq5_0, Or.inr (Or.inr (Or.inr (Or.inr (Or.inr (Or.inr (Or.inr (Or.inl ⟨Int32.toInt_inj.mp (Eq.trans (by assumption) (by decide)), rfl⟩)))))))⟩ | exact ⟨_, _, hq1_0, hq5_0, Or.inr (Or.inr (Or.inr (Or.inr (Or.inr (Or.inr (Or.inr (Or.inr (Or.inl ⟨Int32.toInt_inj.mp (Eq.trans (by assumption) (by decide)), rfl⟩))))))))⟩ | exact ⟨_, _, hq1_0, hq5_0, Or.inr (Or.inr (Or.inr (Or.inr (Or.inr (Or.inr (Or.inr (Or.inr (Or.inr (Or.inl ⟨Int32.toInt_inj.mp (Eq.trans (by assumption) (by decide)), rfl⟩)))))))))⟩ | exact ⟨_, _, hq1_0, hq5_0, Or.inr (Or.inr (Or.inr (Or.inr (Or.inr (Or.inr (Or.inr (Or.inr (Or.inr (Or.inr (Or.inl ⟨Int32.toInt_inj.mp (Eq.trans (by assumption) (by decide)), rfl⟩))))))))))⟩ | exact ⟨_, _, hq1_0, hq5_0, Or.inr (Or.inr (Or.inr (Or.inr (Or.inr (Or.inr (Or.inr (Or.inr (Or.inr (Or.inr (Or.inr (Or.inl ⟨Int32.toInt_inj.mp (Eq.trans (by assumption) (by decide)), (zC_3 (by first | exact (zC_1 (by assumption)).symm | exact (zC_0 (fun z => z (by assumption))).symm) (by first | exact (zC_1 (by assumption)).symm | exact (zC_0 (fun z => z (by assumption))).symm) (by first | exact (zC_1 (by assumption)).symm | exact (zC_0 (fun z => z (by assumption))).symm) (by decide))⟩)))))))))))⟩ | exact ⟨_, _, hq1_0, hq5_0, Or.inr (Or.inr (Or.inr (Or.inr (Or.inr (Or.inr (Or.inr (Or.inr (Or.inr (Or.inr (Or.inr (Or.inr (Or.inl ⟨Int32.toInt_inj.mp (Eq.trans (by assumption) (by decide)), (zO_e hdry (by omega))⟩))))))))))))⟩ | exact ⟨_, _, hq1_0, hq5_0, Or.inr (Or.inr (Or.inr (Or.inr (Or.inr (Or.inr (Or.inr (Or.inr (Or.inr (Or.inr (Or.inr (Or.inr (Or.inr (Or.inl ⟨Int32.toInt_inj.mp (Eq.trans (by assumption) (by decide)), hq317_0⟩)))))))))))))⟩ | exact ⟨_, _, hq1_0, hq5_0, Or.inr (Or.inr (Or.inr (Or.inr (Or.inr (Or.inr (Or.inr (Or.inr (Or.inr (Or.inr (Or.inr (Or.inr (Or.inr (Or.inr (⟨by assumption, rfl⟩))))))))))))))⟩), (by first | assumption | exact Or.inl rfl | exact Or.inr rfl | omega | exact Or.inr (by assumption) | exact zz_oku (by assumption) (by first | exact Or.inl rfl | exact Or.inr ⟨_, by omega, rfl⟩))⟩ (hw.sub [3, 4, 5, 6, 7, 8, 9, 10, 1, 11, 12, 13, 14, 15, 16, 17, 18, 19, 20, 21, 2, 22, 23, 0] (by decide +kernel) rfl) rfl dX10_count_107
    · skip
      refine lv_tableIn (off := 97) (tgt := 108) hx hb dX10_count_11 (by rw [qw8]; decide) (by rw [qw8]; decide) (by rw [qw8]; rfl) (by decide) ?_
      refine lv_aload_n hx hb dX10_count_108 rfl (lv_at hl 1 rfl) ?_
      refine zz_get (v := .ref (r 26)) S hw fgX10_55 3 rfl rfl dX10_count_109 ?_
      refine lv_aload_n hx hb dX10_count_112 rfl (lv_at hl 1 rfl) ?_
      refine zz_get (v := .int (nI lv)) S hw fgX10_236 3 rfl rfl dX10_count_113 ?_
      refine zz_iald (v := (nI pq)) S hw 7 rfl (vp_in_nI (n := lv) (by omega) (by decide)) (by rw [show ((nI lv) : Int32).toNatClampNeg = lv from nI_clamp (n := lv) (by omega)]; exact hpa) dX10_count_116 ?_
      refine lv_aload_n hx hb dX10_count_117 rfl (lv_at hl 1 rfl) ?_
      refine W.eq (g2 := F0 m 118 ls [.ref (r 0), .int (nI pq)]) rfl ?_
      refine zz_callV (qb := 3) (As := []) (rest := [.int (nI pq)]) (wr := [((r 65), .inl (G.2 2, 3, .inl c65)), ((r 31), .inl (G.2 0, 2, .inl c31)), ((r 48), .inl (G.2 0, 71, .inl c48)), ((r 22), .inl (G.2 0, 2, .inl c22)), ((r 24), .inl (G.2 0, 14, .inl c24)), ((r 25), .inl (G.2 0, 14, .inl c25)), ((r 28), .inl (G.2 0, 12, .inl c28)), ((r 29), .inl (G.2 0, 12, .inl c29)), ((r 30), .inl (G.2 0, 2, .inl c30)), ((r 32), .inl (G.2 0, 8, .inl c32)), ((r 33), .inl (G.2 0, 8, .inl c33)), ((r 35), .inl (G.2 2, 260, .inl c35)), ((r 36), .inl (G.2 0, 260, .inl c36)), ((r 37), .inl (G.2 0, 260, .inl c37)), ((r 38), .inl (G.2 0, 260, .inl c38)), ((r 39), .inl (G.2 0, 260, .inl c39)), ((r 41), .inl (G.2 0, 840, .inl c41)), ((r 42), .inl (G.2 0, 840, .inl c42)), ((r 45), .inl (G.2 0, 9, .inl d45_5)), ((r 46), .inl (G.2 0, 400, .inl d46_6)), ((r 49), .inl (G.2 0, 71, .inl d49_3))]) S hw hl.1 lX10_400 (c_x_emptyBits l G r j0 j2 j4 j10 j11 j12 j13 j14 j15 j16 j17 j19 j20 j34 j40 j44 k47_4 k50_1 k51_2 j56 j61 lv pq c26 d52_7 (by first | assumption | omega | exact Or.inr ⟨_, by omega, rfl⟩ | (unfold zz_sok; decide) | decide | exact (fun j hj => (hv7 j hj).1)) (by first | assumption | omega | exact Or.inr ⟨_, by omega, rfl⟩ | (unfold zz_sok; decide) | decide | exact (fun j hj => (hv7 j hj).1)) (by first | assumption | omega | exact Or.inr ⟨_, by omega, rfl⟩ | (unfold zz_sok; decide) | decide | exact (fun j hj => (hv7 j hj).1)) (by first | assumption | omega | exact Or.inr ⟨_, by omega, rfl⟩ | (unfold zz_sok; decide) | decide | exact (fun j hj => (hv7 j hj).1))) ⟨Nat.le_of_ble_eq_true rfl, Nat.le_of_ble_eq_true rfl⟩ ⟨Nat.le_of_ble_eq_true rfl, Nat.le_of_ble_eq_true rfl⟩ [3, 7, 23] [0, 1, 2, 4, 5, 6, 8, 9, 10, 11, 12, 13, 14, 15, 16, 17, 18, 19, 20, 21, 22] (by decide +kernel) rfl rfl (by decide +kernel) (by decide +kernel) rfl rfl rfl rfl (Nat.le_of_ble_eq_true rfl) dX10_count_118 ?_
      clear hw
      intro rr u H locs hp hw
      refine hp.elim fun rv_9 zg0 => zg0.elim fun zee1 zg1 => zg1.elim fun zee2 hq118_0 => ?_
      clear hp zg0 zg1
      subst zee1
      subst zee2
      replace hw : zz_w G A s [((r 65), .inl (G.2 2, 3, .inl c65)), ((r 31), .inl (G.2 0, 2, .inl c31)), ((r 48), .inl (G.2 0, 71, .inl c48)), ((r 22), .inl (G.2 0, 2, .inl c22)), ((r 24), .inl (G.2 0, 14, .inl c24)), ((r 25), .inl (G.2 0, 14, .inl c25)), ((r 28), .inl (G.2 0, 12, .inl c28)), ((r 29), .inl (G.2 0, 12, .inl c29)), ((r 30), .inl (G.2 0, 2, .inl c30)), ((r 32), .inl (G.2 0, 8, .inl c32)), ((r 33), .inl (G.2 0, 8, .inl c33)), ((r 35), .inl (G.2 2, 260, .inl c35)), ((r 36), .inl (G.2 0, 260, .inl c36)), ((r 37), .inl (G.2 0, 260, .inl c37)), ((r 38), .inl (G.2 0, 260, .inl c38)), ((r 39), .inl (G.2 0, 260, .inl c39)), ((r 41), .inl (G.2 0, 840, .inl c41)), ((r 42), .inl (G.2 0, 840, .inl c42)), ((r 45), .inl (G.2 0, 9, .inl d45_5)), ((r 46), .inl (G.2 0, 400, .inl d46_6)), ((r 49), .inl (G.2 0, 71, .inl d49_3)), ((r 0), .inr (10, (zz_mo r [(0, j0), (2, j2), (4, j4), (10, j10), (11, j11), (12, j12), (13, j13), (14, j14), (15, j15), (16, j16), (17, j17), (18, (nI lv)), (19, j19), (20, j20), (34, j34), (40, j40), (44, j44), (47, k47_4), (50, k50_1), (51, k51_2), (56, j56), (61, j61)]))), ((r 26), .inl (G.2 0, 2, .inl c26)), ((r 52), .inl (G.2 0, 6, .inl d52_7))] H _ := hw
      refine W.eq (g2 := F0 m 121 ls [.int rv_9, .int (nI pq)]) rfl ?_
      refine zz_callS (As := [.int rv_9]) (rest := [.int (nI pq)]) (wr := [((r 65), .inl (G.2 2, 3, .inl c65)), ((r 31), .inl (G.2 0, 2, .inl c31)), ((r 48), .inl (G.2 0, 71, .inl c48)), ((r 22), .inl (G.2 0, 2, .inl c22)), ((r 24), .inl (G.2 0, 14, .inl c24)), ((r 25), .inl (G.2 0, 14, .inl c25)), ((r 28), .inl (G.2 0, 12, .inl c28)), ((r 29), .inl (G.2 0, 12, .inl c29)), ((r 30), .inl (G.2 0, 2, .inl c30)), ((r 32), .inl (G.2 0, 8, .inl c32)), ((r 33), .inl (G.2 0, 8, .inl c33)), ((r 35), .inl (G.2 2, 260, .inl c35)), ((r 36), .inl (G.2 0, 260, .inl c36)), ((r 37), .inl (G.2 0, 260, .inl c37)), ((r 38), .inl (G.2 0, 260, .inl c38)), ((r 39), .inl (G.2 0, 260, .inl c39)), ((r 41), .inl (G.2 0, 840, .inl c41)), ((r 42), .inl (G.2 0, 840, .inl c42)), ((r 45), .inl (G.2 0, 9, .inl d45_5)), ((r 46), .inl (G.2 0, 400, .inl d46_6)), ((r 49), .inl (G.2 0, 71, .inl d49_3)), ((r 0), .inr (10, (zz_mo r [(0, j0), (2, j2), (4, j4), (10, j10), (11, j11), (12, j12), (13, j13), (14, j14), (15, j15), (16, j16), (17, j17), (18, (nI lv)), (19, j19), (20, j20), (34, j34), (40, j40), (44, j44), (47, k47_4), (50, k50_1), (51, k51_2), (56, j56), (61, j61)]))), ((r 26), .inl (G.2 0, 2, .inl c26)), ((r 52), .inl (G.2 0, 6, .inl d52_7))]) S hw hl.1 lX10_436 (c_x_bits l G rv_9) ⟨Nat.le_of_ble_eq_true rfl, Nat.le_of_ble_eq_true rfl⟩ ⟨Nat.le_of_ble_eq_true rfl, Nat.le_of_ble_eq_true rfl⟩ [] [0, 1, 2, 3, 4, 5, 6, 7, 8, 9, 10, 11, 12, 13, 14, 15, 16, 17, 18, 19, 20, 21, 22, 23] (by decide +kernel) rfl rfl (by decide +kernel) (by decide +kernel) rfl rfl (Nat.le_of_ble_eq_true rfl) dX10_count_121 ?_
      clear hw
      intro rr u H locs hp hw
      refine hp.elim fun rv_10 zg0 => zg0.elim fun zee1 zg1 => zg1.elim fun zee2 hq121_0 => ?_
      clear hp zg0 zg1
      subst zee1
      subst zee2
      replace hw : zz_w G A s [((r 65), .inl (G.2 2, 3, .inl c65)), ((r 31), .inl (G.2 0, 2, .inl c31)), ((r 48), .inl (G.2 0, 71, .inl c48)), ((r 22), .inl (G.2 0, 2, .inl c22)), ((r 24), .inl (G.2 0, 14, .inl c24)), ((r 25), .inl (G.2 0, 14, .inl c25)), ((r 28), .inl (G.2 0, 12, .inl c28)), ((r 29), .inl (G.2 0, 12, .inl c29)), ((r 30), .inl (G.2 0, 2, .inl c30)), ((r 32), .inl (G.2 0, 8, .inl c32)), ((r 33), .inl (G.2 0, 8, .inl c33)), ((r 35), .inl (G.2 2, 260, .inl c35)), ((r 36), .inl (G.2 0, 260, .inl c36)), ((r 37), .inl (G.2 0, 260, .inl c37)), ((r 38), .inl (G.2 0, 260, .inl c38)), ((r 39), .inl (G.2 0, 260, .inl c39)), ((r 41), .inl (G.2 0, 840, .inl c41)), ((r 42), .inl (G.2 0, 840, .inl c42)), ((r 45), .inl (G.2 0, 9, .inl d45_5)), ((r 46), .inl (G.2 0, 400, .inl d46_6)), ((r 49), .inl (G.2 0, 71, .inl d49_3)), ((r 0), .inr (10, (zz_mo r [(0, j0), (2, j2), (4, j4), (10, j10), (11, j11), (12, j12), (13, j13), (14, j14), (15, j15), (16, j16), (17, j17), (18, (nI lv)), (19, j19), (20, j20), (34, j34), (40, j40), (44, j44), (47, k47_4), (50, k50_1), (51, k51_2), (56, j56), (61, j61)]))), ((r 26), .inl (G.2 0, 2, .inl c26)), ((r 52), .inl (G.2 0, 6, .inl d52_7))] H _ := hw
      refine W.eq (g2 := F0 m 124 ls [.int rv_10, .int (nI pq)]) rfl ?_
      refine lv_isub hx hb dX10_count_124 ?_
      refine lv_topi (fun z11 ez11 => ?_)
      exact hret _ _ _ _ _ _ ⟨z11, k47_4, k50_1, k51_2, d45_5, d46_6, d49_3, d52_7, rfl, rfl, (by first | exact ⟨_, _, hq1_0, hq5_0, Or.inl ⟨Int32.toInt_inj.mp (Eq.trans (by assumption) (by decide)), rfl⟩⟩ | exact ⟨_, _, hq1_0, hq5_0, Or.inr (Or.inl ⟨Int32.toInt_inj.mp (Eq.trans (by assumption) (by decide)), rfl⟩)⟩ | exact ⟨_, _, hq1_0, hq5_0, Or.inr (Or.inr (Or.inl ⟨Int32.toInt_inj.mp (Eq.trans (by assumption) (by decide)), rfl⟩))⟩ | exact ⟨_, _, hq1_0, hq5_0, Or.inr (Or.inr (Or.inr (Or.inl ⟨Int32.toInt_inj.mp (Eq.trans (by assumption) (by decide)), (zC_3b (hq121_0.trans (by rw [hq118_0])) ez11)⟩)))⟩ | exact ⟨_, _, hq1_0, hq5_0, Or.inr (Or.inr (Or.inr (Or.inr (Or.inl ⟨Int32.toInt_inj.mp (Eq.trans (by assumption) (by decide)), hq127_0⟩))))⟩ | exact ⟨_, _, hq1_0, hq5_0, Or.inr (Or.inr (Or.inr (Or.inr (Or.inr (Or.inl ⟨Int32.toInt_inj.mp (Eq.trans (by assumption) (by decide)), (zS_e hdry (by omega))⟩)))))⟩ | exact ⟨_, _, hq1_0, hq5_0, Or.inr (Or.inr (Or.inr (Or.inr (Or.inr (Or.inr (Or.inl ⟨Int32.toInt_inj.mp (Eq.trans (by assumption) (by decide)), (zV_e hdry (by omega))⟩))))))⟩ | exact ⟨_, _, hq1_0, hq5_0, Or.inr (Or.inr (Or.inr (Or.inr (Or.inr (Or.inr (Or.inr (Or.inl ⟨Int32.toInt_inj.mp (Eq.trans (by assumption) (by decide)), rfl⟩)))))))⟩ | exact ⟨_, _, hq1_0, hq5_0, Or.inr (Or.inr (Or.inr (Or.inr (Or.inr (Or.inr (Or.inr (Or.inr (Or.inl ⟨Int32.toInt_inj.mp (Eq.trans (by assumption) (by decide)), rfl⟩))))))))⟩ | exact ⟨_, _, hq1_0, hq5_0, Or.inr (Or.inr (Or.inr (Or.inr (Or.inr (Or.inr (Or.inr (Or.inr (Or.inr (Or.inl ⟨Int32.toInt_inj.mp (Eq.trans (by assumption) (by decide)), rfl⟩)))))))))⟩ | exact ⟨_, _, hq1_0, hq5_0, Or.inr (Or.inr (Or.inr (Or.inr (Or.inr (Or.inr (Or.inr (Or.inr (Or.inr (Or.inr (Or.inl ⟨Int32.toInt_inj.mp (Eq.trans (by assumption) (by decide)), rfl⟩))))))))))⟩ | exact ⟨_, _, hq1_0, hq5_0, Or.inr (Or.inr (Or.inr (Or.inr (Or.inr (Or.inr (Or.inr (Or.inr (Or.inr (Or.inr (Or.inr (Or.inl ⟨Int32.toInt_inj.mp (Eq.trans (by assumption) (by decide)), (zC_3 (by first | exact (zC_1 (by assumption)).symm | exact (zC_0 (fun z => z (by assumption))).symm) (by first | exact (zC_1 (by assumption)).symm | exact (zC_0 (fun z => z (by assumption))).symm) (by first | exact (zC_1 (by assumption)).symm | exact (zC_0 (fun z => z (by assumption))).symm) (by decide))⟩)))))))))))⟩ | exact ⟨_, _, hq1_0, hq5_0, Or.inr (Or.inr (Or.inr (Or.inr (Or.inr (Or.inr (Or.inr (Or.inr (Or.inr (Or.inr (Or.inr (Or.inr (Or.inl ⟨Int32.toInt_inj.mp (Eq.trans (by assumption) (by decide)), (zO_e hdry (by omega))⟩))))))))))))⟩ | exact ⟨_, _, hq1_0, hq5_0, Or.inr (Or.inr (Or.inr (Or.inr (Or.inr (Or.inr (Or.inr (Or.inr (Or.inr (Or.inr (Or.inr (Or.inr (Or.inr (Or.inl ⟨Int32.toInt_inj.mp (Eq.trans (by assumption) (by decide)), hq317_0⟩)))))))))))))⟩ | exact ⟨_, _, hq1_0, hq5_0, Or.inr (Or.inr (Or.inr (Or.inr (Or.inr (Or.inr (Or.inr (Or.inr (Or.inr (Or.inr (Or.inr (Or.inr (Or.inr (Or.inr (⟨by assumption, rfl⟩))))))))))))))⟩), (by first | assumption | exact Or.inl rfl | exact Or.inr rfl | omega | exact Or.inr (by assumption) | exact zz_oku (by assumption) (by first | exact Or.inl rfl | exact Or.inr ⟨_, by omega, rfl⟩))⟩ (hw.sub [21, 3, 4, 5, 22, 6, 7, 8, 1, 9, 10, 11, 12, 13, 14, 15, 16, 17, 18, 19, 2, 20, 23, 0] (by decide +kernel) rfl) rfl dX10_count_125
    · skip
      refine lv_tableIn (off := 115) (tgt := 126) hx hb dX10_count_11 (by rw [qw8]; decide) (by rw [qw8]; decide) (by rw [qw8]; rfl) (by decide) ?_
      refine lv_aload_n hx hb dX10_count_126 rfl (lv_at hl 1 rfl) ?_
      refine zz_callV (qb := 3) (As := []) (rest := []) (wr := [((r 65), .inl (G.2 2, 3, .inl c65)), ((r 31), .inl (G.2 0, 2, .inl c31)), ((r 48), .inl (G.2 0, 71, .inl c48)), ((r 22), .inl (G.2 0, 2, .inl c22)), ((r 30), .inl (G.2 0, 2, .inl c30))]) S hw hl.1 lX10_429 (c_x_standsAll l G r j0 j2 j4 j10 j11 j12 j13 j14 j15 j16 j17 j19 j20 j34 j40 j44 k47_4 k50_1 k51_2 j56 j61 lv pq c24 c25 c26 c28 c29 c32 c33 c35 c36 c37 c38 c39 c41 c42 d45_5 d46_6 d49_3 d52_7 (by first | assumption | omega | exact Or.inr ⟨_, by omega, rfl⟩ | (unfold zz_sok; decide) | decide | exact (fun j hj => (hv7 j hj).1)) (by first | assumption | omega | exact Or.inr ⟨_, by omega, rfl⟩ | (unfold zz_sok; decide) | decide | exact (fun j hj => (hv7 j hj).1)) (by first | assumption | omega | exact Or.inr ⟨_, by omega, rfl⟩ | (unfold zz_sok; decide) | decide | exact (fun j hj => (hv7 j hj).1)) (by first | assumption | omega | exact Or.inr ⟨_, by omega, rfl⟩ | (unfold zz_sok; decide) | decide | exact (fun j hj => (hv7 j hj).1)) (by first | assumption | omega | exact Or.inr ⟨_, by omega, rfl⟩ | (unfold zz_sok; decide) | decide | exact (fun j hj => (hv7 j hj).1))) ⟨Nat.le_of_ble_eq_true rfl, Nat.le_of_ble_eq_true rfl⟩ ⟨Nat.le_of_ble_eq_true rfl, Nat.le_of_ble_eq_true rfl⟩ [3, 5, 6, 7, 8, 9, 11, 12, 13, 14, 15, 16, 17, 18, 19, 20, 21, 22, 23] [0, 1, 2, 4, 10] (by decide +kernel) rfl rfl (by decide +kernel) (by decide +kernel) rfl rfl rfl rfl (Nat.le_of_ble_eq_true rfl) dX10_count_127 ?_
      clear hw
      intro rr u H locs hp hw
      refine hp.elim fun rv_12 zg0 => zg0.elim fun k47_13 zg1 => zg1.elim fun d45_14 zg2 => zg2.elim fun d46_15 zg3 => zg3.elim fun zee1 zg4 => zg4.elim fun zee2 hq127_0 => ?_
      clear hp zg0 zg1 zg2 zg3 zg4
      subst zee1
      subst zee2
      replace hw : zz_w G A s [((r 65), .inl (G.2 2, 3, .inl c65)), ((r 31), .inl (G.2 0, 2, .inl c31)), ((r 48), .inl (G.2 0, 71, .inl c48)), ((r 22), .inl (G.2 0, 2, .inl c22)), ((r 30), .inl (G.2 0, 2, .inl c30)), ((r 0), .inr (10, (zz_mo r [(0, j0), (2, j2), (4, j4), (10, j10), (11, j11), (12, j12), (13, j13), (14, j14), (15, j15), (16, j16), (17, j17), (18, (nI lv)), (19, j19), (20, j20), (34, j34), (40, j40), (44, j44), (47, k47_13), (50, k50_1), (51, k51_2), (56, j56), (61, j61)]))), ((r 24), .inl (G.2 0, 14, .inl c24)), ((r 25), .inl (G.2 0, 14, .inl c25)), ((r 26), .inl (G.2 0, 2, .inl c26)), ((r 28), .inl (G.2 0, 12, .inl c28)), ((r 29), .inl (G.2 0, 12, .inl c29)), ((r 32), .inl (G.2 0, 8, .inl c32)), ((r 33), .inl (G.2 0, 8, .inl c33)), ((r 35), .inl (G.2 2, 260, .inl c35)), ((r 36), .inl (G.2 0, 260, .inl c36)), ((r 37), .inl (G.2 0, 260, .inl c37)), ((r 38), .inl (G.2 0, 260, .inl c38)), ((r 39), .inl (G.2 0, 260, .inl c39)), ((r 41), .inl (G.2 0, 840, .inl c41)), ((r 42), .inl (G.2 0, 840, .inl c42)), ((r 45), .inl (G.2 0, 9, .inl d45_14)), ((r 46), .inl (G.2 0, 400, .inl d46_15)), ((r 49), .inl (G.2 0, 71, .inl d49_3)), ((r 52), .inl (G.2 0, 6, .inl d52_7))] H _ := hw
      refine W.eq (g2 := F0 m 130 ls [.int rv_12]) rfl ?_
      exact hret _ _ _ _ _ _ ⟨rv_12, k47_13, k50_1, k51_2, d45_14, d46_15, d49_3, d52_7, rfl, rfl, (by first | exact ⟨_, _, hq1_0, hq5_0, Or.inl ⟨Int32.toInt_inj.mp (Eq.trans (by assumption) (by decide)), rfl⟩⟩ | exact ⟨_, _, hq1_0, hq5_0, Or.inr (Or.inl ⟨Int32.toInt_inj.mp (Eq.trans (by assumption) (by decide)), rfl⟩)⟩ | exact ⟨_, _, hq1_0, hq5_0, Or.inr (Or.inr (Or.inl ⟨Int32.toInt_inj.mp (Eq.trans (by assumption) (by decide)), rfl⟩))⟩ | exact ⟨_, _, hq1_0, hq5_0, Or.inr (Or.inr (Or.inr (Or.inl ⟨Int32.toInt_inj.mp (Eq.trans (by assumption) (by decide)), (zC_3b (hq121_0.trans (by rw [hq118_0])) ez11)⟩)))⟩ | exact ⟨_, _, hq1_0, hq5_0, Or.inr (Or.inr (Or.inr (Or.inr (Or.inl ⟨Int32.toInt_inj.mp (Eq.trans (by assumption) (by decide)), hq127_0⟩))))⟩ | exact ⟨_, _, hq1_0, hq5_0, Or.inr (Or.inr (Or.inr (Or.inr (Or.inr (Or.inl ⟨Int32.toInt_inj.mp (Eq.trans (by assumption) (by decide)), (zS_e hdry (by omega))⟩)))))⟩ | exact ⟨_, _, hq1_0, hq5_0, Or.inr (Or.inr (Or.inr (Or.inr (Or.inr (Or.inr (Or.inl ⟨Int32.toInt_inj.mp (Eq.trans (by assumption) (by decide)), (zV_e hdry (by omega))⟩))))))⟩ | exact ⟨_, _, hq1_0, hq5_0, Or.inr (Or.inr (Or.inr (Or.inr (Or.inr (Or.inr (Or.inr (Or.inl ⟨Int32.toInt_inj.mp (Eq.trans (by assumption) (by decide)), rfl⟩)))))))⟩ | exact ⟨_, _, hq1_0, hq5_0, Or.inr (Or.inr (Or.inr (Or.inr (Or.inr (Or.inr (Or.inr (Or.inr (Or.inl ⟨Int32.toInt_inj.mp (Eq.trans (by assumption) (by decide)), rfl⟩))))))))⟩ | exact ⟨_, _, hq1_0, hq5_0, Or.inr (Or.inr (Or.inr (Or.inr (Or.inr (Or.inr (Or.inr (Or.inr (Or.inr (Or.inl ⟨Int32.toInt_inj.mp (Eq.trans (by assumption) (by decide)), rfl⟩)))))))))⟩ | exact ⟨_, _, hq1_0, hq5_0, Or.inr (Or.inr (Or.inr (Or.inr (Or.inr (Or.inr (Or.inr (Or.inr (Or.inr (Or.inr (Or.inl ⟨Int32.toInt_inj.mp (Eq.trans (by assumption) (by decide)), rfl⟩))))))))))⟩ | exact ⟨_, _, hq1_0, hq5_0, Or.inr (Or.inr (Or.inr (Or.inr (Or.inr (Or.inr (Or.inr (Or.inr (Or.inr (Or.inr (Or.inr (Or.inl ⟨Int32.toInt_inj.mp (Eq.trans (by assumption) (by decide)), (zC_3 (by first | exact (zC_1 (by assumption)).symm | exact (zC_0 (fun z => z (by assumption))).symm) (by first | exact (zC_1 (by assumption)).symm | exact (zC_0 (fun z => z (by assumption))).symm) (by first | exact (zC_1 (by assumption)).symm | exact (zC_0 (fun z => z (by assumption))).symm) (by decide))⟩)))))))))))⟩ | exact ⟨_, _, hq1_0, hq5_0, Or.inr (Or.inr (Or.inr (Or.inr (Or.inr (Or.inr (Or.inr (Or.inr (Or.inr (Or.inr (Or.inr (Or.inr (Or.inl ⟨Int32.toInt_inj.mp (Eq.trans (by assumption) (by decide)), (zO_e hdry (by omega))⟩))))))))))))⟩ | exact ⟨_, _, hq1_0, hq5_0, Or.inr (Or.inr (Or.inr (Or.inr (Or.inr (Or.inr (Or.inr (Or.inr (Or.inr (Or.inr (Or.inr (Or.inr (Or.inr (Or.inl ⟨Int32.toInt_inj.mp (Eq.trans (by assumption) (by decide)), hq317_0⟩)))))))))))))⟩ | exact ⟨_, _, hq1_0, hq5_0, Or.inr (Or.inr (Or.inr (Or.inr (Or.inr (Or.inr (Or.inr (Or.inr (Or.inr (Or.inr (Or.inr (Or.inr (Or.inr (Or.inr (⟨by assumption, rfl⟩))))))))))))))⟩), (by first | assumption | exact Or.inl rfl | exact Or.inr rfl | omega | exact Or.inr (by assumption) | exact zz_oku (by assumption) (by first | exact Or.inl rfl | exact Or.inr ⟨_, by omega, rfl⟩))⟩ (hw.sub [5, 3, 6, 7, 8, 9, 10, 4, 1, 11, 12, 13, 14, 15, 16, 17, 18, 19, 20, 21, 2, 22, 23, 0] (by decide +kernel) rfl) rfl dX10_count_130
    · skip
      refine lv_tableIn (off := 120) (tgt := 131) hx hb dX10_count_11 (by rw [qw8]; decide) (by rw [qw8]; decide) (by rw [qw8]; rfl) (by decide) ?_
      refine lv_iconst (v := 0) hx hb dX10_count_131 (by decide) ?_
      refine lv_istore_n (lv' := [(3, .int 0), (2, .int 0), (0, .ref (r 0)), (1, .int ar1)]) hx hb dX10_count_132 rfl hl (by decide) rfl (fun ls hl => ?_)
      have lp133_25 : ∀ (vn17 vi16 : Nat) (vy21 : Int32) (H : Heap) (locs : List Loc) (ls : Array Slot), vi16 ≤ pp → pp < vi16 + vn17 → vy21 = zS (fun a => d49_3 (7 + a)) vi16 → zz_w G A s [((r 65), .inl (G.2 2, 3, .inl c65)), ((r 31), .inl (G.2 0, 2, .inl c31)), ((r 48), .inl (G.2 0, 71, .inl c48)), ((r 0), .inr (10, (zz_mo r [(0, j0), (2, j2), (4, j4), (10, j10), (11, j11), (12, j12), (13, j13), (14, j14), (15, j15), (16, j16), (17, j17), (18, (nI lv)), (19, j19), (20, j20), (34, j34), (40, j40), (44, j44), (47, k47_4), (50, k50_1), (51, k51_2), (56, j56), (61, j61)]))), ((r 22), .inl (G.2 0, 2, .inl c22)), ((r 24), .inl (G.2 0, 14, .inl c24)), ((r 25), .inl (G.2 0, 14, .inl c25)), ((r 26), .inl (G.2 0, 2, .inl c26)), ((r 28), .inl (G.2 0, 12, .inl c28)), ((r 29), .inl (G.2 0, 12, .inl c29)), ((r 30), .inl (G.2 0, 2, .inl c30)), ((r 32), .inl (G.2 0, 8, .inl c32)), ((r 33), .inl (G.2 0, 8, .inl c33)), ((r 35), .inl (G.2 2, 260, .inl c35)), ((r 36), .inl (G.2 0, 260, .inl c36)), ((r 37), .inl (G.2 0, 260, .inl c37)), ((r 38), .inl (G.2 0, 260, .inl c38)), ((r 39), .inl (G.2 0, 260, .inl c39)), ((r 41), .inl (G.2 0, 840, .inl c41)), ((r 42), .inl (G.2 0, 840, .inl c42)), ((r 45), .inl (G.2 0, 9, .inl d45_5)), ((r 46), .inl (G.2 0, 400, .inl d46_6)), ((r 49), .inl (G.2 0, 71, .inl d49_3)), ((r 52), .inl (G.2 0, 6, .inl d52_7))] H locs → lv_has ls 4 [(3, .int (nI vi16)), (2, .int vy21), (0, .ref (r 0)), (1, .int ar1)] → W p l e (zz_rm 5 0 0) s m args below meth c H locs (0) (0) Q (F0 m 133 ls []) := by
        intro vn17
        induction vn17 with
        | zero => intro vi16 vy21 H locs ls hi1 hi2; exact absurd hi2 (by omega)
        | succ vn17 ih133 =>
          intro vi16 vy21 H locs ls hi133a hi133b hv133_24 hw hl
          refine lv_iload_n hx hb dX10_count_133 rfl (lv_at hl 0 rfl) ?_
          refine lv_aload_n hx hb dX10_count_134 rfl (lv_at hl 2 rfl) ?_
          refine zz_get (v := .ref (r 22)) S hw fgX10_43 3 rfl rfl dX10_count_135 ?_
          refine lv_aload_n hx hb dX10_count_138 rfl (lv_at hl 2 rfl) ?_
          refine zz_get (v := .int (nI lv)) S hw fgX10_236 3 rfl rfl dX10_count_139 ?_
          refine zz_iald (v := (nI pp)) S hw 4 rfl (vp_in_nI (n := lv) (by omega) (by decide)) (by rw [show ((nI lv) : Int32).toNatClampNeg = lv from nI_clamp (n := lv) (by omega)]; exact hpe) dX10_count_142 ?_
          refine lv_icmp_ge (tgt := 164) hx hb dX10_count_143 (by decide) (fun c143_26 => ?_) (fun c143_26 => ?_)
          · skip
            have c143_26n : pp ≤ vi16 := (zz_le (a := pp) (b := vi16) rfl rfl (by omega) (by omega)).mp c143_26
            refine lv_iload_n hx hb dX10_count_164 rfl (lv_at hl 1 rfl) ?_
            refine W.eq (g2 := F0 m 165 ls [.int vy21]) rfl ?_
            exact hret _ _ _ _ _ _ ⟨vy21, k47_4, k50_1, k51_2, d45_5, d46_6, d49_3, d52_7, rfl, rfl, (by first | exact ⟨_, _, hq1_0, hq5_0, Or.inl ⟨Int32.toInt_inj.mp (Eq.trans (by assumption) (by decide)), rfl⟩⟩ | exact ⟨_, _, hq1_0, hq5_0, Or.inr (Or.inl ⟨Int32.toInt_inj.mp (Eq.trans (by assumption) (by decide)), rfl⟩)⟩ | exact ⟨_, _, hq1_0, hq5_0, Or.inr (Or.inr (Or.inl ⟨Int32.toInt_inj.mp (Eq.trans (by assumption) (by decide)), rfl⟩))⟩ | exact ⟨_, _, hq1_0, hq5_0, Or.inr (Or.inr (Or.inr (Or.inl ⟨Int32.toInt_inj.mp (Eq.trans (by assumption) (by decide)), (zC_3b (hq121_0.trans (by rw [hq118_0])) ez11)⟩)))⟩ | exact ⟨_, _, hq1_0, hq5_0, Or.inr (Or.inr (Or.inr (Or.inr (Or.inl ⟨Int32.toInt_inj.mp (Eq.trans (by assumption) (by decide)), hq127_0⟩))))⟩ | exact ⟨_, _, hq1_0, hq5_0, Or.inr (Or.inr (Or.inr (Or.inr (Or.inr (Or.inl ⟨Int32.toInt_inj.mp (Eq.trans (by assumption) (by decide)), (zS_e hv133_24 (by omega))⟩)))))⟩ | exact ⟨_, _, hq1_0, hq5_0, Or.inr (Or.inr (Or.inr (Or.inr (Or.inr (Or.inr (Or.inl ⟨Int32.toInt_inj.mp (Eq.trans (by assumption) (by decide)), (zV_e hdry (by omega))⟩))))))⟩ | exact ⟨_, _, hq1_0, hq5_0, Or.inr (Or.inr (Or.inr (Or.inr (Or.inr (Or.inr (Or.inr (Or.inl ⟨Int32.toInt_inj.mp (Eq.trans (by assumption) (by decide)), rfl⟩)))))))⟩ | exact ⟨_, _, hq1_0, hq5_0, Or.inr (Or.inr (Or.inr (Or.inr (Or.inr (Or.inr (Or.inr (Or.inr (Or.inl ⟨Int32.toInt_inj.mp (Eq.trans (by assumption) (by decide)), rfl⟩))))))))⟩ | exact ⟨_, _, hq1_0, hq5_0, Or.inr (Or.inr (Or.inr (Or.inr (Or.inr (Or.inr (Or.inr (Or.inr (Or.inr (Or.inl ⟨Int32.toInt_inj.mp (Eq.trans (by assumption) (by decide)), rfl⟩)))))))))⟩ | exact ⟨_, _, hq1_0, hq5_0, Or.inr (Or.inr (Or.inr (Or.inr (Or.inr (Or.inr (Or.inr (Or.inr (Or.inr (Or.inr (Or.inl ⟨Int32.toInt_inj.mp (Eq.trans (by assumption) (by decide)), rfl⟩))))))))))⟩ | exact ⟨_, _, hq1_0, hq5_0, Or.inr (Or.inr (Or.inr (Or.inr (Or.inr (Or.inr (Or.inr (Or.inr (Or.inr (Or.inr (Or.inr (Or.inl ⟨Int32.toInt_inj.mp (Eq.trans (by assumption) (by decide)), (zC_3 (by first | exact (zC_1 (by assumption)).symm | exact (zC_0 (fun z => z (by assumption))).symm) (by first | exact (zC_1 (by assumption)).symm | exact (zC_0 (fun z => z (by assumption))).symm) (by first | exact (zC_1 (by assumption)).symm | exact (zC_0 (fun z => z (by assumption))).symm) (by decide))⟩)))))))))))⟩ | exact ⟨_, _, hq1_0, hq5_0, Or.inr (Or.inr (Or.inr (Or.inr (Or.inr (Or.inr (Or.inr (Or.inr (Or.inr (Or.inr (Or.inr (Or.inr (Or.inl ⟨Int32.toInt_inj.mp (Eq.trans (by assumption) (by decide)), (zO_e hdry (by omega))⟩))))))))))))⟩ | exact ⟨_, _, hq1_0, hq5_0, Or.inr (Or.inr (Or.inr (Or.inr (Or.inr (Or.inr (Or.inr (Or.inr (Or.inr (Or.inr (Or.inr (Or.inr (Or.inr (Or.inl ⟨Int32.toInt_inj.mp (Eq.trans (by assumption) (by decide)), hq317_0⟩)))))))))))))⟩ | exact ⟨_, _, hq1_0, hq5_0, Or.inr (Or.inr (Or.inr (Or.inr (Or.inr (Or.inr (Or.inr (Or.inr (Or.inr (Or.inr (Or.inr (Or.inr (Or.inr (Or.inr (⟨by assumption, rfl⟩))))))))))))))⟩), (by first | assumption | exact Or.inl rfl | exact Or.inr rfl | omega | exact Or.inr (by assumption) | exact zz_oku (by assumption) (by first | exact Or.inl rfl | exact Or.inr ⟨_, by omega, rfl⟩))⟩ (hw.sub [3, 4, 5, 6, 7, 8, 9, 10, 1, 11, 12, 13, 14, 15, 16, 17, 18, 19, 20, 21, 2, 22, 23, 0] (by decide +kernel) rfl) rfl dX10_count_165
          · skip
            have c143_26n : ¬ (pp ≤ vi16) := fun z => c143_26 ((zz_le (a := pp) (b := vi16) rfl rfl (by omega) (by omega)).mpr z)
            refine lv_iload_n hx hb dX10_count_146 rfl (lv_at hl 1 rfl) ?_
            refine lv_aload_n hx hb dX10_count_147 rfl (lv_at hl 2 rfl) ?_
            refine zz_get (v := .ref (r 49)) S hw fgX10_113 3 rfl rfl dX10_count_148 ?_
            refine lv_bipush (v := 7) hx hb dX10_count_151 (by decide) ?_
            refine lv_iload_n hx hb dX10_count_153 rfl (lv_at hl 0 rfl) ?_
            refine lv_iadd hx hb dX10_count_154 ?_
            refine zz_topi (y := (nI (7 + vi16))) (nI_add _ _) ?_
            refine zz_iald (v := (d49_3 (7 + vi16))) S hw 22 rfl (vp_in_nI (n := (7 + vi16)) (by omega) (by decide)) (congrArg d49_3 (nI_clamp (n := (7 + vi16)) (by omega))) dX10_count_155 ?_
            refine lv_iadd hx hb dX10_count_156 ?_
            refine lv_topi (fun z27 ez27 => ?_)
            refine lv_istore_n (lv' := [(2, .int z27), (3, .int (nI vi16)), (0, .ref (r 0)), (1, .int ar1)]) hx hb dX10_count_157 rfl hl (by decide) rfl (fun ls hl => ?_)
            refine lv_iinc (v := (nI (vi16 + 1))) (lv' := [(3, .int (nI (vi16 + 1))), (2, .int z27), (0, .ref (r 0)), (1, .int ar1)]) hx hb dX10_count_158 hl (k := 1) rfl (nI_add _ 1) (by decide) rfl (fun ls hl => ?_)
            refine lv_goto (tgt := 133) hx hb dX10_count_161 (by decide) ?_
            exact ih133 (vi16 + 1) z27 _ _ _ (by omega) (by omega) (zS_s hv133_24 (by assumption) rfl) hw (lv_sub hl [0, 1, 2, 3] rfl)
      exact lp133_25 (pp + 1 - 0) 0 0 _ _ _ (by omega) (by omega) rfl hw (lv_sub hl [0, 1, 2, 3] rfl)
    · skip
      refine lv_tableIn (off := 155) (tgt := 166) hx hb dX10_count_11 (by rw [qw8]; decide) (by rw [qw8]; decide) (by rw [qw8]; rfl) (by decide) ?_
      refine lv_iconst (v := 0) hx hb dX10_count_166 (by decide) ?_
      refine lv_istore_n (lv' := [(3, .int 0), (2, .int 0), (0, .ref (r 0)), (1, .int ar1)]) hx hb dX10_count_167 rfl hl (by decide) rfl (fun ls hl => ?_)
      have lp168_40 : ∀ (vn29 vi28 : Nat) (vy35 : Int32) (H : Heap) (locs : List Loc) (ls : Array Slot), vi28 ≤ pp → pp < vi28 + vn29 → vy35 = zV (fun a => d49_3 (14 + a)) vi28 → zz_w G A s [((r 65), .inl (G.2 2, 3, .inl c65)), ((r 31), .inl (G.2 0, 2, .inl c31)), ((r 48), .inl (G.2 0, 71, .inl c48)), ((r 0), .inr (10, (zz_mo r [(0, j0), (2, j2), (4, j4), (10, j10), (11, j11), (12, j12), (13, j13), (14, j14), (15, j15), (16, j16), (17, j17), (18, (nI lv)), (19, j19), (20, j20), (34, j34), (40, j40), (44, j44), (47, k47_4), (50, k50_1), (51, k51_2), (56, j56), (61, j61)]))), ((r 22), .inl (G.2 0, 2, .inl c22)), ((r 24), .inl (G.2 0, 14, .inl c24)), ((r 25), .inl (G.2 0, 14, .inl c25)), ((r 26), .inl (G.2 0, 2, .inl c26)), ((r 28), .inl (G.2 0, 12, .inl c28)), ((r 29), .inl (G.2 0, 12, .inl c29)), ((r 30), .inl (G.2 0, 2, .inl c30)), ((r 32), .inl (G.2 0, 8, .inl c32)), ((r 33), .inl (G.2 0, 8, .inl c33)), ((r 35), .inl (G.2 2, 260, .inl c35)), ((r 36), .inl (G.2 0, 260, .inl c36)), ((r 37), .inl (G.2 0, 260, .inl c37)), ((r 38), .inl (G.2 0, 260, .inl c38)), ((r 39), .inl (G.2 0, 260, .inl c39)), ((r 41), .inl (G.2 0, 840, .inl c41)), ((r 42), .inl (G.2 0, 840, .inl c42)), ((r 45), .inl (G.2 0, 9, .inl d45_5)), ((r 46), .inl (G.2 0, 400, .inl d46_6)), ((r 49), .inl (G.2 0, 71, .inl d49_3)), ((r 52), .inl (G.2 0, 6, .inl d52_7))] H locs → lv_has ls 4 [(3, .int (nI vi28)), (2, .int vy35), (0, .ref (r 0)), (1, .int ar1)] → W p l e (zz_rm 5 0 0) s m args below meth c H locs (0) (0) Q (F0 m 168 ls []) := by
        intro vn29
        induction vn29 with
        | zero => intro vi28 vy35 H locs ls hi1 hi2; exact absurd hi2 (by omega)
        | succ vn29 ih168 =>
          intro vi28 vy35 H locs ls hi168a hi168b hv168_39 hw hl
          refine lv_iload_n hx hb dX10_count_168 rfl (lv_at hl 0 rfl) ?_
          refine W.eq (g2 := F0 m 169 ls [.int (nI vi28)]) rfl ?_
          refine lv_aload_n hx hb dX10_count_169 rfl (lv_at hl 2 rfl) ?_
          refine zz_get (v := .ref (r 22)) S hw fgX10_43 3 rfl rfl dX10_count_170 ?_
          refine lv_aload_n hx hb dX10_count_173 rfl (lv_at hl 2 rfl) ?_
          refine zz_get (v := .int (nI lv)) S hw fgX10_236 3 rfl rfl dX10_count_174 ?_
          refine zz_iald (v := (nI pp)) S hw 4 rfl (vp_in_nI (n := lv) (by omega) (by decide)) (by rw [show ((nI lv) : Int32).toNatClampNeg = lv from nI_clamp (n := lv) (by omega)]; exact hpe) dX10_count_177 ?_
          refine lv_icmp_ge (tgt := 201) hx hb dX10_count_178 (by decide) (fun c178_41 => ?_) (fun c178_41 => ?_)
          · skip
            have c178_41n : pp ≤ vi28 := (zz_le (a := pp) (b := vi28) rfl rfl (by omega) (by omega)).mp c178_41
            refine lv_iload_n hx hb dX10_count_201 rfl (lv_at hl 1 rfl) ?_
            exact hret _ _ _ _ _ _ ⟨vy35, k47_4, k50_1, k51_2, d45_5, d46_6, d49_3, d52_7, rfl, rfl, (by first | exact ⟨_, _, hq1_0, hq5_0, Or.inl ⟨Int32.toInt_inj.mp (Eq.trans (by assumption) (by decide)), rfl⟩⟩ | exact ⟨_, _, hq1_0, hq5_0, Or.inr (Or.inl ⟨Int32.toInt_inj.mp (Eq.trans (by assumption) (by decide)), rfl⟩)⟩ | exact ⟨_, _, hq1_0, hq5_0, Or.inr (Or.inr (Or.inl ⟨Int32.toInt_inj.mp (Eq.trans (by assumption) (by decide)), rfl⟩))⟩ | exact ⟨_, _, hq1_0, hq5_0, Or.inr (Or.inr (Or.inr (Or.inl ⟨Int32.toInt_inj.mp (Eq.trans (by assumption) (by decide)), (zC_3b (hq121_0.trans (by rw [hq118_0])) ez11)⟩)))⟩ | exact ⟨_, _, hq1_0, hq5_0, Or.inr (Or.inr (Or.inr (Or.inl ⟨Int32.toInt_inj.mp (Eq.trans (by assumption) (by decide)), (zC_3b (hq121_0.trans (by rw [hq118_0])) ez27)⟩)))⟩ | exact ⟨_, _, hq1_0, hq5_0, Or.inr (Or.inr (Or.inr (Or.inr (Or.inl ⟨Int32.toInt_inj.mp (Eq.trans (by assumption) (by decide)), hq127_0⟩))))⟩ | exact ⟨_, _, hq1_0, hq5_0, Or.inr (Or.inr (Or.inr (Or.inr (Or.inr (Or.inl ⟨Int32.toInt_inj.mp (Eq.trans (by assumption) (by decide)), (zS_e hdry (by omega))⟩)))))⟩ | exact ⟨_, _, hq1_0, hq5_0, Or.inr (Or.inr (Or.inr (Or.inr (Or.inr (Or.inr (Or.inl ⟨Int32.toInt_inj.mp (Eq.trans (by assumption) (by decide)), (zV_e hv168_39 (by omega))⟩))))))⟩ | exact ⟨_, _, hq1_0, hq5_0, Or.inr (Or.inr (Or.inr (Or.inr (Or.inr (Or.inr (Or.inr (Or.inl ⟨Int32.toInt_inj.mp (Eq.trans (by assumption) (by decide)), rfl⟩)))))))⟩ | exact ⟨_, _, hq1_0, hq5_0, Or.inr (Or.inr (Or.inr (Or.inr (Or.inr (Or.inr (Or.inr (Or.inr (Or.inl ⟨Int32.toInt_inj.mp (Eq.trans (by assumption) (by decide)), rfl⟩))))))))⟩ | exact ⟨_, _, hq1_0, hq5_0, Or.inr (Or.inr (Or.inr (Or.inr (Or.inr (Or.inr (Or.inr (Or.inr (Or.inr (Or.inl ⟨Int32.toInt_inj.mp (Eq.trans (by assumption) (by decide)), rfl⟩)))))))))⟩ | exact ⟨_, _, hq1_0, hq5_0, Or.inr (Or.inr (Or.inr (Or.inr (Or.inr (Or.inr (Or.inr (Or.inr (Or.inr (Or.inr (Or.inl ⟨Int32.toInt_inj.mp (Eq.trans (by assumption) (by decide)), rfl⟩))))))))))⟩ | exact ⟨_, _, hq1_0, hq5_0, Or.inr (Or.inr (Or.inr (Or.inr (Or.inr (Or.inr (Or.inr (Or.inr (Or.inr (Or.inr (Or.inr (Or.inl ⟨Int32.toInt_inj.mp (Eq.trans (by assumption) (by decide)), (zC_3 (by first | exact (zC_1 (by assumption)).symm | exact (zC_0 (fun z => z (by assumption))).symm) (by first | exact (zC_1 (by assumption)).symm | exact (zC_0 (fun z => z (by assumption))).symm) (by first | exact (zC_1 (by assumption)).symm | exact (zC_0 (fun z => z (by assumption))).symm) (by decide))⟩)))))))))))⟩ | exact ⟨_, _, hq1_0, hq5_0, Or.inr (Or.inr (Or.inr (Or.inr (Or.inr (Or.inr (Or.inr (Or.inr (Or.inr (Or.inr (Or.inr (Or.inr (Or.inl ⟨Int32.toInt_inj.mp (Eq.trans (by assumption) (by decide)), (zO_e hdry (by omega))⟩))))))))))))⟩ | exact ⟨_, _, hq1_0, hq5_0, Or.inr (Or.inr (Or.inr (Or.inr (Or.inr (Or.inr (Or.inr (Or.inr (Or.inr (Or.inr (Or.inr (Or.inr (Or.inr (Or.inl ⟨Int32.toInt_inj.mp (Eq.trans (by assumption) (by decide)), hq317_0⟩)))))))))))))⟩ | exact ⟨_, _, hq1_0, hq5_0, Or.inr (Or.inr (Or.inr (Or.inr (Or.inr (Or.inr (Or.inr (Or.inr (Or.inr (Or.inr (Or.inr (Or.inr (Or.inr (Or.inr (⟨by assumption, rfl⟩))))))))))))))⟩), (by first | assumption | exact Or.inl rfl | exact Or.inr rfl | omega | exact Or.inr (by assumption) | exact zz_oku (by assumption) (by first | exact Or.inl rfl | exact Or.inr ⟨_, by omega, rfl⟩))⟩ (hw.sub [3, 4, 5, 6, 7, 8, 9, 10, 1, 11, 12, 13, 14, 15, 16, 17, 18, 19, 20, 21, 2, 22, 23, 0] (by decide +kernel) rfl) rfl dX10_count_202
          · skip
            have c178_41n : ¬ (pp ≤ vi28) := fun z => c178_41 ((zz_le (a := pp) (b := vi28) rfl rfl (by omega) (by omega)).mpr z)
            refine lv_iload_n hx hb dX10_count_181 rfl (lv_at hl 1 rfl) ?_
            refine lv_aload_n hx hb dX10_count_182 rfl (lv_at hl 2 rfl) ?_
            refine zz_get (v := .ref (r 49)) S hw fgX10_113 3 rfl rfl dX10_count_183 ?_
            refine lv_bipush (v := 14) hx hb dX10_count_186 (by decide) ?_
            refine lv_iload_n hx hb dX10_count_188 rfl (lv_at hl 0 rfl) ?_
            refine lv_iadd hx hb dX10_count_189 ?_
            refine zz_topi (y := (nI (14 + vi28))) (nI_add _ _) ?_
            refine zz_iald (v := (d49_3 (14 + vi28))) S hw 22 rfl (vp_in_nI (n := (14 + vi28)) (by omega) (by decide)) (congrArg d49_3 (nI_clamp (n := (14 + vi28)) (by omega))) dX10_count_190 ?_
            refine lv_iload_n hx hb dX10_count_191 rfl (lv_at hl 0 rfl) ?_
            refine W.eq (g2 := F0 m 192 ls [.int (nI vi28), .int (d49_3 (14 + vi28)), .int vy35]) rfl ?_
            refine lv_ishl hx hb dX10_count_192 ?_
            refine lv_topi (fun z42 ez42 => ?_)
            refine lv_ior hx hb dX10_count_193 ?_
            refine lv_topi (fun z43 ez43 => ?_)
            refine lv_istore_n (lv' := [(2, .int z43), (3, .int (nI vi28)), (0, .ref (r 0)), (1, .int ar1)]) hx hb dX10_count_194 rfl hl (by decide) rfl (fun ls hl => ?_)
            refine lv_iinc (v := (nI (vi28 + 1))) (lv' := [(3, .int (nI (vi28 + 1))), (2, .int z43), (0, .ref (r 0)), (1, .int ar1)]) hx hb dX10_count_195 hl (k := 1) rfl (nI_add _ 1) (by decide) rfl (fun ls hl => ?_)
            refine lv_goto (tgt := 168) hx hb dX10_count_198 (by decide) ?_
            exact ih168 (vi28 + 1) z43 _ _ _ (by omega) (by omega) (by first | exact zV_s hv168_39 (by assumption) (by assumption) | exact zV_s hv168_39 ez42 ez43) hw (lv_sub hl [0, 1, 2, 3] rfl)
      exact lp168_40 (pp + 1 - 0) 0 0 _ _ _ (by omega) (by omega) rfl hw (lv_sub hl [0, 1, 2, 3] rfl)
    · skip
      refine lv_tableIn (off := 192) (tgt := 203) hx hb dX10_count_11 (by rw [qw8]; decide) (by rw [qw8]; decide) (by rw [qw8]; rfl) (by decide) ?_
      refine lv_aload_n hx hb dX10_count_203 rfl (lv_at hl 1 rfl) ?_
      refine zz_get (v := .ref (r 49)) S hw fgX10_113 3 rfl rfl dX10_count_204 ?_
      refine lv_bipush (v := 70) hx hb dX10_count_207 (by decide) ?_
      refine zz_iald (v := (d49_3 70)) S hw 22 rfl (vp_in_nI (n := 70) (by decide) (by decide)) (congrArg d49_3 (nI_clamp (n := 70) (by decide))) dX10_count_209 ?_
      exact hret _ _ _ _ _ _ ⟨(d49_3 70), k47_4, k50_1, k51_2, d45_5, d46_6, d49_3, d52_7, rfl, rfl, (by first | exact ⟨_, _, hq1_0, hq5_0, Or.inl ⟨Int32.toInt_inj.mp (Eq.trans (by assumption) (by decide)), rfl⟩⟩ | exact ⟨_, _, hq1_0, hq5_0, Or.inr (Or.inl ⟨Int32.toInt_inj.mp (Eq.trans (by assumption) (by decide)), rfl⟩)⟩ | exact ⟨_, _, hq1_0, hq5_0, Or.inr (Or.inr (Or.inl ⟨Int32.toInt_inj.mp (Eq.trans (by assumption) (by decide)), rfl⟩))⟩ | exact ⟨_, _, hq1_0, hq5_0, Or.inr (Or.inr (Or.inr (Or.inl ⟨Int32.toInt_inj.mp (Eq.trans (by assumption) (by decide)), (zC_3b (hq121_0.trans (by rw [hq118_0])) ez27)⟩)))⟩ | exact ⟨_, _, hq1_0, hq5_0, Or.inr (Or.inr (Or.inr (Or.inl ⟨Int32.toInt_inj.mp (Eq.trans (by assumption) (by decide)), (zC_3b (hq121_0.trans (by rw [hq118_0])) ez42)⟩)))⟩ | exact ⟨_, _, hq1_0, hq5_0, Or.inr (Or.inr (Or.inr (Or.inl ⟨Int32.toInt_inj.mp (Eq.trans (by assumption) (by decide)), (zC_3b (hq121_0.trans (by rw [hq118_0])) ez43)⟩)))⟩ | exact ⟨_, _, hq1_0, hq5_0, Or.inr (Or.inr (Or.inr (Or.inr (Or.inl ⟨Int32.toInt_inj.mp (Eq.trans (by assumption) (by decide)), hq127_0⟩))))⟩ | exact ⟨_, _, hq1_0, hq5_0, Or.inr (Or.inr (Or.inr (Or.inr (Or.inr (Or.inl ⟨Int32.toInt_inj.mp (Eq.trans (by assumption) (by decide)), (zS_e hdry (by omega))⟩)))))⟩ | exact ⟨_, _, hq1_0, hq5_0, Or.inr (Or.inr (Or.inr (Or.inr (Or.inr (Or.inr (Or.inl ⟨Int32.toInt_inj.mp (Eq.trans (by assumption) (by decide)), (zV_e hdry (by omega))⟩))))))⟩ | exact ⟨_, _, hq1_0, hq5_0, Or.inr (Or.inr (Or.inr (Or.inr (Or.inr (Or.inr (Or.inr (Or.inl ⟨Int32.toInt_inj.mp (Eq.trans (by assumption) (by decide)), rfl⟩)))))))⟩ | exact ⟨_, _, hq1_0, hq5_0, Or.inr (Or.inr (Or.inr (Or.inr (Or.inr (Or.inr (Or.inr (Or.inr (Or.inl ⟨Int32.toInt_inj.mp (Eq.trans (by assumption) (by decide)), rfl⟩))))))))⟩ | exact ⟨_, _, hq1_0, hq5_0, Or.inr (Or.inr (Or.inr (Or.inr (Or.inr (Or.inr (Or.inr (Or.inr (Or.inr (Or.inl ⟨Int32.toInt_inj.mp (Eq.trans (by assumption) (by decide)), rfl⟩)))))))))⟩ | exact ⟨_, _, hq1_0, hq5_0, Or.inr (Or.inr (Or.inr (Or.inr (Or.inr (Or.inr (Or.inr (Or.inr (Or.inr (Or.inr (Or.inl ⟨Int32.toInt_inj.mp (Eq.trans (by assumption) (by decide)), rfl⟩))))))))))⟩ | exact ⟨_, _, hq1_0, hq5_0, Or.inr (Or.inr (Or.inr (Or.inr (Or.inr (Or.inr (Or.inr (Or.inr (Or.inr (Or.inr (Or.inr (Or.inl ⟨Int32.toInt_inj.mp (Eq.trans (by assumption) (by decide)), (zC_3 (by first | exact (zC_1 (by assumption)).symm | exact (zC_0 (fun z => z (by assumption))).symm) (by first | exact (zC_1 (by assumption)).symm | exact (zC_0 (fun z => z (by assumption))).symm) (by first | exact (zC_1 (by assumption)).symm | exact (zC_0 (fun z => z (by assumption))).symm) (by decide))⟩)))))))))))⟩ | exact ⟨_, _, hq1_0, hq5_0, Or.inr (Or.inr (Or.inr (Or.inr (Or.inr (Or.inr (Or.inr (Or.inr (Or.inr (Or.inr (Or.inr (Or.inr (Or.inl ⟨Int32.toInt_inj.mp (Eq.trans (by assumption) (by decide)), (zO_e hdry (by omega))⟩))))))))))))⟩ | exact ⟨_, _, hq1_0, hq5_0, Or.inr (Or.inr (Or.inr (Or.inr (Or.inr (Or.inr (Or.inr (Or.inr (Or.inr (Or.inr (Or.inr (Or.inr (Or.inr (Or.inl ⟨Int32.toInt_inj.mp (Eq.trans (by assumption) (by decide)), hq317_0⟩)))))))))))))⟩ | exact ⟨_, _, hq1_0, hq5_0, Or.inr (Or.inr (Or.inr (Or.inr (Or.inr (Or.inr (Or.inr (Or.inr (Or.inr (Or.inr (Or.inr (Or.inr (Or.inr (Or.inr (⟨by assumption, rfl⟩))))))))))))))⟩), (by first | assumption | exact Or.inl rfl | exact Or.inr rfl | omega | exact Or.inr (by assumption) | exact zz_oku (by assumption) (by first | exact Or.inl rfl | exact Or.inr ⟨_, by omega, rfl⟩))⟩ (hw.sub [3, 4, 5, 6, 7, 8, 9, 10, 1, 11, 12, 13, 14, 15, 16, 17, 18, 19, 20, 21, 2, 22, 23, 0] (by decide +kernel) rfl) rfl dX10_count_210
    · skip
      refine lv_tableIn (off := 200) (tgt := 211) hx hb dX10_count_11 (by rw [qw8]; decide) (by rw [qw8]; decide) (by rw [qw8]; rfl) (by decide) ?_
      refine lv_aload_n hx hb dX10_count_211 rfl (lv_at hl 1 rfl) ?_
      refine zz_get (v := .int j2) S hw fgX10_169 3 rfl rfl dX10_count_212 ?_
      exact hret _ _ _ _ _ _ ⟨j2, k47_4, k50_1, k51_2, d45_5, d46_6, d49_3, d52_7, rfl, rfl, (by first | exact ⟨_, _, hq1_0, hq5_0, Or.inl ⟨Int32.toInt_inj.mp (Eq.trans (by assumption) (by decide)), rfl⟩⟩ | exact ⟨_, _, hq1_0, hq5_0, Or.inr (Or.inl ⟨Int32.toInt_inj.mp (Eq.trans (by assumption) (by decide)), rfl⟩)⟩ | exact ⟨_, _, hq1_0, hq5_0, Or.inr (Or.inr (Or.inl ⟨Int32.toInt_inj.mp (Eq.trans (by assumption) (by decide)), rfl⟩))⟩ | exact ⟨_, _, hq1_0, hq5_0, Or.inr (Or.inr (Or.inr (Or.inl ⟨Int32.toInt_inj.mp (Eq.trans (by assumption) (by decide)), (zC_3b (hq121_0.trans (by rw [hq118_0])) ez27)⟩)))⟩ | exact ⟨_, _, hq1_0, hq5_0, Or.inr (Or.inr (Or.inr (Or.inl ⟨Int32.toInt_inj.mp (Eq.trans (by assumption) (by decide)), (zC_3b (hq121_0.trans (by rw [hq118_0])) ez42)⟩)))⟩ | exact ⟨_, _, hq1_0, hq5_0, Or.inr (Or.inr (Or.inr (Or.inl ⟨Int32.toInt_inj.mp (Eq.trans (by assumption) (by decide)), (zC_3b (hq121_0.trans (by rw [hq118_0])) ez43)⟩)))⟩ | exact ⟨_, _, hq1_0, hq5_0, Or.inr (Or.inr (Or.inr (Or.inr (Or.inl ⟨Int32.toInt_inj.mp (Eq.trans (by assumption) (by decide)), hq127_0⟩))))⟩ | exact ⟨_, _, hq1_0, hq5_0, Or.inr (Or.inr (Or.inr (Or.inr (Or.inr (Or.inl ⟨Int32.toInt_inj.mp (Eq.trans (by assumption) (by decide)), (zS_e hdry (by omega))⟩)))))⟩ | exact ⟨_, _, hq1_0, hq5_0, Or.inr (Or.inr (Or.inr (Or.inr (Or.inr (Or.inr (Or.inl ⟨Int32.toInt_inj.mp (Eq.trans (by assumption) (by decide)), (zV_e hdry (by omega))⟩))))))⟩ | exact ⟨_, _, hq1_0, hq5_0, Or.inr (Or.inr (Or.inr (Or.inr (Or.inr (Or.inr (Or.inr (Or.inl ⟨Int32.toInt_inj.mp (Eq.trans (by assumption) (by decide)), rfl⟩)))))))⟩ | exact ⟨_, _, hq1_0, hq5_0, Or.inr (Or.inr (Or.inr (Or.inr (Or.inr (Or.inr (Or.inr (Or.inr (Or.inl ⟨Int32.toInt_inj.mp (Eq.trans (by assumption) (by decide)), rfl⟩))))))))⟩ | exact ⟨_, _, hq1_0, hq5_0, Or.inr (Or.inr (Or.inr (Or.inr (Or.inr (Or.inr (Or.inr (Or.inr (Or.inr (Or.inl ⟨Int32.toInt_inj.mp (Eq.trans (by assumption) (by decide)), rfl⟩)))))))))⟩ | exact ⟨_, _, hq1_0, hq5_0, Or.inr (Or.inr (Or.inr (Or.inr (Or.inr (Or.inr (Or.inr (Or.inr (Or.inr (Or.inr (Or.inl ⟨Int32.toInt_inj.mp (Eq.trans (by assumption) (by decide)), rfl⟩))))))))))⟩ | exact ⟨_, _, hq1_0, hq5_0, Or.inr (Or.inr (Or.inr (Or.inr (Or.inr (Or.inr (Or.inr (Or.inr (Or.inr (Or.inr (Or.inr (Or.inl ⟨Int32.toInt_inj.mp (Eq.trans (by assumption) (by decide)), (zC_3 (by first | exact (zC_1 (by assumption)).symm | exact (zC_0 (fun z => z (by assumption))).symm) (by first | exact (zC_1 (by assumption)).symm | exact (zC_0 (fun z => z (by assumption))).symm) (by first | exact (zC_1 (by assumption)).symm | exact (zC_0 (fun z => z (by assumption))).symm) (by decide))⟩)))))))))))⟩ | exact ⟨_, _, hq1_0, hq5_0, Or.inr (Or.inr (Or.inr (Or.inr (Or.inr (Or.inr (Or.inr (Or.inr (Or.inr (Or.inr (Or.inr (Or.inr (Or.inl ⟨Int32.toInt_inj.mp (Eq.trans (by assumption) (by decide)), (zO_e hdry (by omega))⟩))))))))))))⟩ | exact ⟨_, _, hq1_0, hq5_0, Or.inr (Or.inr (Or.inr (Or.inr (Or.inr (Or.inr (Or.inr (Or.inr (Or.inr (Or.inr (Or.inr (Or.inr (Or.inr (Or.inl ⟨Int32.toInt_inj.mp (Eq.trans (by assumption) (by decide)), hq317_0⟩)))))))))))))⟩ | exact ⟨_, _, hq1_0, hq5_0, Or.inr (Or.inr (Or.inr (Or.inr (Or.inr (Or.inr (Or.inr (Or.inr (Or.inr (Or.inr (Or.inr (Or.inr (Or.inr (Or.inr (⟨by assumption, rfl⟩))))))))))))))⟩), (by first | assumption | exact Or.inl rfl | exact Or.inr rfl | omega | exact Or.inr (by assumption) | exact zz_oku (by assumption) (by first | exact Or.inl rfl | exact Or.inr ⟨_, by omega, rfl⟩))⟩ (hw.sub [3, 4, 5, 6, 7, 8, 9, 10, 1, 11, 12, 13, 14, 15, 16, 17, 18, 19, 20, 21, 2, 22, 23, 0] (by decide +kernel) rfl) rfl dX10_count_215
    · skip
      refine lv_tableIn (off := 205) (tgt := 216) hx hb dX10_count_11 (by rw [qw8]; decide) (by rw [qw8]; decide) (by rw [qw8]; rfl) (by decide) ?_
      refine lv_aload_n hx hb dX10_count_216 rfl (lv_at hl 1 rfl) ?_
      refine zz_get (v := .int j56) S hw fgX10_254 3 rfl rfl dX10_count_217 ?_
      exact hret _ _ _ _ _ _ ⟨j56, k47_4, k50_1, k51_2, d45_5, d46_6, d49_3, d52_7, rfl, rfl, (by first | exact ⟨_, _, hq1_0, hq5_0, Or.inl ⟨Int32.toInt_inj.mp (Eq.trans (by assumption) (by decide)), rfl⟩⟩ | exact ⟨_, _, hq1_0, hq5_0, Or.inr (Or.inl ⟨Int32.toInt_inj.mp (Eq.trans (by assumption) (by decide)), rfl⟩)⟩ | exact ⟨_, _, hq1_0, hq5_0, Or.inr (Or.inr (Or.inl ⟨Int32.toInt_inj.mp (Eq.trans (by assumption) (by decide)), rfl⟩))⟩ | exact ⟨_, _, hq1_0, hq5_0, Or.inr (Or.inr (Or.inr (Or.inl ⟨Int32.toInt_inj.mp (Eq.trans (by assumption) (by decide)), (zC_3b (hq121_0.trans (by rw [hq118_0])) ez27)⟩)))⟩ | exact ⟨_, _, hq1_0, hq5_0, Or.inr (Or.inr (Or.inr (Or.inl ⟨Int32.toInt_inj.mp (Eq.trans (by assumption) (by decide)), (zC_3b (hq121_0.trans (by rw [hq118_0])) ez42)⟩)))⟩ | exact ⟨_, _, hq1_0, hq5_0, Or.inr (Or.inr (Or.inr (Or.inl ⟨Int32.toInt_inj.mp (Eq.trans (by assumption) (by decide)), (zC_3b (hq121_0.trans (by rw [hq118_0])) ez43)⟩)))⟩ | exact ⟨_, _, hq1_0, hq5_0, Or.inr (Or.inr (Or.inr (Or.inr (Or.inl ⟨Int32.toInt_inj.mp (Eq.trans (by assumption) (by decide)), hq127_0⟩))))⟩ | exact ⟨_, _, hq1_0, hq5_0, Or.inr (Or.inr (Or.inr (Or.inr (Or.inr (Or.inl ⟨Int32.toInt_inj.mp (Eq.trans (by assumption) (by decide)), (zS_e hdry (by omega))⟩)))))⟩ | exact ⟨_, _, hq1_0, hq5_0, Or.inr (Or.inr (Or.inr (Or.inr (Or.inr (Or.inr (Or.inl ⟨Int32.toInt_inj.mp (Eq.trans (by assumption) (by decide)), (zV_e hdry (by omega))⟩))))))⟩ | exact ⟨_, _, hq1_0, hq5_0, Or.inr (Or.inr (Or.inr (Or.inr (Or.inr (Or.inr (Or.inr (Or.inl ⟨Int32.toInt_inj.mp (Eq.trans (by assumption) (by decide)), rfl⟩)))))))⟩ | exact ⟨_, _, hq1_0, hq5_0, Or.inr (Or.inr (Or.inr (Or.inr (Or.inr (Or.inr (Or.inr (Or.inr (Or.inl ⟨Int32.toInt_inj.mp (Eq.trans (by assumption) (by decide)), rfl⟩))))))))⟩ | exact ⟨_, _, hq1_0, hq5_0, Or.inr (Or.inr (Or.inr (Or.inr (Or.inr (Or.inr (Or.inr (Or.inr (Or.inr (Or.inl ⟨Int32.toInt_inj.mp (Eq.trans (by assumption) (by decide)), rfl⟩)))))))))⟩ | exact ⟨_, _, hq1_0, hq5_0, Or.inr (Or.inr (Or.inr (Or.inr (Or.inr (Or.inr (Or.inr (Or.inr (Or.inr (Or.inr (Or.inl ⟨Int32.toInt_inj.mp (Eq.trans (by assumption) (by decide)), rfl⟩))))))))))⟩ | exact ⟨_, _, hq1_0, hq5_0, Or.inr (Or.inr (Or.inr (Or.inr (Or.inr (Or.inr (Or.inr (Or.inr (Or.inr (Or.inr (Or.inr (Or.inl ⟨Int32.toInt_inj.mp (Eq.trans (by assumption) (by decide)), (zC_3 (by first | exact (zC_1 (by assumption)).symm | exact (zC_0 (fun z => z (by assumption))).symm) (by first | exact (zC_1 (by assumption)).symm | exact (zC_0 (fun z => z (by assumption))).symm) (by first | exact (zC_1 (by assumption)).symm | exact (zC_0 (fun z => z (by assumption))).symm) (by decide))⟩)))))))))))⟩ | exact ⟨_, _, hq1_0, hq5_0, Or.inr (Or.inr (Or.inr (Or.inr (Or.inr (Or.inr (Or.inr (Or.inr (Or.inr (Or.inr (Or.inr (Or.inr (Or.inl ⟨Int32.toInt_inj.mp (Eq.trans (by assumption) (by decide)), (zO_e hdry (by omega))⟩))))))))))))⟩ | exact ⟨_, _, hq1_0, hq5_0, Or.inr (Or.inr (Or.inr (Or.inr (Or.inr (Or.inr (Or.inr (Or.inr (Or.inr (Or.inr (Or.inr (Or.inr (Or.inr (Or.inl ⟨Int32.toInt_inj.mp (Eq.trans (by assumption) (by decide)), hq317_0⟩)))))))))))))⟩ | exact ⟨_, _, hq1_0, hq5_0, Or.inr (Or.inr (Or.inr (Or.inr (Or.inr (Or.inr (Or.inr (Or.inr (Or.inr (Or.inr (Or.inr (Or.inr (Or.inr (Or.inr (⟨by assumption, rfl⟩))))))))))))))⟩), (by first | assumption | exact Or.inl rfl | exact Or.inr rfl | omega | exact Or.inr (by assumption) | exact zz_oku (by assumption) (by first | exact Or.inl rfl | exact Or.inr ⟨_, by omega, rfl⟩))⟩ (hw.sub [3, 4, 5, 6, 7, 8, 9, 10, 1, 11, 12, 13, 14, 15, 16, 17, 18, 19, 20, 21, 2, 22, 23, 0] (by decide +kernel) rfl) rfl dX10_count_220
    · skip
      refine lv_tableIn (off := 210) (tgt := 221) hx hb dX10_count_11 (by rw [qw8]; decide) (by rw [qw8]; decide) (by rw [qw8]; rfl) (by decide) ?_
      refine lv_aload_n hx hb dX10_count_221 rfl (lv_at hl 1 rfl) ?_
      refine W.eq (g2 := F0 m 222 ls [.ref (r 0)]) rfl ?_
      refine zz_get (v := .int j61) S hw fgX10_257 3 rfl rfl dX10_count_222 ?_
      exact hret _ _ _ _ _ _ ⟨j61, k47_4, k50_1, k51_2, d45_5, d46_6, d49_3, d52_7, rfl, rfl, (by first | exact ⟨_, _, hq1_0, hq5_0, Or.inl ⟨Int32.toInt_inj.mp (Eq.trans (by assumption) (by decide)), rfl⟩⟩ | exact ⟨_, _, hq1_0, hq5_0, Or.inr (Or.inl ⟨Int32.toInt_inj.mp (Eq.trans (by assumption) (by decide)), rfl⟩)⟩ | exact ⟨_, _, hq1_0, hq5_0, Or.inr (Or.inr (Or.inl ⟨Int32.toInt_inj.mp (Eq.trans (by assumption) (by decide)), rfl⟩))⟩ | exact ⟨_, _, hq1_0, hq5_0, Or.inr (Or.inr (Or.inr (Or.inl ⟨Int32.toInt_inj.mp (Eq.trans (by assumption) (by decide)), (zC_3b (hq121_0.trans (by rw [hq118_0])) ez27)⟩)))⟩ | exact ⟨_, _, hq1_0, hq5_0, Or.inr (Or.inr (Or.inr (Or.inl ⟨Int32.toInt_inj.mp (Eq.trans (by assumption) (by decide)), (zC_3b (hq121_0.trans (by rw [hq118_0])) ez42)⟩)))⟩ | exact ⟨_, _, hq1_0, hq5_0, Or.inr (Or.inr (Or.inr (Or.inl ⟨Int32.toInt_inj.mp (Eq.trans (by assumption) (by decide)), (zC_3b (hq121_0.trans (by rw [hq118_0])) ez43)⟩)))⟩ | exact ⟨_, _, hq1_0, hq5_0, Or.inr (Or.inr (Or.inr (Or.inr (Or.inl ⟨Int32.toInt_inj.mp (Eq.trans (by assumption) (by decide)), hq127_0⟩))))⟩ | exact ⟨_, _, hq1_0, hq5_0, Or.inr (Or.inr (Or.inr (Or.inr (Or.inr (Or.inl ⟨Int32.toInt_inj.mp (Eq.trans (by assumption) (by decide)), (zS_e hdry (by omega))⟩)))))⟩ | exact ⟨_, _, hq1_0, hq5_0, Or.inr (Or.inr (Or.inr (Or.inr (Or.inr (Or.inr (Or.inl ⟨Int32.toInt_inj.mp (Eq.trans (by assumption) (by decide)), (zV_e hdry (by omega))⟩))))))⟩ | exact ⟨_, _, hq1_0, hq5_0, Or.inr (Or.inr (Or.inr (Or.inr (Or.inr (Or.inr (Or.inr (Or.inl ⟨Int32.toInt_inj.mp (Eq.trans (by assumption) (by decide)), rfl⟩)))))))⟩ | exact ⟨_, _, hq1_0, hq5_0, Or.inr (Or.inr (Or.inr (Or.inr (Or.inr (Or.inr (Or.inr (Or.inr (Or.inl ⟨Int32.toInt_inj.mp (Eq.trans (by assumption) (by decide)), rfl⟩))))))))⟩ | exact ⟨_, _, hq1_0, hq5_0, Or.inr (Or.inr (Or.inr (Or.inr (Or.inr (Or.inr (Or.inr (Or.inr (Or.inr (Or.inl ⟨Int32.toInt_inj.mp (Eq.trans (by assumption) (by decide)), rfl⟩)))))))))⟩ | exact ⟨_, _, hq1_0, hq5_0, Or.inr (Or.inr (Or.inr (Or.inr (Or.inr (Or.inr (Or.inr (Or.inr (Or.inr (Or.inr (Or.inl ⟨Int32.toInt_inj.mp (Eq.trans (by assumption) (by decide)), rfl⟩))))))))))⟩ | exact ⟨_, _, hq1_0, hq5_0, Or.inr (Or.inr (Or.inr (Or.inr (Or.inr (Or.inr (Or.inr (Or.inr (Or.inr (Or.inr (Or.inr (Or.inl ⟨Int32.toInt_inj.mp (Eq.trans (by assumption) (by decide)), (zC_3 (by first | exact (zC_1 (by assumption)).symm | exact (zC_0 (fun z => z (by assumption))).symm) (by first | exact (zC_1 (by assumption)).symm | exact (zC_0 (fun z => z (by assumption))).symm) (by first | exact (zC_1 (by assumption)).symm | exact (zC_0 (fun z => z (by assumption))).symm) (by decide))⟩)))))))))))⟩ | exact ⟨_, _, hq1_0, hq5_0, Or.inr (Or.inr (Or.inr (Or.inr (Or.inr (Or.inr (Or.inr (Or.inr (Or.inr (Or.inr (Or.inr (Or.inr (Or.inl ⟨Int32.toInt_inj.mp (Eq.trans (by assumption) (by decide)), (zO_e hdry (by omega))⟩))))))))))))⟩ | exact ⟨_, _, hq1_0, hq5_0, Or.inr (Or.inr (Or.inr (Or.inr (Or.inr (Or.inr (Or.inr (Or.inr (Or.inr (Or.inr (Or.inr (Or.inr (Or.inr (Or.inl ⟨Int32.toInt_inj.mp (Eq.trans (by assumption) (by decide)), hq317_0⟩)))))))))))))⟩ | exact ⟨_, _, hq1_0, hq5_0, Or.inr (Or.inr (Or.inr (Or.inr (Or.inr (Or.inr (Or.inr (Or.inr (Or.inr (Or.inr (Or.inr (Or.inr (Or.inr (Or.inr (⟨by assumption, rfl⟩))))))))))))))⟩), (by first | assumption | exact Or.inl rfl | exact Or.inr rfl | omega | exact Or.inr (by assumption) | exact zz_oku (by assumption) (by first | exact Or.inl rfl | exact Or.inr ⟨_, by omega, rfl⟩))⟩ (hw.sub [3, 4, 5, 6, 7, 8, 9, 10, 1, 11, 12, 13, 14, 15, 16, 17, 18, 19, 20, 21, 2, 22, 23, 0] (by decide +kernel) rfl) rfl dX10_count_225
    · skip
      refine lv_tableIn (off := 215) (tgt := 226) hx hb dX10_count_11 (by rw [qw8]; decide) (by rw [qw8]; decide) (by rw [qw8]; rfl) (by decide) ?_
      refine lv_aload_n hx hb dX10_count_226 rfl (lv_at hl 1 rfl) ?_
      refine zz_get (v := .ref (r 65)) S hw fgX10_149 3 rfl rfl dX10_count_227 ?_
      refine lv_iconst (v := 0) hx hb dX10_count_230 (by decide) ?_
      refine zz_zald (v := (c65 0)) S hw 0 rfl (vp_in_nI (n := 0) (by decide) (by decide)) (congrArg c65 (nI_clamp (n := 0) (by decide))) dX10_count_231 ?_
      refine lv_if_eq (tgt := 239) hx hb dX10_count_232 (by decide) (fun c232_44 => ?_) (fun c232_44 => ?_)
      · skip
        refine lv_iconst (v := 0) hx hb dX10_count_239 (by decide) ?_
        refine lv_aload_n hx hb dX10_count_240 rfl (lv_at hl 1 rfl) ?_
        refine zz_get (v := .ref (r 65)) S hw fgX10_149 3 rfl rfl dX10_count_241 ?_
        refine lv_iconst (v := 1) hx hb dX10_count_244 (by decide) ?_
        refine zz_zald (v := (c65 1)) S hw 0 rfl (vp_in_nI (n := 1) (by decide) (by decide)) (congrArg c65 (nI_clamp (n := 1) (by decide))) dX10_count_245 ?_
        refine lv_if_eq (tgt := 253) hx hb dX10_count_246 (by decide) (fun c246_45 => ?_) (fun c246_45 => ?_)
        · skip
          refine lv_iconst (v := 0) hx hb dX10_count_253 (by decide) ?_
          refine lv_iadd hx hb dX10_count_254 ?_
          refine zz_topi (y := 0) (by decide) ?_
          refine lv_aload_n hx hb dX10_count_255 rfl (lv_at hl 1 rfl) ?_
          refine zz_get (v := .ref (r 65)) S hw fgX10_149 3 rfl rfl dX10_count_256 ?_
          refine W.eq (g2 := F0 m 259 ls [.ref (r 65), .int 0]) rfl ?_
          refine lv_iconst (v := 2) hx hb dX10_count_259 (by decide) ?_
          refine zz_zald (v := (c65 2)) S hw 0 rfl (vp_in_nI (n := 2) (by decide) (by decide)) (congrArg c65 (nI_clamp (n := 2) (by decide))) dX10_count_260 ?_
          refine lv_if_eq (tgt := 268) hx hb dX10_count_261 (by decide) (fun c261_46 => ?_) (fun c261_46 => ?_)
          · skip
            refine lv_iconst (v := 0) hx hb dX10_count_268 (by decide) ?_
            refine lv_iadd hx hb dX10_count_269 ?_
            refine zz_topi (y := 0) (by decide) ?_
            exact hret _ _ _ _ _ _ ⟨0, k47_4, k50_1, k51_2, d45_5, d46_6, d49_3, d52_7, rfl, rfl, (by first | exact ⟨_, _, hq1_0, hq5_0, Or.inl ⟨Int32.toInt_inj.mp (Eq.trans (by assumption) (by decide)), rfl⟩⟩ | exact ⟨_, _, hq1_0, hq5_0, Or.inr (Or.inl ⟨Int32.toInt_inj.mp (Eq.trans (by assumption) (by decide)), rfl⟩)⟩ | exact ⟨_, _, hq1_0, hq5_0, Or.inr (Or.inr (Or.inl ⟨Int32.toInt_inj.mp (Eq.trans (by assumption) (by decide)), rfl⟩))⟩ | exact ⟨_, _, hq1_0, hq5_0, Or.inr (Or.inr (Or.inr (Or.inl ⟨Int32.toInt_inj.mp (Eq.trans (by assumption) (by decide)), (zC_3b (hq121_0.trans (by rw [hq118_0])) ez27)⟩)))⟩ | exact ⟨_, _, hq1_0, hq5_0, Or.inr (Or.inr (Or.inr (Or.inl ⟨Int32.toInt_inj.mp (Eq.trans (by assumption) (by decide)), (zC_3b (hq121_0.trans (by rw [hq118_0])) ez42)⟩)))⟩ | exact ⟨_, _, hq1_0, hq5_0, Or.inr (Or.inr (Or.inr (Or.inl ⟨Int32.toInt_inj.mp (Eq.trans (by assumption) (by decide)), (zC_3b (hq121_0.trans (by rw [hq118_0])) ez43)⟩)))⟩ | exact ⟨_, _, hq1_0, hq5_0, Or.inr (Or.inr (Or.inr (Or.inr (Or.inl ⟨Int32.toInt_inj.mp (Eq.trans (by assumption) (by decide)), hq127_0⟩))))⟩ | exact ⟨_, _, hq1_0, hq5_0, Or.inr (Or.inr (Or.inr (Or.inr (Or.inr (Or.inl ⟨Int32.toInt_inj.mp (Eq.trans (by assumption) (by decide)), (zS_e hdry (by omega))⟩)))))⟩ | exact ⟨_, _, hq1_0, hq5_0, Or.inr (Or.inr (Or.inr (Or.inr (Or.inr (Or.inr (Or.inl ⟨Int32.toInt_inj.mp (Eq.trans (by assumption) (by decide)), (zV_e hdry (by omega))⟩))))))⟩ | exact ⟨_, _, hq1_0, hq5_0, Or.inr (Or.inr (Or.inr (Or.inr (Or.inr (Or.inr (Or.inr (Or.inl ⟨Int32.toInt_inj.mp (Eq.trans (by assumption) (by decide)), rfl⟩)))))))⟩ | exact ⟨_, _, hq1_0, hq5_0, Or.inr (Or.inr (Or.inr (Or.inr (Or.inr (Or.inr (Or.inr (Or.inr (Or.inl ⟨Int32.toInt_inj.mp (Eq.trans (by assumption) (by decide)), rfl⟩))))))))⟩ | exact ⟨_, _, hq1_0, hq5_0, Or.inr (Or.inr (Or.inr (Or.inr (Or.inr (Or.inr (Or.inr (Or.inr (Or.inr (Or.inl ⟨Int32.toInt_inj.mp (Eq.trans (by assumption) (by decide)), rfl⟩)))))))))⟩ | exact ⟨_, _, hq1_0, hq5_0, Or.inr (Or.inr (Or.inr (Or.inr (Or.inr (Or.inr (Or.inr (Or.inr (Or.inr (Or.inr (Or.inl ⟨Int32.toInt_inj.mp (Eq.trans (by assumption) (by decide)), rfl⟩))))))))))⟩ | exact ⟨_, _, hq1_0, hq5_0, Or.inr (Or.inr (Or.inr (Or.inr (Or.inr (Or.inr (Or.inr (Or.inr (Or.inr (Or.inr (Or.inr (Or.inl ⟨Int32.toInt_inj.mp (Eq.trans (by assumption) (by decide)), (zC_3 (by first | exact (zC_1 (by assumption)).symm | exact (zC_0 (fun z => z (by assumption))).symm) (by first | exact (zC_1 (by assumption)).symm | exact (zC_0 (fun z => z (by assumption))).symm) (by first | exact (zC_1 (by assumption)).symm | exact (zC_0 (fun z => z (by assumption))).symm) (by decide))⟩)))))))))))⟩ | exact ⟨_, _, hq1_0, hq5_0, Or.inr (Or.inr (Or.inr (Or.inr (Or.inr (Or.inr (Or.inr (Or.inr (Or.inr (Or.inr (Or.inr (Or.inr (Or.inl ⟨Int32.toInt_inj.mp (Eq.trans (by assumption) (by decide)), (zO_e hdry (by omega))⟩))))))))))))⟩ | exact ⟨_, _, hq1_0, hq5_0, Or.inr (Or.inr (Or.inr (Or.inr (Or.inr (Or.inr (Or.inr (Or.inr (Or.inr (Or.inr (Or.inr (Or.inr (Or.inr (Or.inl ⟨Int32.toInt_inj.mp (Eq.trans (by assumption) (by decide)), hq317_0⟩)))))))))))))⟩ | exact ⟨_, _, hq1_0, hq5_0, Or.inr (Or.inr (Or.inr (Or.inr (Or.inr (Or.inr (Or.inr (Or.inr (Or.inr (Or.inr (Or.inr (Or.inr (Or.inr (Or.inr (⟨by assumption, rfl⟩))))))))))))))⟩), (by first | assumption | exact Or.inl rfl | exact Or.inr rfl | omega | exact Or.inr (by assumption) | exact zz_oku (by assumption) (by first | exact Or.inl rfl | exact Or.inr ⟨_, by omega, rfl⟩))⟩ (hw.sub [3, 4, 5, 6, 7, 8, 9, 10, 1, 11, 12, 13, 14, 15, 16, 17, 18, 19, 20, 21, 2, 22, 23, 0] (by decide +kernel) rfl) rfl dX10_count_270
          · skip
            refine lv_iconst (v := 1) hx hb dX10_count_264 (by decide) ?_
            refine lv_goto (tgt := 269) hx hb dX10_count_265 (by decide) ?_
            refine lv_iadd hx hb dX10_count_269 ?_
            refine zz_topi (y := 1) (by decide) ?_
            exact hret _ _ _ _ _ _ ⟨1, k47_4, k50_1, k51_2, d45_5, d46_6, d49_3, d52_7, rfl, rfl, (by first | exact ⟨_, _, hq1_0, hq5_0, Or.inl ⟨Int32.toInt_inj.mp (Eq.trans (by assumption) (by decide)), rfl⟩⟩ | exact ⟨_, _, hq1_0, hq5_0, Or.inr (Or.inl ⟨Int32.toInt_inj.mp (Eq.trans (by assumption) (by decide)), rfl⟩)⟩ | exact ⟨_, _, hq1_0, hq5_0, Or.inr (Or.inr (Or.inl ⟨Int32.toInt_inj.mp (Eq.trans (by assumption) (by decide)), rfl⟩))⟩ | exact ⟨_, _, hq1_0, hq5_0, Or.inr (Or.inr (Or.inr (Or.inl ⟨Int32.toInt_inj.mp (Eq.trans (by assumption) (by decide)), (zC_3b (hq121_0.trans (by rw [hq118_0])) ez27)⟩)))⟩ | exact ⟨_, _, hq1_0, hq5_0, Or.inr (Or.inr (Or.inr (Or.inl ⟨Int32.toInt_inj.mp (Eq.trans (by assumption) (by decide)), (zC_3b (hq121_0.trans (by rw [hq118_0])) ez42)⟩)))⟩ | exact ⟨_, _, hq1_0, hq5_0, Or.inr (Or.inr (Or.inr (Or.inl ⟨Int32.toInt_inj.mp (Eq.trans (by assumption) (by decide)), (zC_3b (hq121_0.trans (by rw [hq118_0])) ez43)⟩)))⟩ | exact ⟨_, _, hq1_0, hq5_0, Or.inr (Or.inr (Or.inr (Or.inr (Or.inl ⟨Int32.toInt_inj.mp (Eq.trans (by assumption) (by decide)), hq127_0⟩))))⟩ | exact ⟨_, _, hq1_0, hq5_0, Or.inr (Or.inr (Or.inr (Or.inr (Or.inr (Or.inl ⟨Int32.toInt_inj.mp (Eq.trans (by assumption) (by decide)), (zS_e hdry (by omega))⟩)))))⟩ | exact ⟨_, _, hq1_0, hq5_0, Or.inr (Or.inr (Or.inr (Or.inr (Or.inr (Or.inr (Or.inl ⟨Int32.toInt_inj.mp (Eq.trans (by assumption) (by decide)), (zV_e hdry (by omega))⟩))))))⟩ | exact ⟨_, _, hq1_0, hq5_0, Or.inr (Or.inr (Or.inr (Or.inr (Or.inr (Or.inr (Or.inr (Or.inl ⟨Int32.toInt_inj.mp (Eq.trans (by assumption) (by decide)), rfl⟩)))))))⟩ | exact ⟨_, _, hq1_0, hq5_0, Or.inr (Or.inr (Or.inr (Or.inr (Or.inr (Or.inr (Or.inr (Or.inr (Or.inl ⟨Int32.toInt_inj.mp (Eq.trans (by assumption) (by decide)), rfl⟩))))))))⟩ | exact ⟨_, _, hq1_0, hq5_0, Or.inr (Or.inr (Or.inr (Or.inr (Or.inr (Or.inr (Or.inr (Or.inr (Or.inr (Or.inl ⟨Int32.toInt_inj.mp (Eq.trans (by assumption) (by decide)), rfl⟩)))))))))⟩ | exact ⟨_, _, hq1_0, hq5_0, Or.inr (Or.inr (Or.inr (Or.inr (Or.inr (Or.inr (Or.inr (Or.inr (Or.inr (Or.inr (Or.inl ⟨Int32.toInt_inj.mp (Eq.trans (by assumption) (by decide)), rfl⟩))))))))))⟩ | exact ⟨_, _, hq1_0, hq5_0, Or.inr (Or.inr (Or.inr (Or.inr (Or.inr (Or.inr (Or.inr (Or.inr (Or.inr (Or.inr (Or.inr (Or.inl ⟨Int32.toInt_inj.mp (Eq.trans (by assumption) (by decide)), (zC_3 (by first | exact (zC_1 (by assumption)).symm | exact (zC_0 (fun z => z (by assumption))).symm) (by first | exact (zC_1 (by assumption)).symm | exact (zC_0 (fun z => z (by assumption))).symm) (by first | exact (zC_1 (by assumption)).symm | exact (zC_0 (fun z => z (by assumption))).symm) (by decide))⟩)))))))))))⟩ | exact ⟨_, _, hq1_0, hq5_0, Or.inr (Or.inr (Or.inr (Or.inr (Or.inr (Or.inr (Or.inr (Or.inr (Or.inr (Or.inr (Or.inr (Or.inr (Or.inl ⟨Int32.toInt_inj.mp (Eq.trans (by assumption) (by decide)), (zO_e hdry (by omega))⟩))))))))))))⟩ | exact ⟨_, _, hq1_0, hq5_0, Or.inr (Or.inr (Or.inr (Or.inr (Or.inr (Or.inr (Or.inr (Or.inr (Or.inr (Or.inr (Or.inr (Or.inr (Or.inr (Or.inl ⟨Int32.toInt_inj.mp (Eq.trans (by assumption) (by decide)), hq317_0⟩)))))))))))))⟩ | exact ⟨_, _, hq1_0, hq5_0, Or.inr (Or.inr (Or.inr (Or.inr (Or.inr (Or.inr (Or.inr (Or.inr (Or.inr (Or.inr (Or.inr (Or.inr (Or.inr (Or.inr (⟨by assumption, rfl⟩))))))))))))))⟩), (by first | assumption | exact Or.inl rfl | exact Or.inr rfl | omega | exact Or.inr (by assumption) | exact zz_oku (by assumption) (by first | exact Or.inl rfl | exact Or.inr ⟨_, by omega, rfl⟩))⟩ (hw.sub [3, 4, 5, 6, 7, 8, 9, 10, 1, 11, 12, 13, 14, 15, 16, 17, 18, 19, 20, 21, 2, 22, 23, 0] (by decide +kernel) rfl) rfl dX10_count_270
        · skip
          refine lv_iconst (v := 1) hx hb dX10_count_249 (by decide) ?_
          refine lv_goto (tgt := 254) hx hb dX10_count_250 (by decide) ?_
          refine lv_iadd hx hb dX10_count_254 ?_
          refine zz_topi (y := 1) (by decide) ?_
          refine lv_aload_n hx hb dX10_count_255 rfl (lv_at hl 1 rfl) ?_
          refine zz_get (v := .ref (r 65)) S hw fgX10_149 3 rfl rfl dX10_count_256 ?_
          refine lv_iconst (v := 2) hx hb dX10_count_259 (by decide) ?_
          refine zz_zald (v := (c65 2)) S hw 0 rfl (vp_in_nI (n := 2) (by decide) (by decide)) (congrArg c65 (nI_clamp (n := 2) (by decide))) dX10_count_260 ?_
          refine W.eq (g2 := F0 m 261 ls [.int (c65 2), .int 1]) rfl ?_
          refine lv_if_eq (tgt := 268) hx hb dX10_count_261 (by decide) (fun c261_47 => ?_) (fun c261_47 => ?_)
          · skip
            refine lv_iconst (v := 0) hx hb dX10_count_268 (by decide) ?_
            refine lv_iadd hx hb dX10_count_269 ?_
            refine zz_topi (y := 1) (by decide) ?_
            exact hret _ _ _ _ _ _ ⟨1, k47_4, k50_1, k51_2, d45_5, d46_6, d49_3, d52_7, rfl, rfl, (by first | exact ⟨_, _, hq1_0, hq5_0, Or.inl ⟨Int32.toInt_inj.mp (Eq.trans (by assumption) (by decide)), rfl⟩⟩ | exact ⟨_, _, hq1_0, hq5_0, Or.inr (Or.inl ⟨Int32.toInt_inj.mp (Eq.trans (by assumption) (by decide)), rfl⟩)⟩ | exact ⟨_, _, hq1_0, hq5_0, Or.inr (Or.inr (Or.inl ⟨Int32.toInt_inj.mp (Eq.trans (by assumption) (by decide)), rfl⟩))⟩ | exact ⟨_, _, hq1_0, hq5_0, Or.inr (Or.inr (Or.inr (Or.inl ⟨Int32.toInt_inj.mp (Eq.trans (by assumption) (by decide)), (zC_3b (hq121_0.trans (by rw [hq118_0])) ez27)⟩)))⟩ | exact ⟨_, _, hq1_0, hq5_0, Or.inr (Or.inr (Or.inr (Or.inl ⟨Int32.toInt_inj.mp (Eq.trans (by assumption) (by decide)), (zC_3b (hq121_0.trans (by rw [hq118_0])) ez42)⟩)))⟩ | exact ⟨_, _, hq1_0, hq5_0, Or.inr (Or.inr (Or.inr (Or.inl ⟨Int32.toInt_inj.mp (Eq.trans (by assumption) (by decide)), (zC_3b (hq121_0.trans (by rw [hq118_0])) ez43)⟩)))⟩ | exact ⟨_, _, hq1_0, hq5_0, Or.inr (Or.inr (Or.inr (Or.inr (Or.inl ⟨Int32.toInt_inj.mp (Eq.trans (by assumption) (by decide)), hq127_0⟩))))⟩ | exact ⟨_, _, hq1_0, hq5_0, Or.inr (Or.inr (Or.inr (Or.inr (Or.inr (Or.inl ⟨Int32.toInt_inj.mp (Eq.trans (by assumption) (by decide)), (zS_e hdry (by omega))⟩)))))⟩ | exact ⟨_, _, hq1_0, hq5_0, Or.inr (Or.inr (Or.inr (Or.inr (Or.inr (Or.inr (Or.inl ⟨Int32.toInt_inj.mp (Eq.trans (by assumption) (by decide)), (zV_e hdry (by omega))⟩))))))⟩ | exact ⟨_, _, hq1_0, hq5_0, Or.inr (Or.inr (Or.inr (Or.inr (Or.inr (Or.inr (Or.inr (Or.inl ⟨Int32.toInt_inj.mp (Eq.trans (by assumption) (by decide)), rfl⟩)))))))⟩ | exact ⟨_, _, hq1_0, hq5_0, Or.inr (Or.inr (Or.inr (Or.inr (Or.inr (Or.inr (Or.inr (Or.inr (Or.inl ⟨Int32.toInt_inj.mp (Eq.trans (by assumption) (by decide)), rfl⟩))))))))⟩ | exact ⟨_, _, hq1_0, hq5_0, Or.inr (Or.inr (Or.inr (Or.inr (Or.inr (Or.inr (Or.inr (Or.inr (Or.inr (Or.inl ⟨Int32.toInt_inj.mp (Eq.trans (by assumption) (by decide)), rfl⟩)))))))))⟩ | exact ⟨_, _, hq1_0, hq5_0, Or.inr (Or.inr (Or.inr (Or.inr (Or.inr (Or.inr (Or.inr (Or.inr (Or.inr (Or.inr (Or.inl ⟨Int32.toInt_inj.mp (Eq.trans (by assumption) (by decide)), rfl⟩))))))))))⟩ | exact ⟨_, _, hq1_0, hq5_0, Or.inr (Or.inr (Or.inr (Or.inr (Or.inr (Or.inr (Or.inr (Or.inr (Or.inr (Or.inr (Or.inr (Or.inl ⟨Int32.toInt_inj.mp (Eq.trans (by assumption) (by decide)), (zC_3 (by first | exact (zC_1 (by assumption)).symm | exact (zC_0 (fun z => z (by assumption))).symm) (by first | exact (zC_1 (by assumption)).symm | exact (zC_0 (fun z => z (by assumption))).symm) (by first | exact (zC_1 (by assumption)).symm | exact (zC_0 (fun z => z (by assumption))).symm) (by decide))⟩)))))))))))⟩ | exact ⟨_, _, hq1_0, hq5_0, Or.inr (Or.inr (Or.inr (Or.inr (Or.inr (Or.inr (Or.inr (Or.inr (Or.inr (Or.inr (Or.inr (Or.inr (Or.inl ⟨Int32.toInt_inj.mp (Eq.trans (by assumption) (by decide)), (zO_e hdry (by omega))⟩))))))))))))⟩ | exact ⟨_, _, hq1_0, hq5_0, Or.inr (Or.inr (Or.inr (Or.inr (Or.inr (Or.inr (Or.inr (Or.inr (Or.inr (Or.inr (Or.inr (Or.inr (Or.inr (Or.inl ⟨Int32.toInt_inj.mp (Eq.trans (by assumption) (by decide)), hq317_0⟩)))))))))))))⟩ | exact ⟨_, _, hq1_0, hq5_0, Or.inr (Or.inr (Or.inr (Or.inr (Or.inr (Or.inr (Or.inr (Or.inr (Or.inr (Or.inr (Or.inr (Or.inr (Or.inr (Or.inr (⟨by assumption, rfl⟩))))))))))))))⟩), (by first | assumption | exact Or.inl rfl | exact Or.inr rfl | omega | exact Or.inr (by assumption) | exact zz_oku (by assumption) (by first | exact Or.inl rfl | exact Or.inr ⟨_, by omega, rfl⟩))⟩ (hw.sub [3, 4, 5, 6, 7, 8, 9, 10, 1, 11, 12, 13, 14, 15, 16, 17, 18, 19, 20, 21, 2, 22, 23, 0] (by decide +kernel) rfl) rfl dX10_count_270
          · skip
            refine lv_iconst (v := 1) hx hb dX10_count_264 (by decide) ?_
            refine lv_goto (tgt := 269) hx hb dX10_count_265 (by decide) ?_
            refine lv_iadd hx hb dX10_count_269 ?_
            refine zz_topi (y := 2) (by decide) ?_
            exact hret _ _ _ _ _ _ ⟨2, k47_4, k50_1, k51_2, d45_5, d46_6, d49_3, d52_7, rfl, rfl, (by first | exact ⟨_, _, hq1_0, hq5_0, Or.inl ⟨Int32.toInt_inj.mp (Eq.trans (by assumption) (by decide)), rfl⟩⟩ | exact ⟨_, _, hq1_0, hq5_0, Or.inr (Or.inl ⟨Int32.toInt_inj.mp (Eq.trans (by assumption) (by decide)), rfl⟩)⟩ | exact ⟨_, _, hq1_0, hq5_0, Or.inr (Or.inr (Or.inl ⟨Int32.toInt_inj.mp (Eq.trans (by assumption) (by decide)), rfl⟩))⟩ | exact ⟨_, _, hq1_0, hq5_0, Or.inr (Or.inr (Or.inr (Or.inl ⟨Int32.toInt_inj.mp (Eq.trans (by assumption) (by decide)), (zC_3b (hq121_0.trans (by rw [hq118_0])) ez27)⟩)))⟩ | exact ⟨_, _, hq1_0, hq5_0, Or.inr (Or.inr (Or.inr (Or.inl ⟨Int32.toInt_inj.mp (Eq.trans (by assumption) (by decide)), (zC_3b (hq121_0.trans (by rw [hq118_0])) ez42)⟩)))⟩ | exact ⟨_, _, hq1_0, hq5_0, Or.inr (Or.inr (Or.inr (Or.inl ⟨Int32.toInt_inj.mp (Eq.trans (by assumption) (by decide)), (zC_3b (hq121_0.trans (by rw [hq118_0])) ez43)⟩)))⟩ | exact ⟨_, _, hq1_0, hq5_0, Or.inr (Or.inr (Or.inr (Or.inr (Or.inl ⟨Int32.toInt_inj.mp (Eq.trans (by assumption) (by decide)), hq127_0⟩))))⟩ | exact ⟨_, _, hq1_0, hq5_0, Or.inr (Or.inr (Or.inr (Or.inr (Or.inr (Or.inl ⟨Int32.toInt_inj.mp (Eq.trans (by assumption) (by decide)), (zS_e hdry (by omega))⟩)))))⟩ | exact ⟨_, _, hq1_0, hq5_0, Or.inr (Or.inr (Or.inr (Or.inr (Or.inr (Or.inr (Or.inl ⟨Int32.toInt_inj.mp (Eq.trans (by assumption) (by decide)), (zV_e hdry (by omega))⟩))))))⟩ | exact ⟨_, _, hq1_0, hq5_0, Or.inr (Or.inr (Or.inr (Or.inr (Or.inr (Or.inr (Or.inr (Or.inl ⟨Int32.toInt_inj.mp (Eq.trans (by assumption) (by decide)), rfl⟩)))))))⟩ | exact ⟨_, _, hq1_0, hq5_0, Or.inr (Or.inr (Or.inr (Or.inr (Or.inr (Or.inr (Or.inr (Or.inr (Or.inl ⟨Int32.toInt_inj.mp (Eq.trans (by assumption) (by decide)), rfl⟩))))))))⟩ | exact ⟨_, _, hq1_0, hq5_0, Or.inr (Or.inr (Or.inr (Or.inr (Or.inr (Or.inr (Or.inr (Or.inr (Or.inr (Or.inl ⟨Int32.toInt_inj.mp (Eq.trans (by assumption) (by decide)), rfl⟩)))))))))⟩ | exact ⟨_, _, hq1_0, hq5_0, Or.inr (Or.inr (Or.inr (Or.inr (Or.inr (Or.inr (Or.inr (Or.inr (Or.inr (Or.inr (Or.inl ⟨Int32.toInt_inj.mp (Eq.trans (by assumption) (by decide)), rfl⟩))))))))))⟩ | exact ⟨_, _, hq1_0, hq5_0, Or.inr (Or.inr (Or.inr (Or.inr (Or.inr (Or.inr (Or.inr (Or.inr (Or.inr (Or.inr (Or.inr (Or.inl ⟨Int32.toInt_inj.mp (Eq.trans (by assumption) (by decide)), (zC_3 (by first | exact (zC_1 (by assumption)).symm | exact (zC_0 (fun z => z (by assumption))).symm) (by first | exact (zC_1 (by assumption)).symm | exact (zC_0 (fun z => z (by assumption))).symm) (by first | exact (zC_1 (by assumption)).symm | exact (zC_0 (fun z => z (by assumption))).symm) (by decide))⟩)))))))))))⟩ | exact ⟨_, _, hq1_0, hq5_0, Or.inr (Or.inr (Or.inr (Or.inr (Or.inr (Or.inr (Or.inr (Or.inr (Or.inr (Or.inr (Or.inr (Or.inr (Or.inl ⟨Int32.toInt_inj.mp (Eq.trans (by assumption) (by decide)), (zO_e hdry (by omega))⟩))))))))))))⟩ | exact ⟨_, _, hq1_0, hq5_0, Or.inr (Or.inr (Or.inr (Or.inr (Or.inr (Or.inr (Or.inr (Or.inr (Or.inr (Or.inr (Or.inr (Or.inr (Or.inr (Or.inl ⟨Int32.toInt_inj.mp (Eq.trans (by assumption) (by decide)), hq317_0⟩)))))))))))))⟩ | exact ⟨_, _, hq1_0, hq5_0, Or.inr (Or.inr (Or.inr (Or.inr (Or.inr (Or.inr (Or.inr (Or.inr (Or.inr (Or.inr (Or.inr (Or.inr (Or.inr (Or.inr (⟨by assumption, rfl⟩))))))))))))))⟩), (by first | assumption | exact Or.inl rfl | exact Or.inr rfl | omega | exact Or.inr (by assumption) | exact zz_oku (by assumption) (by first | exact Or.inl rfl | exact Or.inr ⟨_, by omega, rfl⟩))⟩ (hw.sub [3, 4, 5, 6, 7, 8, 9, 10, 1, 11, 12, 13, 14, 15, 16, 17, 18, 19, 20, 21, 2, 22, 23, 0] (by decide +kernel) rfl) rfl dX10_count_270
      · skip
        refine lv_iconst (v := 1) hx hb dX10_count_235 (by decide) ?_
        refine lv_goto (tgt := 240) hx hb dX10_count_236 (by decide) ?_
        refine lv_aload_n hx hb dX10_count_240 rfl (lv_at hl 1 rfl) ?_
        refine zz_get (v := .ref (r 65)) S hw fgX10_149 3 rfl rfl dX10_count_241 ?_
        refine lv_iconst (v := 1) hx hb dX10_count_244 (by decide) ?_
        refine zz_zald (v := (c65 1)) S hw 0 rfl (vp_in_nI (n := 1) (by decide) (by decide)) (congrArg c65 (nI_clamp (n := 1) (by decide))) dX10_count_245 ?_
        refine lv_if_eq (tgt := 253) hx hb dX10_count_246 (by decide) (fun c246_48 => ?_) (fun c246_48 => ?_)
        · skip
          refine lv_iconst (v := 0) hx hb dX10_count_253 (by decide) ?_
          refine lv_iadd hx hb dX10_count_254 ?_
          refine zz_topi (y := 1) (by decide) ?_
          refine lv_aload_n hx hb dX10_count_255 rfl (lv_at hl 1 rfl) ?_
          refine W.eq (g2 := F0 m 256 ls [.ref (r 0), .int 1]) rfl ?_
          refine zz_get (v := .ref (r 65)) S hw fgX10_149 3 rfl rfl dX10_count_256 ?_
          refine lv_iconst (v := 2) hx hb dX10_count_259 (by decide) ?_
          refine zz_zald (v := (c65 2)) S hw 0 rfl (vp_in_nI (n := 2) (by decide) (by decide)) (congrArg c65 (nI_clamp (n := 2) (by decide))) dX10_count_260 ?_
          refine lv_if_eq (tgt := 268) hx hb dX10_count_261 (by decide) (fun c261_49 => ?_) (fun c261_49 => ?_)
          · skip
            refine lv_iconst (v := 0) hx hb dX10_count_268 (by decide) ?_
            refine lv_iadd hx hb dX10_count_269 ?_
            refine zz_topi (y := 1) (by decide) ?_
            exact hret _ _ _ _ _ _ ⟨1, k47_4, k50_1, k51_2, d45_5, d46_6, d49_3, d52_7, rfl, rfl, (by first | exact ⟨_, _, hq1_0, hq5_0, Or.inl ⟨Int32.toInt_inj.mp (Eq.trans (by assumption) (by decide)), rfl⟩⟩ | exact ⟨_, _, hq1_0, hq5_0, Or.inr (Or.inl ⟨Int32.toInt_inj.mp (Eq.trans (by assumption) (by decide)), rfl⟩)⟩ | exact ⟨_, _, hq1_0, hq5_0, Or.inr (Or.inr (Or.inl ⟨Int32.toInt_inj.mp (Eq.trans (by assumption) (by decide)), rfl⟩))⟩ | exact ⟨_, _, hq1_0, hq5_0, Or.inr (Or.inr (Or.inr (Or.inl ⟨Int32.toInt_inj.mp (Eq.trans (by assumption) (by decide)), (zC_3b (hq121_0.trans (by rw [hq118_0])) ez27)⟩)))⟩ | exact ⟨_, _, hq1_0, hq5_0, Or.inr (Or.inr (Or.inr (Or.inl ⟨Int32.toInt_inj.mp (Eq.trans (by assumption) (by decide)), (zC_3b (hq121_0.trans (by rw [hq118_0])) ez42)⟩)))⟩ | exact ⟨_, _, hq1_0, hq5_0, Or.inr (Or.inr (Or.inr (Or.inl ⟨Int32.toInt_inj.mp (Eq.trans (by assumption) (by decide)), (zC_3b (hq121_0.trans (by rw [hq118_0])) ez43)⟩)))⟩ | exact ⟨_, _, hq1_0, hq5_0, Or.inr (Or.inr (Or.inr (Or.inr (Or.inl ⟨Int32.toInt_inj.mp (Eq.trans (by assumption) (by decide)), hq127_0⟩))))⟩ | exact ⟨_, _, hq1_0, hq5_0, Or.inr (Or.inr (Or.inr (Or.inr (Or.inr (Or.inl ⟨Int32.toInt_inj.mp (Eq.trans (by assumption) (by decide)), (zS_e hdry (by omega))⟩)))))⟩ | exact ⟨_, _, hq1_0, hq5_0, Or.inr (Or.inr (Or.inr (Or.inr (Or.inr (Or.inr (Or.inl ⟨Int32.toInt_inj.mp (Eq.trans (by assumption) (by decide)), (zV_e hdry (by omega))⟩))))))⟩ | exact ⟨_, _, hq1_0, hq5_0, Or.inr (Or.inr (Or.inr (Or.inr (Or.inr (Or.inr (Or.inr (Or.inl ⟨Int32.toInt_inj.mp (Eq.trans (by assumption) (by decide)), rfl⟩)))))))⟩ | exact ⟨_, _, hq1_0, hq5_0, Or.inr (Or.inr (Or.inr (Or.inr (Or.inr (Or.inr (Or.inr (Or.inr (Or.inl ⟨Int32.toInt_inj.mp (Eq.trans (by assumption) (by decide)), rfl⟩))))))))⟩ | exact ⟨_, _, hq1_0, hq5_0, Or.inr (Or.inr (Or.inr (Or.inr (Or.inr (Or.inr (Or.inr (Or.inr (Or.inr (Or.inl ⟨Int32.toInt_inj.mp (Eq.trans (by assumption) (by decide)), rfl⟩)))))))))⟩ | exact ⟨_, _, hq1_0, hq5_0, Or.inr (Or.inr (Or.inr (Or.inr (Or.inr (Or.inr (Or.inr (Or.inr (Or.inr (Or.inr (Or.inl ⟨Int32.toInt_inj.mp (Eq.trans (by assumption) (by decide)), rfl⟩))))))))))⟩ | exact ⟨_, _, hq1_0, hq5_0, Or.inr (Or.inr (Or.inr (Or.inr (Or.inr (Or.inr (Or.inr (Or.inr (Or.inr (Or.inr (Or.inr (Or.inl ⟨Int32.toInt_inj.mp (Eq.trans (by assumption) (by decide)), (zC_3 (by first | exact (zC_1 (by assumption)).symm | exact (zC_0 (fun z => z (by assumption))).symm) (by first | exact (zC_1 (by assumption)).symm | exact (zC_0 (fun z => z (by assumption))).symm) (by first | exact (zC_1 (by assumption)).symm | exact (zC_0 (fun z => z (by assumption))).symm) (by decide))⟩)))))))))))⟩ | exact ⟨_, _, hq1_0, hq5_0, Or.inr (Or.inr (Or.inr (Or.inr (Or.inr (Or.inr (Or.inr (Or.inr (Or.inr (Or.inr (Or.inr (Or.inr (Or.inl ⟨Int32.toInt_inj.mp (Eq.trans (by assumption) (by decide)), (zO_e hdry (by omega))⟩))))))))))))⟩ | exact ⟨_, _, hq1_0, hq5_0, Or.inr (Or.inr (Or.inr (Or.inr (Or.inr (Or.inr (Or.inr (Or.inr (Or.inr (Or.inr (Or.inr (Or.inr (Or.inr (Or.inl ⟨Int32.toInt_inj.mp (Eq.trans (by assumption) (by decide)), hq317_0⟩)))))))))))))⟩ | exact ⟨_, _, hq1_0, hq5_0, Or.inr (Or.inr (Or.inr (Or.inr (Or.inr (Or.inr (Or.inr (Or.inr (Or.inr (Or.inr (Or.inr (Or.inr (Or.inr (Or.inr (⟨by assumption, rfl⟩))))))))))))))⟩), (by first | assumption | exact Or.inl rfl | exact Or.inr rfl | omega | exact Or.inr (by assumption) | exact zz_oku (by assumption) (by first | exact Or.inl rfl | exact Or.inr ⟨_, by omega, rfl⟩))⟩ (hw.sub [3, 4, 5, 6, 7, 8, 9, 10, 1, 11, 12, 13, 14, 15, 16, 17, 18, 19, 20, 21, 2, 22, 23, 0] (by decide +kernel) rfl) rfl dX10_count_270
          · skip
            refine lv_iconst (v := 1) hx hb dX10_count_264 (by decide) ?_
            refine lv_goto (tgt := 269) hx hb dX10_count_265 (by decide) ?_
            refine lv_iadd hx hb dX10_count_269 ?_
            refine zz_topi (y := 2) (by decide) ?_
            exact hret _ _ _ _ _ _ ⟨2, k47_4, k50_1, k51_2, d45_5, d46_6, d49_3, d52_7, rfl, rfl, (by first | exact ⟨_, _, hq1_0, hq5_0, Or.inl ⟨Int32.toInt_inj.mp (Eq.trans (by assumption) (by decide)), rfl⟩⟩ | exact ⟨_, _, hq1_0, hq5_0, Or.inr (Or.inl ⟨Int32.toInt_inj.mp (Eq.trans (by assumption) (by decide)), rfl⟩)⟩ | exact ⟨_, _, hq1_0, hq5_0, Or.inr (Or.inr (Or.inl ⟨Int32.toInt_inj.mp (Eq.trans (by assumption) (by decide)), rfl⟩))⟩ | exact ⟨_, _, hq1_0, hq5_0, Or.inr (Or.inr (Or.inr (Or.inl ⟨Int32.toInt_inj.mp (Eq.trans (by assumption) (by decide)), (zC_3b (hq121_0.trans (by rw [hq118_0])) ez27)⟩)))⟩ | exact ⟨_, _, hq1_0, hq5_0, Or.inr (Or.inr (Or.inr (Or.inl ⟨Int32.toInt_inj.mp (Eq.trans (by assumption) (by decide)), (zC_3b (hq121_0.trans (by rw [hq118_0])) ez42)⟩)))⟩ | exact ⟨_, _, hq1_0, hq5_0, Or.inr (Or.inr (Or.inr (Or.inl ⟨Int32.toInt_inj.mp (Eq.trans (by assumption) (by decide)), (zC_3b (hq121_0.trans (by rw [hq118_0])) ez43)⟩)))⟩ | exact ⟨_, _, hq1_0, hq5_0, Or.inr (Or.inr (Or.inr (Or.inr (Or.inl ⟨Int32.toInt_inj.mp (Eq.trans (by assumption) (by decide)), hq127_0⟩))))⟩ | exact ⟨_, _, hq1_0, hq5_0, Or.inr (Or.inr (Or.inr (Or.inr (Or.inr (Or.inl ⟨Int32.toInt_inj.mp (Eq.trans (by assumption) (by decide)), (zS_e hdry (by omega))⟩)))))⟩ | exact ⟨_, _, hq1_0, hq5_0, Or.inr (Or.inr (Or.inr (Or.inr (Or.inr (Or.inr (Or.inl ⟨Int32.toInt_inj.mp (Eq.trans (by assumption) (by decide)), (zV_e hdry (by omega))⟩))))))⟩ | exact ⟨_, _, hq1_0, hq5_0, Or.inr (Or.inr (Or.inr (Or.inr (Or.inr (Or.inr (Or.inr (Or.inl ⟨Int32.toInt_inj.mp (Eq.trans (by assumption) (by decide)), rfl⟩)))))))⟩ | exact ⟨_, _, hq1_0, hq5_0, Or.inr (Or.inr (Or.inr (Or.inr (Or.inr (Or.inr (Or.inr (Or.inr (Or.inl ⟨Int32.toInt_inj.mp (Eq.trans (by assumption) (by decide)), rfl⟩))))))))⟩ | exact ⟨_, _, hq1_0, hq5_0, Or.inr (Or.inr (Or.inr (Or.inr (Or.inr (Or.inr (Or.inr (Or.inr (Or.inr (Or.inl ⟨Int32.toInt_inj.mp (Eq.trans (by assumption) (by decide)), rfl⟩)))))))))⟩ | exact ⟨_, _, hq1_0, hq5_0, Or.inr (Or.inr (Or.inr (Or.inr (Or.inr (Or.inr (Or.inr (Or.inr (Or.inr (Or.inr (Or.inl ⟨Int32.toInt_inj.mp (Eq.trans (by assumption) (by decide)), rfl⟩))))))))))⟩ | exact ⟨_, _, hq1_0, hq5_0, Or.inr (Or.inr (Or.inr (Or.inr (Or.inr (Or.inr (Or.inr (Or.inr (Or.inr (Or.inr (Or.inr (Or.inl ⟨Int32.toInt_inj.mp (Eq.trans (by assumption) (by decide)), (zC_3 (by first | exact (zC_1 (by assumption)).symm | exact (zC_0 (fun z => z (by assumption))).symm) (by first | exact (zC_1 (by assumption)).symm | exact (zC_0 (fun z => z (by assumption))).symm) (by first | exact (zC_1 (by assumption)).symm | exact (zC_0 (fun z => z (by assumption))).symm) (by decide))⟩)))))))))))⟩ | exact ⟨_, _, hq1_0, hq5_0, Or.inr (Or.inr (Or.inr (Or.inr (Or.inr (Or.inr (Or.inr (Or.inr (Or.inr (Or.inr (Or.inr (Or.inr (Or.inl ⟨Int32.toInt_inj.mp (Eq.trans (by assumption) (by decide)), (zO_e hdry (by omega))⟩))))))))))))⟩ | exact ⟨_, _, hq1_0, hq5_0, Or.inr (Or.inr (Or.inr (Or.inr (Or.inr (Or.inr (Or.inr (Or.inr (Or.inr (Or.inr (Or.inr (Or.inr (Or.inr (Or.inl ⟨Int32.toInt_inj.mp (Eq.trans (by assumption) (by decide)), hq317_0⟩)))))))))))))⟩ | exact ⟨_, _, hq1_0, hq5_0, Or.inr (Or.inr (Or.inr (Or.inr (Or.inr (Or.inr (Or.inr (Or.inr (Or.inr (Or.inr (Or.inr (Or.inr (Or.inr (Or.inr (⟨by assumption, rfl⟩))))))))))))))⟩), (by first | assumption | exact Or.inl rfl | exact Or.inr rfl | omega | exact Or.inr (by assumption) | exact zz_oku (by assumption) (by first | exact Or.inl rfl | exact Or.inr ⟨_, by omega, rfl⟩))⟩ (hw.sub [3, 4, 5, 6, 7, 8, 9, 10, 1, 11, 12, 13, 14, 15, 16, 17, 18, 19, 20, 21, 2, 22, 23, 0] (by decide +kernel) rfl) rfl dX10_count_270
        · skip
          refine lv_iconst (v := 1) hx hb dX10_count_249 (by decide) ?_
          refine lv_goto (tgt := 254) hx hb dX10_count_250 (by decide) ?_
          refine lv_iadd hx hb dX10_count_254 ?_
          refine zz_topi (y := 2) (by decide) ?_
          refine lv_aload_n hx hb dX10_count_255 rfl (lv_at hl 1 rfl) ?_
          refine zz_get (v := .ref (r 65)) S hw fgX10_149 3 rfl rfl dX10_count_256 ?_
          refine lv_iconst (v := 2) hx hb dX10_count_259 (by decide) ?_
          refine W.eq (g2 := F0 m 260 ls [.int 2, .ref (r 65), .int 2]) rfl ?_
          refine zz_zald (v := (c65 2)) S hw 0 rfl (vp_in_nI (n := 2) (by decide) (by decide)) (congrArg c65 (nI_clamp (n := 2) (by decide))) dX10_count_260 ?_
          refine lv_if_eq (tgt := 268) hx hb dX10_count_261 (by decide) (fun c261_50 => ?_) (fun c261_50 => ?_)
          · skip
            refine lv_iconst (v := 0) hx hb dX10_count_268 (by decide) ?_
            refine lv_iadd hx hb dX10_count_269 ?_
            refine zz_topi (y := 2) (by decide) ?_
            exact hret _ _ _ _ _ _ ⟨2, k47_4, k50_1, k51_2, d45_5, d46_6, d49_3, d52_7, rfl, rfl, (by first | exact ⟨_, _, hq1_0, hq5_0, Or.inl ⟨Int32.toInt_inj.mp (Eq.trans (by assumption) (by decide)), rfl⟩⟩ | exact ⟨_, _, hq1_0, hq5_0, Or.inr (Or.inl ⟨Int32.toInt_inj.mp (Eq.trans (by assumption) (by decide)), rfl⟩)⟩ | exact ⟨_, _, hq1_0, hq5_0, Or.inr (Or.inr (Or.inl ⟨Int32.toInt_inj.mp (Eq.trans (by assumption) (by decide)), rfl⟩))⟩ | exact ⟨_, _, hq1_0, hq5_0, Or.inr (Or.inr (Or.inr (Or.inl ⟨Int32.toInt_inj.mp (Eq.trans (by assumption) (by decide)), (zC_3b (hq121_0.trans (by rw [hq118_0])) ez27)⟩)))⟩ | exact ⟨_, _, hq1_0, hq5_0, Or.inr (Or.inr (Or.inr (Or.inl ⟨Int32.toInt_inj.mp (Eq.trans (by assumption) (by decide)), (zC_3b (hq121_0.trans (by rw [hq118_0])) ez42)⟩)))⟩ | exact ⟨_, _, hq1_0, hq5_0, Or.inr (Or.inr (Or.inr (Or.inl ⟨Int32.toInt_inj.mp (Eq.trans (by assumption) (by decide)), (zC_3b (hq121_0.trans (by rw [hq118_0])) ez43)⟩)))⟩ | exact ⟨_, _, hq1_0, hq5_0, Or.inr (Or.inr (Or.inr (Or.inr (Or.inl ⟨Int32.toInt_inj.mp (Eq.trans (by assumption) (by decide)), hq127_0⟩))))⟩ | exact ⟨_, _, hq1_0, hq5_0, Or.inr (Or.inr (Or.inr (Or.inr (Or.inr (Or.inl ⟨Int32.toInt_inj.mp (Eq.trans (by assumption) (by decide)), (zS_e hdry (by omega))⟩)))))⟩ | exact ⟨_, _, hq1_0, hq5_0, Or.inr (Or.inr (Or.inr (Or.inr (Or.inr (Or.inr (Or.inl ⟨Int32.toInt_inj.mp (Eq.trans (by assumption) (by decide)), (zV_e hdry (by omega))⟩))))))⟩ | exact ⟨_, _, hq1_0, hq5_0, Or.inr (Or.inr (Or.inr (Or.inr (Or.inr (Or.inr (Or.inr (Or.inl ⟨Int32.toInt_inj.mp (Eq.trans (by assumption) (by decide)), rfl⟩)))))))⟩ | exact ⟨_, _, hq1_0, hq5_0, Or.inr (Or.inr (Or.inr (Or.inr (Or.inr (Or.inr (Or.inr (Or.inr (Or.inl ⟨Int32.toInt_inj.mp (Eq.trans (by assumption) (by decide)), rfl⟩))))))))⟩ | exact ⟨_, _, hq1_0, hq5_0, Or.inr (Or.inr (Or.inr (Or.inr (Or.inr (Or.inr (Or.inr (Or.inr (Or.inr (Or.inl ⟨Int32.toInt_inj.mp (Eq.trans (by assumption) (by decide)), rfl⟩)))))))))⟩ | exact ⟨_, _, hq1_0, hq5_0, Or.inr (Or.inr (Or.inr (Or.inr (Or.inr (Or.inr (Or.inr (Or.inr (Or.inr (Or.inr (Or.inl ⟨Int32.toInt_inj.mp (Eq.trans (by assumption) (by decide)), rfl⟩))))))))))⟩ | exact ⟨_, _, hq1_0, hq5_0, Or.inr (Or.inr (Or.inr (Or.inr (Or.inr (Or.inr (Or.inr (Or.inr (Or.inr (Or.inr (Or.inr (Or.inl ⟨Int32.toInt_inj.mp (Eq.trans (by assumption) (by decide)), (zC_3 (by first | exact (zC_1 (by assumption)).symm | exact (zC_0 (fun z => z (by assumption))).symm) (by first | exact (zC_1 (by assumption)).symm | exact (zC_0 (fun z => z (by assumption))).symm) (by first | exact (zC_1 (by assumption)).symm | exact (zC_0 (fun z => z (by assumption))).symm) (by decide))⟩)))))))))))⟩ | exact ⟨_, _, hq1_0, hq5_0, Or.inr (Or.inr (Or.inr (Or.inr (Or.inr (Or.inr (Or.inr (Or.inr (Or.inr (Or.inr (Or.inr (Or.inr (Or.inl ⟨Int32.toInt_inj.mp (Eq.trans (by assumption) (by decide)), (zO_e hdry (by omega))⟩))))))))))))⟩ | exact ⟨_, _, hq1_0, hq5_0, Or.inr (Or.inr (Or.inr (Or.inr (Or.inr (Or.inr (Or.inr (Or.inr (Or.inr (Or.inr (Or.inr (Or.inr (Or.inr (Or.inl ⟨Int32.toInt_inj.mp (Eq.trans (by assumption) (by decide)), hq317_0⟩)))))))))))))⟩ | exact ⟨_, _, hq1_0, hq5_0, Or.inr (Or.inr (Or.inr (Or.inr (Or.inr (Or.inr (Or.inr (Or.inr (Or.inr (Or.inr (Or.inr (Or.inr (Or.inr (Or.inr (⟨by assumption, rfl⟩))))))))))))))⟩), (by first | assumption | exact Or.inl rfl | exact Or.inr rfl | omega | exact Or.inr (by assumption) | exact zz_oku (by assumption) (by first | exact Or.inl rfl | exact Or.inr ⟨_, by omega, rfl⟩))⟩ (hw.sub [3, 4, 5, 6, 7, 8, 9, 10, 1, 11, 12, 13, 14, 15, 16, 17, 18, 19, 20, 21, 2, 22, 23, 0] (by decide +kernel) rfl) rfl dX10_count_270
          · skip
            refine lv_iconst (v := 1) hx hb dX10_count_264 (by decide) ?_
            refine lv_goto (tgt := 269) hx hb dX10_count_265 (by decide) ?_
            refine lv_iadd hx hb dX10_count_269 ?_
            refine zz_topi (y := 3) (by decide) ?_
            exact hret _ _ _ _ _ _ ⟨3, k47_4, k50_1, k51_2, d45_5, d46_6, d49_3, d52_7, rfl, rfl, (by first | exact ⟨_, _, hq1_0, hq5_0, Or.inl ⟨Int32.toInt_inj.mp (Eq.trans (by assumption) (by decide)), rfl⟩⟩ | exact ⟨_, _, hq1_0, hq5_0, Or.inr (Or.inl ⟨Int32.toInt_inj.mp (Eq.trans (by assumption) (by decide)), rfl⟩)⟩ | exact ⟨_, _, hq1_0, hq5_0, Or.inr (Or.inr (Or.inl ⟨Int32.toInt_inj.mp (Eq.trans (by assumption) (by decide)), rfl⟩))⟩ | exact ⟨_, _, hq1_0, hq5_0, Or.inr (Or.inr (Or.inr (Or.inl ⟨Int32.toInt_inj.mp (Eq.trans (by assumption) (by decide)), (zC_3b (hq121_0.trans (by rw [hq118_0])) ez27)⟩)))⟩ | exact ⟨_, _, hq1_0, hq5_0, Or.inr (Or.inr (Or.inr (Or.inl ⟨Int32.toInt_inj.mp (Eq.trans (by assumption) (by decide)), (zC_3b (hq121_0.trans (by rw [hq118_0])) ez42)⟩)))⟩ | exact ⟨_, _, hq1_0, hq5_0, Or.inr (Or.inr (Or.inr (Or.inl ⟨Int32.toInt_inj.mp (Eq.trans (by assumption) (by decide)), (zC_3b (hq121_0.trans (by rw [hq118_0])) ez43)⟩)))⟩ | exact ⟨_, _, hq1_0, hq5_0, Or.inr (Or.inr (Or.inr (Or.inr (Or.inl ⟨Int32.toInt_inj.mp (Eq.trans (by assumption) (by decide)), hq127_0⟩))))⟩ | exact ⟨_, _, hq1_0, hq5_0, Or.inr (Or.inr (Or.inr (Or.inr (Or.inr (Or.inl ⟨Int32.toInt_inj.mp (Eq.trans (by assumption) (by decide)), (zS_e hdry (by omega))⟩)))))⟩ | exact ⟨_, _, hq1_0, hq5_0, Or.inr (Or.inr (Or.inr (Or.inr (Or.inr (Or.inr (Or.inl ⟨Int32.toInt_inj.mp (Eq.trans (by assumption) (by decide)), (zV_e hdry (by omega))⟩))))))⟩ | exact ⟨_, _, hq1_0, hq5_0, Or.inr (Or.inr (Or.inr (Or.inr (Or.inr (Or.inr (Or.inr (Or.inl ⟨Int32.toInt_inj.mp (Eq.trans (by assumption) (by decide)), rfl⟩)))))))⟩ | exact ⟨_, _, hq1_0, hq5_0, Or.inr (Or.inr (Or.inr (Or.inr (Or.inr (Or.inr (Or.inr (Or.inr (Or.inl ⟨Int32.toInt_inj.mp (Eq.trans (by assumption) (by decide)), rfl⟩))))))))⟩ | exact ⟨_, _, hq1_0, hq5_0, Or.inr (Or.inr (Or.inr (Or.inr (Or.inr (Or.inr (Or.inr (Or.inr (Or.inr (Or.inl ⟨Int32.toInt_inj.mp (Eq.trans (by assumption) (by decide)), rfl⟩)))))))))⟩ | exact ⟨_, _, hq1_0, hq5_0, Or.inr (Or.inr (Or.inr (Or.inr (Or.inr (Or.inr (Or.inr (Or.inr (Or.inr (Or.inr (Or.inl ⟨Int32.toInt_inj.mp (Eq.trans (by assumption) (by decide)), rfl⟩))))))))))⟩ | exact ⟨_, _, hq1_0, hq5_0, Or.inr (Or.inr (Or.inr (Or.inr (Or.inr (Or.inr (Or.inr (Or.inr (Or.inr (Or.inr (Or.inr (Or.inl ⟨Int32.toInt_inj.mp (Eq.trans (by assumption) (by decide)), (zC_3 (by first | exact (zC_1 (by assumption)).symm | exact (zC_0 (fun z => z (by assumption))).symm) (by first | exact (zC_1 (by assumption)).symm | exact (zC_0 (fun z => z (by assumption))).symm) (by first | exact (zC_1 (by assumption)).symm | exact (zC_0 (fun z => z (by assumption))).symm) (by decide))⟩)))))))))))⟩ | exact ⟨_, _, hq1_0, hq5_0, Or.inr (Or.inr (Or.inr (Or.inr (Or.inr (Or.inr (Or.inr (Or.inr (Or.inr (Or.inr (Or.inr (Or.inr (Or.inl ⟨Int32.toInt_inj.mp (Eq.trans (by assumption) (by decide)), (zO_e hdry (by omega))⟩))))))))))))⟩ | exact ⟨_, _, hq1_0, hq5_0, Or.inr (Or.inr (Or.inr (Or.inr (Or.inr (Or.inr (Or.inr (Or.inr (Or.inr (Or.inr (Or.inr (Or.inr (Or.inr (Or.inl ⟨Int32.toInt_inj.mp (Eq.trans (by assumption) (by decide)), hq317_0⟩)))))))))))))⟩ | exact ⟨_, _, hq1_0, hq5_0, Or.inr (Or.inr (Or.inr (Or.inr (Or.inr (Or.inr (Or.inr (Or.inr (Or.inr (Or.inr (Or.inr (Or.inr (Or.inr (Or.inr (⟨by assumption, rfl⟩))))))))))))))⟩), (by first | assumption | exact Or.inl rfl | exact Or.inr rfl | omega | exact Or.inr (by assumption) | exact zz_oku (by assumption) (by first | exact Or.inl rfl | exact Or.inr ⟨_, by omega, rfl⟩))⟩ (hw.sub [3, 4, 5, 6, 7, 8, 9, 10, 1, 11, 12, 13, 14, 15, 16, 17, 18, 19, 20, 21, 2, 22, 23, 0] (by decide +kernel) rfl) rfl dX10_count_270
    · skip
      refine lv_tableIn (off := 260) (tgt := 271) hx hb dX10_count_11 (by rw [qw8]; decide) (by rw [qw8]; decide) (by rw [qw8]; rfl) (by decide) ?_
      refine lv_iconst (v := 0) hx hb dX10_count_271 (by decide) ?_
      refine lv_istore_n (lv' := [(3, .int 0), (2, .int 0), (0, .ref (r 0)), (1, .int ar1)]) hx hb dX10_count_272 rfl hl (by decide) rfl (fun ls hl => ?_)
      have lp273_78 : ∀ (vn52 vi51 : Nat) (vy68 : Int32) (H : Heap) (locs : List Loc) (ls : Array Slot), vi51 ≤ pp → pp < vi51 + vn52 → vy68 = zO (fun a => ¬ d49_3 (14 + a) = 1 ∧ ∀ j, j < pq → ¬ d52_7 j = nI a) vi51 → zz_w G A s [((r 65), .inl (G.2 2, 3, .inl c65)), ((r 31), .inl (G.2 0, 2, .inl c31)), ((r 48), .inl (G.2 0, 71, .inl c48)), ((r 0), .inr (10, (zz_mo r [(0, j0), (2, j2), (4, j4), (10, j10), (11, j11), (12, j12), (13, j13), (14, j14), (15, j15), (16, j16), (17, j17), (18, (nI lv)), (19, j19), (20, j20), (34, j34), (40, j40), (44, j44), (47, k47_4), (50, k50_1), (51, k51_2), (56, j56), (61, j61)]))), ((r 22), .inl (G.2 0, 2, .inl c22)), ((r 24), .inl (G.2 0, 14, .inl c24)), ((r 25), .inl (G.2 0, 14, .inl c25)), ((r 26), .inl (G.2 0, 2, .inl c26)), ((r 28), .inl (G.2 0, 12, .inl c28)), ((r 29), .inl (G.2 0, 12, .inl c29)), ((r 30), .inl (G.2 0, 2, .inl c30)), ((r 32), .inl (G.2 0, 8, .inl c32)), ((r 33), .inl (G.2 0, 8, .inl c33)), ((r 35), .inl (G.2 2, 260, .inl c35)), ((r 36), .inl (G.2 0, 260, .inl c36)), ((r 37), .inl (G.2 0, 260, .inl c37)), ((r 38), .inl (G.2 0, 260, .inl c38)), ((r 39), .inl (G.2 0, 260, .inl c39)), ((r 41), .inl (G.2 0, 840, .inl c41)), ((r 42), .inl (G.2 0, 840, .inl c42)), ((r 45), .inl (G.2 0, 9, .inl d45_5)), ((r 46), .inl (G.2 0, 400, .inl d46_6)), ((r 49), .inl (G.2 0, 71, .inl d49_3)), ((r 52), .inl (G.2 0, 6, .inl d52_7))] H locs → lv_has ls 4 [(3, .int (nI vi51)), (2, .int vy68), (0, .ref (r 0)), (1, .int ar1)] → W p l e (zz_rm 5 0 0) s m args below meth c H locs (0) (0) Q (F0 m 273 ls []) := by
        intro vn52
        induction vn52 with
        | zero => intro vi51 vy68 H locs ls hi1 hi2; exact absurd hi2 (by omega)
        | succ vn52 ih273 =>
          intro vi51 vy68 H locs ls hi273a hi273b hv273_77 hw hl
          refine lv_iload_n hx hb dX10_count_273 rfl (lv_at hl 0 rfl) ?_
          refine lv_aload_n hx hb dX10_count_274 rfl (lv_at hl 2 rfl) ?_
          refine zz_get (v := .ref (r 22)) S hw fgX10_43 3 rfl rfl dX10_count_275 ?_
          refine lv_aload_n hx hb dX10_count_278 rfl (lv_at hl 2 rfl) ?_
          refine zz_get (v := .int (nI lv)) S hw fgX10_236 3 rfl rfl dX10_count_279 ?_
          refine zz_iald (v := (nI pp)) S hw 4 rfl (vp_in_nI (n := lv) (by omega) (by decide)) (by rw [show ((nI lv) : Int32).toNatClampNeg = lv from nI_clamp (n := lv) (by omega)]; exact hpe) dX10_count_282 ?_
          refine W.eq (g2 := F0 m 283 ls [.int (nI pp), .int (nI vi51)]) rfl ?_
          refine lv_icmp_ge (tgt := 314) hx hb dX10_count_283 (by decide) (fun c283_79 => ?_) (fun c283_79 => ?_)
          · skip
            have c283_79n : pp ≤ vi51 := (zz_le (a := pp) (b := vi51) rfl rfl (by omega) (by omega)).mp c283_79
            refine lv_iload_n hx hb dX10_count_314 rfl (lv_at hl 1 rfl) ?_
            exact hret _ _ _ _ _ _ ⟨vy68, k47_4, k50_1, k51_2, d45_5, d46_6, d49_3, d52_7, rfl, rfl, (by first | exact ⟨_, _, hq1_0, hq5_0, Or.inl ⟨Int32.toInt_inj.mp (Eq.trans (by assumption) (by decide)), rfl⟩⟩ | exact ⟨_, _, hq1_0, hq5_0, Or.inr (Or.inl ⟨Int32.toInt_inj.mp (Eq.trans (by assumption) (by decide)), rfl⟩)⟩ | exact ⟨_, _, hq1_0, hq5_0, Or.inr (Or.inr (Or.inl ⟨Int32.toInt_inj.mp (Eq.trans (by assumption) (by decide)), rfl⟩))⟩ | exact ⟨_, _, hq1_0, hq5_0, Or.inr (Or.inr (Or.inr (Or.inl ⟨Int32.toInt_inj.mp (Eq.trans (by assumption) (by decide)), (zC_3b (hq121_0.trans (by rw [hq118_0])) ez27)⟩)))⟩ | exact ⟨_, _, hq1_0, hq5_0, Or.inr (Or.inr (Or.inr (Or.inl ⟨Int32.toInt_inj.mp (Eq.trans (by assumption) (by decide)), (zC_3b (hq121_0.trans (by rw [hq118_0])) ez42)⟩)))⟩ | exact ⟨_, _, hq1_0, hq5_0, Or.inr (Or.inr (Or.inr (Or.inl ⟨Int32.toInt_inj.mp (Eq.trans (by assumption) (by decide)), (zC_3b (hq121_0.trans (by rw [hq118_0])) ez43)⟩)))⟩ | exact ⟨_, _, hq1_0, hq5_0, Or.inr (Or.inr (Or.inr (Or.inr (Or.inl ⟨Int32.toInt_inj.mp (Eq.trans (by assumption) (by decide)), hq127_0⟩))))⟩ | exact ⟨_, _, hq1_0, hq5_0, Or.inr (Or.inr (Or.inr (Or.inr (Or.inr (Or.inl ⟨Int32.toInt_inj.mp (Eq.trans (by assumption) (by decide)), (zS_e hdry (by omega))⟩)))))⟩ | exact ⟨_, _, hq1_0, hq5_0, Or.inr (Or.inr (Or.inr (Or.inr (Or.inr (Or.inr (Or.inl ⟨Int32.toInt_inj.mp (Eq.trans (by assumption) (by decide)), (zV_e hdry (by omega))⟩))))))⟩ | exact ⟨_, _, hq1_0, hq5_0, Or.inr (Or.inr (Or.inr (Or.inr (Or.inr (Or.inr (Or.inr (Or.inl ⟨Int32.toInt_inj.mp (Eq.trans (by assumption) (by decide)), rfl⟩)))))))⟩ | exact ⟨_, _, hq1_0, hq5_0, Or.inr (Or.inr (Or.inr (Or.inr (Or.inr (Or.inr (Or.inr (Or.inr (Or.inl ⟨Int32.toInt_inj.mp (Eq.trans (by assumption) (by decide)), rfl⟩))))))))⟩ | exact ⟨_, _, hq1_0, hq5_0, Or.inr (Or.inr (Or.inr (Or.inr (Or.inr (Or.inr (Or.inr (Or.inr (Or.inr (Or.inl ⟨Int32.toInt_inj.mp (Eq.trans (by assumption) (by decide)), rfl⟩)))))))))⟩ | exact ⟨_, _, hq1_0, hq5_0, Or.inr (Or.inr (Or.inr (Or.inr (Or.inr (Or.inr (Or.inr (Or.inr (Or.inr (Or.inr (Or.inl ⟨Int32.toInt_inj.mp (Eq.trans (by assumption) (by decide)), rfl⟩))))))))))⟩ | exact ⟨_, _, hq1_0, hq5_0, Or.inr (Or.inr (Or.inr (Or.inr (Or.inr (Or.inr (Or.inr (Or.inr (Or.inr (Or.inr (Or.inr (Or.inl ⟨Int32.toInt_inj.mp (Eq.trans (by assumption) (by decide)), (zC_3 (by first | exact (zC_1 (by assumption)).symm | exact (zC_0 (fun z => z (by assumption))).symm) (by first | exact (zC_1 (by assumption)).symm | exact (zC_0 (fun z => z (by assumption))).symm) (by first | exact (zC_1 (by assumption)).symm | exact (zC_0 (fun z => z (by assumption))).symm) (by decide))⟩)))))))))))⟩ | exact ⟨_, _, hq1_0, hq5_0, Or.inr (Or.inr (Or.inr (Or.inr (Or.inr (Or.inr (Or.inr (Or.inr (Or.inr (Or.inr (Or.inr (Or.inr (Or.inl ⟨Int32.toInt_inj.mp (Eq.trans (by assumption) (by decide)), (zO_e hv273_77 (by omega))⟩))))))))))))⟩ | exact ⟨_, _, hq1_0, hq5_0, Or.inr (Or.inr (Or.inr (Or.inr (Or.inr (Or.inr (Or.inr (Or.inr (Or.inr (Or.inr (Or.inr (Or.inr (Or.inr (Or.inl ⟨Int32.toInt_inj.mp (Eq.trans (by assumption) (by decide)), hq317_0⟩)))))))))))))⟩ | exact ⟨_, _, hq1_0, hq5_0, Or.inr (Or.inr (Or.inr (Or.inr (Or.inr (Or.inr (Or.inr (Or.inr (Or.inr (Or.inr (Or.inr (Or.inr (Or.inr (Or.inr (⟨by assumption, rfl⟩))))))))))))))⟩), (by first | assumption | exact Or.inl rfl | exact Or.inr rfl | omega | exact Or.inr (by assumption) | exact zz_oku (by assumption) (by first | exact Or.inl rfl | exact Or.inr ⟨_, by omega, rfl⟩))⟩ (hw.sub [3, 4, 5, 6, 7, 8, 9, 10, 1, 11, 12, 13, 14, 15, 16, 17, 18, 19, 20, 21, 2, 22, 23, 0] (by decide +kernel) rfl) rfl dX10_count_315
          · skip
            have c283_79n : ¬ (pp ≤ vi51) := fun z => c283_79 ((zz_le (a := pp) (b := vi51) rfl rfl (by omega) (by omega)).mpr z)
            refine lv_aload_n hx hb dX10_count_286 rfl (lv_at hl 2 rfl) ?_
            refine lv_iload_n hx hb dX10_count_287 rfl (lv_at hl 0 rfl) ?_
            refine zz_callV (qb := 3) (As := [.int (nI vi51)]) (rest := []) (wr := [((r 65), .inl (G.2 2, 3, .inl c65)), ((r 31), .inl (G.2 0, 2, .inl c31)), ((r 48), .inl (G.2 0, 71, .inl c48)), ((r 22), .inl (G.2 0, 2, .inl c22)), ((r 24), .inl (G.2 0, 14, .inl c24)), ((r 25), .inl (G.2 0, 14, .inl c25)), ((r 26), .inl (G.2 0, 2, .inl c26)), ((r 28), .inl (G.2 0, 12, .inl c28)), ((r 29), .inl (G.2 0, 12, .inl c29)), ((r 30), .inl (G.2 0, 2, .inl c30)), ((r 32), .inl (G.2 0, 8, .inl c32)), ((r 33), .inl (G.2 0, 8, .inl c33)), ((r 35), .inl (G.2 2, 260, .inl c35)), ((r 36), .inl (G.2 0, 260, .inl c36)), ((r 37), .inl (G.2 0, 260, .inl c37)), ((r 38), .inl (G.2 0, 260, .inl c38)), ((r 39), .inl (G.2 0, 260, .inl c39)), ((r 41), .inl (G.2 0, 840, .inl c41)), ((r 42), .inl (G.2 0, 840, .inl c42)), ((r 45), .inl (G.2 0, 9, .inl d45_5)), ((r 46), .inl (G.2 0, 400, .inl d46_6)), ((r 52), .inl (G.2 0, 6, .inl d52_7))]) S hw hl.1 lX10_345 (c_x_isOff l G r j0 j2 j4 j10 j11 j12 j13 j14 j15 j16 j17 (nI lv) j19 j20 j34 j40 j44 k47_4 k50_1 k51_2 j56 j61 d49_3 vi51 (by first | assumption | omega | exact Or.inr ⟨_, by omega, rfl⟩ | (unfold zz_sok; decide) | decide | exact (fun j hj => (hv7 j hj).1))) ⟨Nat.le_of_ble_eq_true rfl, Nat.le_of_ble_eq_true rfl⟩ ⟨Nat.le_of_ble_eq_true rfl, Nat.le_of_ble_eq_true rfl⟩ [3, 22] [0, 1, 2, 4, 5, 6, 7, 8, 9, 10, 11, 12, 13, 14, 15, 16, 17, 18, 19, 20, 21, 23] (by decide +kernel) rfl rfl (by decide +kernel) (by decide +kernel) rfl rfl rfl rfl (Nat.le_of_ble_eq_true rfl) dX10_count_288 ?_
            clear hw
            intro rr u H locs hp hw
            refine hp.elim fun rv_80 zg0 => zg0.elim fun zee1 zg1 => zg1.elim fun zee2 zg2 => zg2.elim fun hq288_0 hq288_1 => ?_
            clear hp zg0 zg1 zg2
            subst zee1
            subst zee2
            replace hw : zz_w G A s [((r 65), .inl (G.2 2, 3, .inl c65)), ((r 31), .inl (G.2 0, 2, .inl c31)), ((r 48), .inl (G.2 0, 71, .inl c48)), ((r 22), .inl (G.2 0, 2, .inl c22)), ((r 24), .inl (G.2 0, 14, .inl c24)), ((r 25), .inl (G.2 0, 14, .inl c25)), ((r 26), .inl (G.2 0, 2, .inl c26)), ((r 28), .inl (G.2 0, 12, .inl c28)), ((r 29), .inl (G.2 0, 12, .inl c29)), ((r 30), .inl (G.2 0, 2, .inl c30)), ((r 32), .inl (G.2 0, 8, .inl c32)), ((r 33), .inl (G.2 0, 8, .inl c33)), ((r 35), .inl (G.2 2, 260, .inl c35)), ((r 36), .inl (G.2 0, 260, .inl c36)), ((r 37), .inl (G.2 0, 260, .inl c37)), ((r 38), .inl (G.2 0, 260, .inl c38)), ((r 39), .inl (G.2 0, 260, .inl c39)), ((r 41), .inl (G.2 0, 840, .inl c41)), ((r 42), .inl (G.2 0, 840, .inl c42)), ((r 45), .inl (G.2 0, 9, .inl d45_5)), ((r 46), .inl (G.2 0, 400, .inl d46_6)), ((r 52), .inl (G.2 0, 6, .inl d52_7)), ((r 0), .inr (10, (zz_mo r [(0, j0), (2, j2), (4, j4), (10, j10), (11, j11), (12, j12), (13, j13), (14, j14), (15, j15), (16, j16), (17, j17), (18, (nI lv)), (19, j19), (20, j20), (34, j34), (40, j40), (44, j44), (47, k47_4), (50, k50_1), (51, k51_2), (56, j56), (61, j61)]))), ((r 49), .inl (G.2 0, 71, .inl d49_3))] H _ := hw
            refine W.eq (g2 := F0 m 291 ls [.int rv_80]) rfl ?_
            refine lv_if_ne (tgt := 308) hx hb dX10_count_291 (by decide) (fun c291_81 => ?_) (fun c291_81 => ?_)
            · skip
              refine lv_iinc (v := (nI (vi51 + 1))) (lv' := [(3, .int (nI (vi51 + 1))), (2, .int vy68), (0, .ref (r 0)), (1, .int ar1)]) hx hb dX10_count_308 hl (k := 0) rfl (nI_add _ 1) (by decide) rfl (fun ls hl => ?_)
              refine lv_goto (tgt := 273) hx hb dX10_count_311 (by decide) ?_
              exact ih273 (vi51 + 1) vy68 _ _ _ (by omega) (by omega) (by first | exact zO_n hv273_77 (fun z => z.1 (hq288_0.mp (by assumption))) | exact zO_y hv273_77 ⟨fun z => hq288_0.mpr z (by assumption), zA_cfn hpq hq296_1 (by first | assumption | exact Int32.not_le.mp (by assumption))⟩ (by assumption) (by assumption) | exact zO_n hv273_77 (fun z => zA_cfy hq296_1 (by first | assumption | exact Int32.not_lt.mpr (by assumption)) z.2)) (hw.sub [0, 1, 2, 22, 3, 4, 5, 6, 7, 8, 9, 10, 11, 12, 13, 14, 15, 16, 17, 18, 19, 20, 23, 21] (by decide +kernel) rfl) (lv_sub hl [0, 1, 2, 3] rfl)
            · skip
              refine lv_aload_n hx hb dX10_count_294 rfl (lv_at hl 2 rfl) ?_
              refine lv_iload_n hx hb dX10_count_295 rfl (lv_at hl 0 rfl) ?_
              refine zz_callV (qb := 22) (As := [.int (nI vi51)]) (rest := []) (wr := [((r 65), .inl (G.2 2, 3, .inl c65)), ((r 31), .inl (G.2 0, 2, .inl c31)), ((r 48), .inl (G.2 0, 71, .inl c48)), ((r 22), .inl (G.2 0, 2, .inl c22)), ((r 24), .inl (G.2 0, 14, .inl c24)), ((r 25), .inl (G.2 0, 14, .inl c25)), ((r 28), .inl (G.2 0, 12, .inl c28)), ((r 29), .inl (G.2 0, 12, .inl c29)), ((r 30), .inl (G.2 0, 2, .inl c30)), ((r 32), .inl (G.2 0, 8, .inl c32)), ((r 33), .inl (G.2 0, 8, .inl c33)), ((r 35), .inl (G.2 2, 260, .inl c35)), ((r 36), .inl (G.2 0, 260, .inl c36)), ((r 37), .inl (G.2 0, 260, .inl c37)), ((r 38), .inl (G.2 0, 260, .inl c38)), ((r 39), .inl (G.2 0, 260, .inl c39)), ((r 41), .inl (G.2 0, 840, .inl c41)), ((r 42), .inl (G.2 0, 840, .inl c42)), ((r 45), .inl (G.2 0, 9, .inl d45_5)), ((r 46), .inl (G.2 0, 400, .inl d46_6)), ((r 49), .inl (G.2 0, 71, .inl d49_3))]) S hw hl.1 lX10_376 (c_x_castFor l G r j0 j2 j4 j10 j11 j12 j13 j14 j15 j16 j17 j19 j20 j34 j40 j44 k47_4 k50_1 k51_2 j56 j61 lv pq c26 d52_7 (nI vi51) (by first | assumption | omega | exact Or.inr ⟨_, by omega, rfl⟩ | (unfold zz_sok; decide) | decide | exact (fun j hj => (hv7 j hj).1)) (by first | assumption | omega | exact Or.inr ⟨_, by omega, rfl⟩ | (unfold zz_sok; decide) | decide | exact (fun j hj => (hv7 j hj).1)) (by first | assumption | omega | exact Or.inr ⟨_, by omega, rfl⟩ | (unfold zz_sok; decide) | decide | exact (fun j hj => (hv7 j hj).1)) (by first | assumption | omega | exact Or.inr ⟨_, by omega, rfl⟩ | (unfold zz_sok; decide) | decide | exact (fun j hj => (hv7 j hj).1))) ⟨Nat.le_of_ble_eq_true rfl, Nat.le_of_ble_eq_true rfl⟩ ⟨Nat.le_of_ble_eq_true rfl, Nat.le_of_ble_eq_true rfl⟩ [22, 6, 21] [0, 1, 2, 3, 4, 5, 7, 8, 9, 10, 11, 12, 13, 14, 15, 16, 17, 18, 19, 20, 23] (by decide +kernel) rfl rfl (by decide +kernel) (by decide +kernel) rfl rfl rfl rfl (Nat.le_of_ble_eq_true rfl) dX10_count_296 ?_
              clear hw
              intro rr u H locs hp hw
              refine hp.elim fun rv_82 zg0 => zg0.elim fun zee1 zg1 => zg1.elim fun zee2 zg2 => zg2.elim fun hq296_0 hq296_1 => ?_
              clear hp zg0 zg1 zg2
              subst zee1
              subst zee2
              replace hw : zz_w G A s [((r 65), .inl (G.2 2, 3, .inl c65)), ((r 31), .inl (G.2 0, 2, .inl c31)), ((r 48), .inl (G.2 0, 71, .inl c48)), ((r 22), .inl (G.2 0, 2, .inl c22)), ((r 24), .inl (G.2 0, 14, .inl c24)), ((r 25), .inl (G.2 0, 14, .inl c25)), ((r 28), .inl (G.2 0, 12, .inl c28)), ((r 29), .inl (G.2 0, 12, .inl c29)), ((r 30), .inl (G.2 0, 2, .inl c30)), ((r 32), .inl (G.2 0, 8, .inl c32)), ((r 33), .inl (G.2 0, 8, .inl c33)), ((r 35), .inl (G.2 2, 260, .inl c35)), ((r 36), .inl (G.2 0, 260, .inl c36)), ((r 37), .inl (G.2 0, 260, .inl c37)), ((r 38), .inl (G.2 0, 260, .inl c38)), ((r 39), .inl (G.2 0, 260, .inl c39)), ((r 41), .inl (G.2 0, 840, .inl c41)), ((r 42), .inl (G.2 0, 840, .inl c42)), ((r 45), .inl (G.2 0, 9, .inl d45_5)), ((r 46), .inl (G.2 0, 400, .inl d46_6)), ((r 49), .inl (G.2 0, 71, .inl d49_3)), ((r 0), .inr (10, (zz_mo r [(0, j0), (2, j2), (4, j4), (10, j10), (11, j11), (12, j12), (13, j13), (14, j14), (15, j15), (16, j16), (17, j17), (18, (nI lv)), (19, j19), (20, j20), (34, j34), (40, j40), (44, j44), (47, k47_4), (50, k50_1), (51, k51_2), (56, j56), (61, j61)]))), ((r 26), .inl (G.2 0, 2, .inl c26)), ((r 52), .inl (G.2 0, 6, .inl d52_7))] H _ := hw
              refine W.eq (g2 := F0 m 299 ls [.int rv_82]) rfl ?_
              refine lv_if_ge (tgt := 308) hx hb dX10_count_299 (by decide) (fun c299_83 => ?_) (fun c299_83 => ?_)
              · skip
                obtain ⟨vq84, hvq84, rfl⟩ := zz_okn hq296_0 (Int32.not_lt.mpr c299_83)
                refine lv_iinc (v := (nI (vi51 + 1))) (lv' := [(3, .int (nI (vi51 + 1))), (2, .int vy68), (0, .ref (r 0)), (1, .int ar1)]) hx hb dX10_count_308 hl (k := 0) rfl (nI_add _ 1) (by decide) rfl (fun ls hl => ?_)
                refine lv_goto (tgt := 273) hx hb dX10_count_311 (by decide) ?_
                exact ih273 (vi51 + 1) vy68 _ _ _ (by omega) (by omega) (by first | exact zO_n hv273_77 (fun z => z.1 (hq288_0.mp (by assumption))) | exact zO_y hv273_77 ⟨fun z => hq288_0.mpr z (by assumption), zA_cfn hpq hq296_1 (by first | assumption | exact Int32.not_le.mp (by assumption))⟩ (by assumption) (by assumption) | exact zO_n hv273_77 (fun z => zA_cfy hq296_1 (by first | assumption | exact Int32.not_lt.mpr (by assumption)) z.2)) (hw.sub [0, 1, 2, 21, 3, 4, 5, 22, 6, 7, 8, 9, 10, 11, 12, 13, 14, 15, 16, 17, 18, 19, 20, 23] (by decide +kernel) rfl) (lv_sub hl [0, 1, 2, 3] rfl)
              · skip
                refine lv_iload_n hx hb dX10_count_302 rfl (lv_at hl 1 rfl) ?_
                refine lv_iconst (v := 1) hx hb dX10_count_303 (by decide) ?_
                refine lv_iload_n hx hb dX10_count_304 rfl (lv_at hl 0 rfl) ?_
                refine W.eq (g2 := F0 m 305 ls [.int (nI vi51), .int 1, .int vy68]) rfl ?_
                refine lv_ishl hx hb dX10_count_305 ?_
                refine lv_topi (fun z85 ez85 => ?_)
                refine lv_ior hx hb dX10_count_306 ?_
                refine lv_topi (fun z86 ez86 => ?_)
                refine lv_istore_n (lv' := [(2, .int z86), (3, .int (nI vi51)), (0, .ref (r 0)), (1, .int ar1)]) hx hb dX10_count_307 rfl hl (by decide) rfl (fun ls hl => ?_)
                refine lv_iinc (v := (nI (vi51 + 1))) (lv' := [(3, .int (nI (vi51 + 1))), (2, .int z86), (0, .ref (r 0)), (1, .int ar1)]) hx hb dX10_count_308 hl (k := 1) rfl (nI_add _ 1) (by decide) rfl (fun ls hl => ?_)
                refine lv_goto (tgt := 273) hx hb dX10_count_311 (by decide) ?_
                exact ih273 (vi51 + 1) z86 _ _ _ (by omega) (by omega) (by first | exact zO_n hv273_77 (fun z => z.1 (hq288_0.mp (by assumption))) | exact zO_y hv273_77 ⟨fun z => hq288_0.mpr z (by assumption), zA_cfn hpq hq296_1 (by first | assumption | exact Int32.not_le.mp (by assumption))⟩ (by assumption) (by assumption) | exact zO_n hv273_77 (fun z => zA_cfy hq296_1 (by first | assumption | exact Int32.not_lt.mpr (by assumption)) z.2)) (hw.sub [0, 1, 2, 21, 3, 4, 5, 22, 6, 7, 8, 9, 10, 11, 12, 13, 14, 15, 16, 17, 18, 19, 20, 23] (by decide +kernel) rfl) (lv_sub hl [0, 1, 2, 3] rfl)
      exact lp273_78 (pp + 1 - 0) 0 0 _ _ _ (by omega) (by omega) rfl hw (lv_sub hl [0, 1, 2, 3] rfl)
    · skip
      refine lv_tableIn (off := 305) (tgt := 316) hx hb dX10_count_11 (by rw [qw8]; decide) (by rw [qw8]; decide) (by rw [qw8]; rfl) (by decide) ?_
      refine lv_aload_n hx hb dX10_count_316 rfl (lv_at hl 1 rfl) ?_
      refine zz_callV (qb := 3) (As := []) (rest := []) (wr := [((r 65), .inl (G.2 2, 3, .inl c65)), ((r 31), .inl (G.2 0, 2, .inl c31)), ((r 48), .inl (G.2 0, 71, .inl c48)), ((r 22), .inl (G.2 0, 2, .inl c22)), ((r 24), .inl (G.2 0, 14, .inl c24)), ((r 25), .inl (G.2 0, 14, .inl c25)), ((r 28), .inl (G.2 0, 12, .inl c28)), ((r 29), .inl (G.2 0, 12, .inl c29)), ((r 30), .inl (G.2 0, 2, .inl c30)), ((r 32), .inl (G.2 0, 8, .inl c32)), ((r 33), .inl (G.2 0, 8, .inl c33)), ((r 35), .inl (G.2 2, 260, .inl c35)), ((r 36), .inl (G.2 0, 260, .inl c36)), ((r 37), .inl (G.2 0, 260, .inl c37)), ((r 38), .inl (G.2 0, 260, .inl c38)), ((r 39), .inl (G.2 0, 260, .inl c39)), ((r 41), .inl (G.2 0, 840, .inl c41)), ((r 42), .inl (G.2 0, 840, .inl c42)), ((r 45), .inl (G.2 0, 9, .inl d45_5)), ((r 46), .inl (G.2 0, 400, .inl d46_6))]) S hw hl.1 lX10_458 (c_x_apartAll l G r j0 j2 j4 j10 j11 j12 j13 j14 j15 j16 j17 j19 j20 j34 j40 j44 k47_4 k50_1 k51_2 j56 j61 lv pq c26 d49_3 d52_7 (by first | assumption | omega | exact Or.inr ⟨_, by omega, rfl⟩ | (unfold zz_sok; decide) | decide | exact (fun j hj => (hv7 j hj).1)) (by first | assumption | omega | exact Or.inr ⟨_, by omega, rfl⟩ | (unfold zz_sok; decide) | decide | exact (fun j hj => (hv7 j hj).1)) (by first | assumption | omega | exact Or.inr ⟨_, by omega, rfl⟩ | (unfold zz_sok; decide) | decide | exact (fun j hj => (hv7 j hj).1)) (by first | assumption | omega | exact Or.inr ⟨_, by omega, rfl⟩ | (unfold zz_sok; decide) | decide | exact (fun j hj => (hv7 j hj).1))) ⟨Nat.le_of_ble_eq_true rfl, Nat.le_of_ble_eq_true rfl⟩ ⟨Nat.le_of_ble_eq_true rfl, Nat.le_of_ble_eq_true rfl⟩ [3, 7, 22, 23] [0, 1, 2, 4, 5, 6, 8, 9, 10, 11, 12, 13, 14, 15, 16, 17, 18, 19, 20, 21] (by decide +kernel) rfl rfl (by decide +kernel) (by decide +kernel) rfl rfl rfl rfl (Nat.le_of_ble_eq_true rfl) dX10_count_317 ?_
      clear hw
      intro rr u H locs hp hw
      refine hp.elim fun rv_87 zg0 => zg0.elim fun zee1 zg1 => zg1.elim fun zee2 hq317_0 => ?_
      clear hp zg0 zg1
      subst zee1
      subst zee2
      replace hw : zz_w G A s [((r 65), .inl (G.2 2, 3, .inl c65)), ((r 31), .inl (G.2 0, 2, .inl c31)), ((r 48), .inl (G.2 0, 71, .inl c48)), ((r 22), .inl (G.2 0, 2, .inl c22)), ((r 24), .inl (G.2 0, 14, .inl c24)), ((r 25), .inl (G.2 0, 14, .inl c25)), ((r 28), .inl (G.2 0, 12, .inl c28)), ((r 29), .inl (G.2 0, 12, .inl c29)), ((r 30), .inl (G.2 0, 2, .inl c30)), ((r 32), .inl (G.2 0, 8, .inl c32)), ((r 33), .inl (G.2 0, 8, .inl c33)), ((r 35), .inl (G.2 2, 260, .inl c35)), ((r 36), .inl (G.2 0, 260, .inl c36)), ((r 37), .inl (G.2 0, 260, .inl c37)), ((r 38), .inl (G.2 0, 260, .inl c38)), ((r 39), .inl (G.2 0, 260, .inl c39)), ((r 41), .inl (G.2 0, 840, .inl c41)), ((r 42), .inl (G.2 0, 840, .inl c42)), ((r 45), .inl (G.2 0, 9, .inl d45_5)), ((r 46), .inl (G.2 0, 400, .inl d46_6)), ((r 0), .inr (10, (zz_mo r [(0, j0), (2, j2), (4, j4), (10, j10), (11, j11), (12, j12), (13, j13), (14, j14), (15, j15), (16, j16), (17, j17), (18, (nI lv)), (19, j19), (20, j20), (34, j34), (40, j40), (44, j44), (47, k47_4), (50, k50_1), (51, k51_2), (56, j56), (61, j61)]))), ((r 26), .inl (G.2 0, 2, .inl c26)), ((r 49), .inl (G.2 0, 71, .inl d49_3)), ((r 52), .inl (G.2 0, 6, .inl d52_7))] H _ := hw
      refine W.eq (g2 := F0 m 320 ls [.int rv_87]) rfl ?_
      exact hret _ _ _ _ _ _ ⟨rv_87, k47_4, k50_1, k51_2, d45_5, d46_6, d49_3, d52_7, rfl, rfl, (by first | exact ⟨_, _, hq1_0, hq5_0, Or.inl ⟨Int32.toInt_inj.mp (Eq.trans (by assumption) (by decide)), rfl⟩⟩ | exact ⟨_, _, hq1_0, hq5_0, Or.inr (Or.inl ⟨Int32.toInt_inj.mp (Eq.trans (by assumption) (by decide)), rfl⟩)⟩ | exact ⟨_, _, hq1_0, hq5_0, Or.inr (Or.inr (Or.inl ⟨Int32.toInt_inj.mp (Eq.trans (by assumption) (by decide)), rfl⟩))⟩ | exact ⟨_, _, hq1_0, hq5_0, Or.inr (Or.inr (Or.inr (Or.inl ⟨Int32.toInt_inj.mp (Eq.trans (by assumption) (by decide)), (zC_3b (hq121_0.trans (by rw [hq118_0])) ez43)⟩)))⟩ | exact ⟨_, _, hq1_0, hq5_0, Or.inr (Or.inr (Or.inr (Or.inl ⟨Int32.toInt_inj.mp (Eq.trans (by assumption) (by decide)), (zC_3b (hq121_0.trans (by rw [hq118_0])) ez85)⟩)))⟩ | exact ⟨_, _, hq1_0, hq5_0, Or.inr (Or.inr (Or.inr (Or.inl ⟨Int32.toInt_inj.mp (Eq.trans (by assumption) (by decide)), (zC_3b (hq121_0.trans (by rw [hq118_0])) ez86)⟩)))⟩ | exact ⟨_, _, hq1_0, hq5_0, Or.inr (Or.inr (Or.inr (Or.inr (Or.inl ⟨Int32.toInt_inj.mp (Eq.trans (by assumption) (by decide)), hq127_0⟩))))⟩ | exact ⟨_, _, hq1_0, hq5_0, Or.inr (Or.inr (Or.inr (Or.inr (Or.inr (Or.inl ⟨Int32.toInt_inj.mp (Eq.trans (by assumption) (by decide)), (zS_e hdry (by omega))⟩)))))⟩ | exact ⟨_, _, hq1_0, hq5_0, Or.inr (Or.inr (Or.inr (Or.inr (Or.inr (Or.inr (Or.inl ⟨Int32.toInt_inj.mp (Eq.trans (by assumption) (by decide)), (zV_e hdry (by omega))⟩))))))⟩ | exact ⟨_, _, hq1_0, hq5_0, Or.inr (Or.inr (Or.inr (Or.inr (Or.inr (Or.inr (Or.inr (Or.inl ⟨Int32.toInt_inj.mp (Eq.trans (by assumption) (by decide)), rfl⟩)))))))⟩ | exact ⟨_, _, hq1_0, hq5_0, Or.inr (Or.inr (Or.inr (Or.inr (Or.inr (Or.inr (Or.inr (Or.inr (Or.inl ⟨Int32.toInt_inj.mp (Eq.trans (by assumption) (by decide)), rfl⟩))))))))⟩ | exact ⟨_, _, hq1_0, hq5_0, Or.inr (Or.inr (Or.inr (Or.inr (Or.inr (Or.inr (Or.inr (Or.inr (Or.inr (Or.inl ⟨Int32.toInt_inj.mp (Eq.trans (by assumption) (by decide)), rfl⟩)))))))))⟩ | exact ⟨_, _, hq1_0, hq5_0, Or.inr (Or.inr (Or.inr (Or.inr (Or.inr (Or.inr (Or.inr (Or.inr (Or.inr (Or.inr (Or.inl ⟨Int32.toInt_inj.mp (Eq.trans (by assumption) (by decide)), rfl⟩))))))))))⟩ | exact ⟨_, _, hq1_0, hq5_0, Or.inr (Or.inr (Or.inr (Or.inr (Or.inr (Or.inr (Or.inr (Or.inr (Or.inr (Or.inr (Or.inr (Or.inl ⟨Int32.toInt_inj.mp (Eq.trans (by assumption) (by decide)), (zC_3 (by first | exact (zC_1 (by assumption)).symm | exact (zC_0 (fun z => z (by assumption))).symm) (by first | exact (zC_1 (by assumption)).symm | exact (zC_0 (fun z => z (by assumption))).symm) (by first | exact (zC_1 (by assumption)).symm | exact (zC_0 (fun z => z (by assumption))).symm) (by decide))⟩)))))))))))⟩ | exact ⟨_, _, hq1_0, hq5_0, Or.inr (Or.inr (Or.inr (Or.inr (Or.inr (Or.inr (Or.inr (Or.inr (Or.inr (Or.inr (Or.inr (Or.inr (Or.inl ⟨Int32.toInt_inj.mp (Eq.trans (by assumption) (by decide)), (zO_e hdry (by omega))⟩))))))))))))⟩ | exact ⟨_, _, hq1_0, hq5_0, Or.inr (Or.inr (Or.inr (Or.inr (Or.inr (Or.inr (Or.inr (Or.inr (Or.inr (Or.inr (Or.inr (Or.inr (Or.inr (Or.inl ⟨Int32.toInt_inj.mp (Eq.trans (by assumption) (by decide)), hq317_0⟩)))))))))))))⟩ | exact ⟨_, _, hq1_0, hq5_0, Or.inr (Or.inr (Or.inr (Or.inr (Or.inr (Or.inr (Or.inr (Or.inr (Or.inr (Or.inr (Or.inr (Or.inr (Or.inr (Or.inr (⟨by assumption, rfl⟩))))))))))))))⟩), (by first | assumption | exact Or.inl rfl | exact Or.inr rfl | omega | exact Or.inr (by assumption) | exact zz_oku (by assumption) (by first | exact Or.inl rfl | exact Or.inr ⟨_, by omega, rfl⟩))⟩ (hw.sub [20, 3, 4, 5, 21, 6, 7, 8, 1, 9, 10, 11, 12, 13, 14, 15, 16, 17, 18, 19, 2, 22, 23, 0] (by decide +kernel) rfl) rfl dX10_count_320
theorem kd_ncX10_place : kd_ck 739355178026 5 cX10_place.data.toList 0 = true := by decide +kernel
theorem dX10_place_0 : decode cX10_place 0 = .ok (.aload_n 0, 1) := kd_dk0 kd_o42 kd_ncX10_place rfl
theorem dX10_place_1 : decode cX10_place 1 = .ok (.getfield 37, 3) := kd_dk2 kd_o180 kd_ncX10_place rfl
theorem dX10_place_4 : decode cX10_place 4 = .ok (.ireturn, 1) := kd_dk0 kd_o172 kd_ncX10_place rfl
set_option maxHeartbeats 8000000 in
set_option maxRecDepth 100000 in
theorem c_x_place (l : Launch) (G : zz_G) (r : Nat → Nat) (j0 : Int32) (j2 : Int32) (j4 : Int32) (j10 : Int32) (j11 : Int32) (j12 : Int32) (j13 : Int32) (j14 : Int32) (j15 : Int32) (j16 : Int32) (j17 : Int32) (j18 : Int32) (j19 : Int32) (j20 : Int32) (j34 : Int32) (j40 : Int32) (j44 : Int32) (j47 : Int32) (j50 : Int32) (j51 : Int32) (j56 : Int32) (j61 : Int32) : zz_M l G mX10_place 0 0 0 [.ref (r 0)] [((r 0), .inr (10, (zz_mo r [(0, j0), (2, j2), (4, j4), (10, j10), (11, j11), (12, j12), (13, j13), (14, j14), (15, j15), (16, j16), (17, j17), (18, j18), (19, j19), (20, j20), (34, j34), (40, j40), (44, j44), (47, j47), (50, j50), (51, j51), (56, j56), (61, j61)])))] (fun rr u => ∃ (rv : Int32), rr = some (.int rv) ∧ u = [((r 0), .inr (10, (zz_mo r [(0, j0), (2, j2), (4, j4), (10, j10), (11, j11), (12, j12), (13, j13), (14, j14), (15, j15), (16, j16), (17, j17), (18, j18), (19, j19), (20, j20), (34, j34), (40, j40), (44, j44), (47, j47), (50, j50), (51, j51), (56, j56), (61, j61)])))] ∧ (rv = j17)) := by
  refine zz_enteri (by decide +kernel) (Nat.le_of_ble_eq_true rfl) ?_
  intro p e s m args below meth c A Q ls S hnm hret hw hl
  have hl : lv_has ls 1 [(0, .ref (r 0))] := hl
  have hx := S.1
  have hb := S.2.1
  refine lv_aload_n hx hb dX10_place_0 rfl (lv_at hl 0 rfl) ?_
  refine zz_get (v := .int j17) S hw fgX10_37 0 rfl rfl dX10_place_1 ?_
  exact hret _ _ _ _ _ _ ⟨j17, rfl, rfl, rfl⟩ hw rfl dX10_place_4
