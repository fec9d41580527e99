theorem kd_ncX5_hasName : kd_ck 334168573626316721737613206373828010268189762828632701881563028655198118036438769286659 36 cX5_hasName.data.toList 0 = true := by decide +kernel
theorem dX5_hasName_0 : decode cX5_hasName 0 = .ok (.iconst 0, 1) := kd_dk0 kd_o3 kd_ncX5_hasName rfl
theorem dX5_hasName_1 : decode cX5_hasName 1 = .ok (.istore_n 3, 1) := kd_dk0 kd_o62 kd_ncX5_hasName rfl
theorem dX5_hasName_2 : decode cX5_hasName 2 = .ok (.iload_n 3, 1) := kd_dk0 kd_o29 kd_ncX5_hasName rfl
theorem dX5_hasName_3 : decode cX5_hasName 3 = .ok (.aload_n 0, 1) := kd_dk0 kd_o42 kd_ncX5_hasName rfl
theorem dX5_hasName_4 : decode cX5_hasName 4 = .ok (.getfield 43, 3) := kd_dk2 kd_o180 kd_ncX5_hasName rfl
theorem dX5_hasName_7 : decode cX5_hasName 7 = .ok (.aload_n 0, 1) := kd_dk0 kd_o42 kd_ncX5_hasName rfl
theorem dX5_hasName_8 : decode cX5_hasName 8 = .ok (.getfield 47, 3) := kd_dk2 kd_o180 kd_ncX5_hasName rfl
theorem dX5_hasName_11 : decode cX5_hasName 11 = .ok (.iadd, 1) := kd_dk0 kd_o96 kd_ncX5_hasName rfl
theorem dX5_hasName_12 : decode cX5_hasName 12 = .ok (.if_icmp .ge 22, 3) := kd_dj2 kd_o162 (w := 22) kd_ncX5_hasName rfl rfl
theorem dX5_hasName_15 : decode cX5_hasName 15 = .ok (.aload_n 0, 1) := kd_dk0 kd_o42 kd_ncX5_hasName rfl
theorem dX5_hasName_16 : decode cX5_hasName 16 = .ok (.getfield 9, 3) := kd_dk2 kd_o180 kd_ncX5_hasName rfl
theorem dX5_hasName_19 : decode cX5_hasName 19 = .ok (.iload_n 3, 1) := kd_dk0 kd_o29 kd_ncX5_hasName rfl
theorem dX5_hasName_20 : decode cX5_hasName 20 = .ok (.laload, 1) := kd_dk0 kd_o47 kd_ncX5_hasName rfl
theorem dX5_hasName_21 : decode cX5_hasName 21 = .ok (.lload_n 1, 1) := kd_dk0 kd_o31 kd_ncX5_hasName rfl
theorem dX5_hasName_22 : decode cX5_hasName 22 = .ok (.lcmp, 1) := kd_dk0 kd_o148 kd_ncX5_hasName rfl
theorem dX5_hasName_23 : decode cX5_hasName 23 = .ok (.ifCond .ne 5, 3) := kd_dj2 kd_o154 (w := 5) kd_ncX5_hasName rfl rfl
theorem dX5_hasName_26 : decode cX5_hasName 26 = .ok (.iconst 1, 1) := kd_dk0 kd_o4 kd_ncX5_hasName rfl
theorem dX5_hasName_27 : decode cX5_hasName 27 = .ok (.ireturn, 1) := kd_dk0 kd_o172 kd_ncX5_hasName rfl
theorem dX5_hasName_28 : decode cX5_hasName 28 = .ok (.iinc 3 1, 3) := kd_dji kd_o132 (w := 1) kd_ncX5_hasName rfl rfl
theorem dX5_hasName_31 : decode cX5_hasName 31 = .ok (.goto (-29), 3) := kd_dj2 kd_o167 (w := 65507) kd_ncX5_hasName rfl rfl
theorem dX5_hasName_34 : decode cX5_hasName 34 = .ok (.iconst 0, 1) := kd_dk0 kd_o3 kd_ncX5_hasName rfl
theorem dX5_hasName_35 : decode cX5_hasName 35 = .ok (.ireturn, 1) := kd_dk0 kd_o172 kd_ncX5_hasName rfl
set_option maxHeartbeats 8000000 in
set_option maxRecDepth 100000 in
theorem c_ghasName (l : Launch) (G : zz_G) (sc : Nat) (s1 : Nat) (s2 : Nat) (s3 : Nat) (s4 : Nat) (s5 : Nat) (s6 : Nat) (s7 : Nat) (s8 : Nat) (s9 : Nat) (pp : Nat) (pq : Nat) (i3 : Int32) (i4 : Int32) (nf : Nat → Int64) (nm : Int64) (hpp : pp ≤ 7) (hpq : pq ≤ 6) : zz_M l G mX5_hasName 0 0 0 [.ref sc, .long nm] [(sc, .inr (5, [.ref s1, .ref s2, .ref s3, .ref s4, .ref s5, .ref s6, .ref s7, .ref s8, .ref s9, .int (nI pp), .int (nI pq), .int i3, .int i4])), (s1, .inl (G.2 3, 13, .inr (.inl nf)))] (fun rr u => ∃ (rv : Int32), rr = some (.int rv) ∧ u = [(sc, .inr (5, [.ref s1, .ref s2, .ref s3, .ref s4, .ref s5, .ref s6, .ref s7, .ref s8, .ref s9, .int (nI pp), .int (nI pq), .int i3, .int i4])), (s1, .inl (G.2 3, 13, .inr (.inl nf)))] ∧ (rv = 0 ∨ rv = 1) ∧ ((rv = 1 ∧ zs_has nf nm (pp + pq) = true) ∨ (rv = 0 ∧ zs_has nf nm (pp + pq) = false))) := by
  refine zz_enteri (by decide +kernel) (Nat.le_of_ble_eq_true rfl) ?_
  intro p e s m args below meth c A Q ls S hnm hret hw hl
  have hl : lv_has ls 4 [(0, .ref sc), (1, .long nm)] := hl
  have hx := S.1
  have hb := S.2.1
  refine lv_iconst (v := 0) hx hb dX5_hasName_0 (by decide) ?_
  refine lv_istore_n (lv' := [(3, .int 0), (0, .ref sc), (1, .long nm)]) hx hb dX5_hasName_1 rfl hl (by decide) rfl (fun ls hl => ?_)
  have lp2_7 : ∀ (vn2 vi1 : Nat) (H : Heap) (locs : List Loc) (ls : Array Slot), vi1 ≤ (pp + pq) → (pp + pq) < vi1 + vn2 → zs_has nf nm vi1 = false → zz_w G A s [(sc, .inr (5, [.ref s1, .ref s2, .ref s3, .ref s4, .ref s5, .ref s6, .ref s7, .ref s8, .ref s9, .int (nI pp), .int (nI pq), .int i3, .int i4])), (s1, .inl (G.2 3, 13, .inr (.inl nf)))] H locs → lv_has ls 4 [(3, .int (nI vi1)), (0, .ref sc), (1, .long nm)] → W p l e (zz_rm 0 0 0) s m args below meth c H locs (0) (0) Q (F0 m 2 ls []) := by
    intro vn2
    induction vn2 with
    | zero => intro vi1  H locs ls hi1 hi2; exact absurd hi2 (by omega)
    | succ vn2 ih2 =>
      intro vi1  H locs ls hi2a hi2b hv2_6 hw hl
      refine lv_iload_n hx hb dX5_hasName_2 rfl (lv_at hl 0 rfl) ?_
      refine lv_aload_n hx hb dX5_hasName_3 rfl (lv_at hl 1 rfl) ?_
      refine zz_get (v := .int (nI pp)) S hw fgX5_43 0 rfl rfl dX5_hasName_4 ?_
      refine lv_aload_n hx hb dX5_hasName_7 rfl (lv_at hl 1 rfl) ?_
      refine zz_get (v := .int (nI pq)) S hw fgX5_47 0 rfl rfl dX5_hasName_8 ?_
      refine lv_iadd hx hb dX5_hasName_11 ?_
      refine zz_topi (y := (nI (pp + pq))) (nI_add _ _) ?_
      refine lv_icmp_ge (tgt := 34) hx hb dX5_hasName_12 (by decide) (fun c12_8 => ?_) (fun c12_8 => ?_)
      · skip
        have c12_8n : (pp + pq) ≤ vi1 := (zz_le (a := (pp + pq)) (b := vi1) rfl rfl (by omega) (by omega)).mp c12_8
        refine lv_iconst (v := 0) hx hb dX5_hasName_34 (by decide) ?_
        exact hret _ _ _ _ _ _ ⟨0, rfl, rfl, (by first | exact Or.inl rfl | exact Or.inr rfl | assumption), (by first | exact Or.inl ⟨rfl, zs_has_i hnme (by omega)⟩ | exact Or.inr ⟨rfl, zs_has_e hv2_6 (by omega)⟩)⟩ hw rfl dX5_hasName_35
      · skip
        have c12_8n : ¬ ((pp + pq) ≤ vi1) := fun z => c12_8 ((zz_le (a := (pp + pq)) (b := vi1) rfl rfl (by omega) (by omega)).mpr z)
        refine lv_aload_n hx hb dX5_hasName_15 rfl (lv_at hl 1 rfl) ?_
        refine zz_get (v := .ref s1) S hw fgX5_9 0 rfl rfl dX5_hasName_16 ?_
        refine lv_iload_n hx hb dX5_hasName_19 rfl (lv_at hl 0 rfl) ?_
        refine zz_lald (v := (nf vi1)) S hw 1 rfl (vp_in_nI (n := vi1) (by omega) (by decide)) (congrArg nf (nI_clamp (n := vi1) (by omega))) dX5_hasName_20 ?_
        refine lv_lload_n hx hb dX5_hasName_21 rfl (lv_at hl 2 rfl) ?_
        refine W.eq (g2 := F0 m 22 ls [.long nm, .long (nf vi1)]) rfl ?_
        refine W.lcmp hx hb dX5_hasName_22 ?_
        refine lv_topi (fun z9 ez9 => ?_)
        refine lv_if_ne (tgt := 28) hx hb dX5_hasName_23 (by decide) (fun c23_10 => ?_) (fun c23_10 => ?_)
        · skip
          have hnme : ¬ _ = _ := fun y => c23_10 (ez9.trans ((lg_cmp_eq _ _).mpr y))
          refine lv_iinc (v := (nI (vi1 + 1))) (lv' := [(3, .int (nI (vi1 + 1))), (0, .ref sc), (1, .long nm)]) hx hb dX5_hasName_28 hl (k := 0) rfl (nI_add _ 1) (by decide) rfl (fun ls hl => ?_)
          refine lv_goto (tgt := 2) hx hb dX5_hasName_31 (by decide) ?_
          exact ih2 (vi1 + 1) _ _ _ (by omega) (by omega) (zs_has_s hv2_6 hnme) hw (lv_sub hl [0, 1, 2] rfl)
        · skip
          have hnme := (lg_cmp_eq _ _).mp (ez9.symm.trans c23_10)
          refine lv_iconst (v := 1) hx hb dX5_hasName_26 (by decide) ?_
          exact hret _ _ _ _ _ _ ⟨1, rfl, rfl, (by first | exact Or.inl rfl | exact Or.inr rfl | assumption), (by first | exact Or.inl ⟨rfl, zs_has_i hnme (by omega)⟩ | exact Or.inr ⟨rfl, zs_has_e hv2_6 (by omega)⟩)⟩ hw rfl dX5_hasName_27
  exact lp2_7 ((pp + pq) + 1 - 0) 0 _ _ _ (by omega) (by omega) rfl hw (lv_sub hl [0, 1, 2] rfl)
theorem kd_ncX5_addPerson : kd_ck 155676458436994776840399678832609349366768086747114861373759693655235907678651036798666483970927512612352048362475851255670908912446795481971796007931691363513386 67 cX5_addPerson.data.toList 0 = true := by decide +kernel
theorem dX5_addPerson_0 : decode cX5_addPerson 0 = .ok (.aload_n 0, 1) := kd_dk0 kd_o42 kd_ncX5_addPerson rfl
theorem dX5_addPerson_1 : decode cX5_addPerson 1 = .ok (.getfield 43, 3) := kd_dk2 kd_o180 kd_ncX5_addPerson rfl
theorem dX5_addPerson_4 : decode cX5_addPerson 4 = .ok (.bipush 7, 2) := kd_dj1 kd_o16 (w := 7) kd_ncX5_addPerson rfl rfl
theorem dX5_addPerson_6 : decode cX5_addPerson 6 = .ok (.if_icmp .ge 60, 3) := kd_dj2 kd_o162 (w := 60) kd_ncX5_addPerson rfl rfl
theorem dX5_addPerson_9 : decode cX5_addPerson 9 = .ok (.aload_n 0, 1) := kd_dk0 kd_o42 kd_ncX5_addPerson rfl
theorem dX5_addPerson_10 : decode cX5_addPerson 10 = .ok (.getfield 9, 3) := kd_dk2 kd_o180 kd_ncX5_addPerson rfl
theorem dX5_addPerson_13 : decode cX5_addPerson 13 = .ok (.aload_n 0, 1) := kd_dk0 kd_o42 kd_ncX5_addPerson rfl
theorem dX5_addPerson_14 : decode cX5_addPerson 14 = .ok (.getfield 43, 3) := kd_dk2 kd_o180 kd_ncX5_addPerson rfl
theorem dX5_addPerson_17 : decode cX5_addPerson 17 = .ok (.aload_n 0, 1) := kd_dk0 kd_o42 kd_ncX5_addPerson rfl
theorem dX5_addPerson_18 : decode cX5_addPerson 18 = .ok (.getfield 47, 3) := kd_dk2 kd_o180 kd_ncX5_addPerson rfl
theorem dX5_addPerson_21 : decode cX5_addPerson 21 = .ok (.iadd, 1) := kd_dk0 kd_o96 kd_ncX5_addPerson rfl
theorem dX5_addPerson_22 : decode cX5_addPerson 22 = .ok (.lload_n 1, 1) := kd_dk0 kd_o31 kd_ncX5_addPerson rfl
theorem dX5_addPerson_23 : decode cX5_addPerson 23 = .ok (.lastore, 1) := kd_dk0 kd_o80 kd_ncX5_addPerson rfl
theorem dX5_addPerson_24 : decode cX5_addPerson 24 = .ok (.aload_n 0, 1) := kd_dk0 kd_o42 kd_ncX5_addPerson rfl
theorem dX5_addPerson_25 : decode cX5_addPerson 25 = .ok (.getfield 15, 3) := kd_dk2 kd_o180 kd_ncX5_addPerson rfl
theorem dX5_addPerson_28 : decode cX5_addPerson 28 = .ok (.aload_n 0, 1) := kd_dk0 kd_o42 kd_ncX5_addPerson rfl
theorem dX5_addPerson_29 : decode cX5_addPerson 29 = .ok (.getfield 43, 3) := kd_dk2 kd_o180 kd_ncX5_addPerson rfl
theorem dX5_addPerson_32 : decode cX5_addPerson 32 = .ok (.iload_n 3, 1) := kd_dk0 kd_o29 kd_ncX5_addPerson rfl
theorem dX5_addPerson_33 : decode cX5_addPerson 33 = .ok (.iastore, 1) := kd_dk0 kd_o79 kd_ncX5_addPerson rfl
theorem dX5_addPerson_34 : decode cX5_addPerson 34 = .ok (.aload_n 0, 1) := kd_dk0 kd_o42 kd_ncX5_addPerson rfl
theorem dX5_addPerson_35 : decode cX5_addPerson 35 = .ok (.getfield 19, 3) := kd_dk2 kd_o180 kd_ncX5_addPerson rfl
theorem dX5_addPerson_38 : decode cX5_addPerson 38 = .ok (.aload_n 0, 1) := kd_dk0 kd_o42 kd_ncX5_addPerson rfl
theorem dX5_addPerson_39 : decode cX5_addPerson 39 = .ok (.getfield 43, 3) := kd_dk2 kd_o180 kd_ncX5_addPerson rfl
theorem dX5_addPerson_42 : decode cX5_addPerson 42 = .ok (.iload 4, 2) := kd_dk1 kd_o21 kd_ncX5_addPerson rfl
theorem dX5_addPerson_44 : decode cX5_addPerson 44 = .ok (.iastore, 1) := kd_dk0 kd_o79 kd_ncX5_addPerson rfl
theorem dX5_addPerson_45 : decode cX5_addPerson 45 = .ok (.aload_n 0, 1) := kd_dk0 kd_o42 kd_ncX5_addPerson rfl
theorem dX5_addPerson_46 : decode cX5_addPerson 46 = .ok (.getfield 22, 3) := kd_dk2 kd_o180 kd_ncX5_addPerson rfl
theorem dX5_addPerson_49 : decode cX5_addPerson 49 = .ok (.aload_n 0, 1) := kd_dk0 kd_o42 kd_ncX5_addPerson rfl
theorem dX5_addPerson_50 : decode cX5_addPerson 50 = .ok (.getfield 43, 3) := kd_dk2 kd_o180 kd_ncX5_addPerson rfl
theorem dX5_addPerson_53 : decode cX5_addPerson 53 = .ok (.iload 5, 2) := kd_dk1 kd_o21 kd_ncX5_addPerson rfl
theorem dX5_addPerson_55 : decode cX5_addPerson 55 = .ok (.iastore, 1) := kd_dk0 kd_o79 kd_ncX5_addPerson rfl
theorem dX5_addPerson_56 : decode cX5_addPerson 56 = .ok (.aload_n 0, 1) := kd_dk0 kd_o42 kd_ncX5_addPerson rfl
theorem dX5_addPerson_57 : decode cX5_addPerson 57 = .ok (.dup, 1) := kd_dk0 kd_o89 kd_ncX5_addPerson rfl
theorem dX5_addPerson_58 : decode cX5_addPerson 58 = .ok (.getfield 43, 3) := kd_dk2 kd_o180 kd_ncX5_addPerson rfl
theorem dX5_addPerson_61 : decode cX5_addPerson 61 = .ok (.iconst 1, 1) := kd_dk0 kd_o4 kd_ncX5_addPerson rfl
theorem dX5_addPerson_62 : decode cX5_addPerson 62 = .ok (.iadd, 1) := kd_dk0 kd_o96 kd_ncX5_addPerson rfl
theorem dX5_addPerson_63 : decode cX5_addPerson 63 = .ok (.putfield 43, 3) := kd_dk2 kd_o181 kd_ncX5_addPerson rfl
theorem dX5_addPerson_66 : decode cX5_addPerson 66 = .ok (.return_, 1) := kd_dk0 kd_o177 kd_ncX5_addPerson rfl
set_option maxHeartbeats 8000000 in
set_option maxRecDepth 100000 in
theorem c_gaddPerson (l : Launch) (G : zz_G) (sc : Nat) (s1 : Nat) (s2 : Nat) (s3 : Nat) (s4 : Nat) (s5 : Nat) (s6 : Nat) (s7 : Nat) (s8 : Nat) (s9 : Nat) (pp : Nat) (pq : Nat) (i3 : Int32) (i4 : Int32) (nf : Nat → Int64) (m2 : Nat → Int32) (m3 : Nat → Int32) (m4 : Nat → Int32) (m5 : Nat → Int32) (m6 : Nat → Int32) (m7 : Nat → Int32) (nm : Int64) (a : Int32) (b : Int32) (d : Int32) (hpp : pp ≤ 7) (hpq : pq ≤ 6) : zz_M l G mX5_addPerson 0 0 0 [.ref sc, .long nm, .int a, .int b, .int d] [(sc, .inr (5, [.ref s1, .ref s2, .ref s3, .ref s4, .ref s5, .ref s6, .ref s7, .ref s8, .ref s9, .int (nI pp), .int (nI pq), .int i3, .int i4])), (s1, .inl (G.2 3, 13, .inr (.inl nf))), (s2, .inl (G.2 0, 7, .inl m2)), (s3, .inl (G.2 0, 7, .inl m3)), (s4, .inl (G.2 0, 7, .inl m4)), (s5, .inl (G.2 0, 6, .inl m5)), (s6, .inl (G.2 0, 6, .inl m6)), (s7, .inl (G.2 0, 6, .inl m7))] (fun rr u => ∃ (pp2 : Nat), ∃ (pq2 : Nat), ∃ (nf2 : Nat → Int64), ∃ (mm2 : Nat → Int32), ∃ (mm3 : Nat → Int32), ∃ (mm4 : Nat → Int32), ∃ (mm5 : Nat → Int32), ∃ (mm6 : Nat → Int32), ∃ (mm7 : Nat → Int32), rr = none ∧ u = [(sc, .inr (5, [.ref s1, .ref s2, .ref s3, .ref s4, .ref s5, .ref s6, .ref s7, .ref s8, .ref s9, .int (nI pp2), .int (nI pq2), .int i3, .int i4])), (s1, .inl (G.2 3, 13, .inr (.inl nf2))), (s2, .inl (G.2 0, 7, .inl mm2)), (s3, .inl (G.2 0, 7, .inl mm3)), (s4, .inl (G.2 0, 7, .inl mm4)), (s5, .inl (G.2 0, 6, .inl mm5)), (s6, .inl (G.2 0, 6, .inl mm6)), (s7, .inl (G.2 0, 6, .inl mm7))] ∧ (pp2 ≤ 7) ∧ (pq2 ≤ 6) ∧ (pp < 7 → (pp2 = pp + 1 ∧ pq2 = pq ∧ nf2 = vp_updL nf (pp + pq) nm)) ∧ (pp < 7 → (mm2 = upd m2 pp a ∧ mm3 = upd m3 pp b ∧ mm4 = upd m4 pp d ∧ mm5 = m5 ∧ mm6 = m6 ∧ mm7 = m7))) := by
  refine zz_enterv (by decide +kernel) (Nat.le_of_ble_eq_true rfl) ?_
  intro p e s m args below meth c A Q ls S hnm hret hw hl
  have hl : lv_has ls 6 [(0, .ref sc), (1, .long nm), (3, .int a), (4, .int b), (5, .int d)] := hl
  have hx := S.1
  have hb := S.2.1
  refine lv_aload_n hx hb dX5_addPerson_0 rfl (lv_at hl 0 rfl) ?_
  refine zz_get (v := .int (nI pp)) S hw fgX5_43 0 rfl rfl dX5_addPerson_1 ?_
  refine lv_bipush (v := 7) hx hb dX5_addPerson_4 (by decide) ?_
  refine lv_icmp_ge (tgt := 66) hx hb dX5_addPerson_6 (by decide) (fun c6_1 => ?_) (fun c6_1 => ?_)
  · skip
    have c6_1n : 7 ≤ pp := (zz_le (a := 7) (b := pp) rfl rfl (by omega) (by omega)).mp c6_1
    exact hret _ _ _ _ _ ⟨pp, pq, nf, m2, m3, m4, m5, m6, m7, rfl, rfl, (by first | assumption | omega), (by first | assumption | omega), (by first | exact fun _ => ⟨rfl, rfl, rfl⟩ | exact fun z => absurd z (by omega)), (by first | exact fun _ => ⟨rfl, rfl, rfl, rfl, rfl, rfl⟩ | exact fun z => absurd z (by omega))⟩ hw dX5_addPerson_66
  · skip
    have c6_1n : ¬ (7 ≤ pp) := fun z => c6_1 ((zz_le (a := 7) (b := pp) rfl rfl (by omega) (by omega)).mpr z)
    refine lv_aload_n hx hb dX5_addPerson_9 rfl (lv_at hl 0 rfl) ?_
    refine zz_get (v := .ref s1) S hw fgX5_9 0 rfl rfl dX5_addPerson_10 ?_
    refine lv_aload_n hx hb dX5_addPerson_13 rfl (lv_at hl 0 rfl) ?_
    refine zz_get (v := .int (nI pp)) S hw fgX5_43 0 rfl rfl dX5_addPerson_14 ?_
    refine lv_aload_n hx hb dX5_addPerson_17 rfl (lv_at hl 0 rfl) ?_
    refine zz_get (v := .int (nI pq)) S hw fgX5_47 0 rfl rfl dX5_addPerson_18 ?_
    refine lv_iadd hx hb dX5_addPerson_21 ?_
    refine zz_topi (y := (nI (pp + pq))) (nI_add _ _) ?_
    refine lv_lload_n hx hb dX5_addPerson_22 rfl (lv_at hl 1 rfl) ?_
    refine zz_last (ws' := [(sc, .inr (5, [.ref s1, .ref s2, .ref s3, .ref s4, .ref s5, .ref s6, .ref s7, .ref s8, .ref s9, .int (nI pp), .int (nI pq), .int i3, .int i4])), (s1, .inl (G.2 3, 13, .inr (.inl (vp_updL nf (pp + pq) nm)))), (s2, .inl (G.2 0, 7, .inl m2)), (s3, .inl (G.2 0, 7, .inl m3)), (s4, .inl (G.2 0, 7, .inl m4)), (s5, .inl (G.2 0, 6, .inl m5)), (s6, .inl (G.2 0, 6, .inl m6)), (s7, .inl (G.2 0, 6, .inl m7))]) (g := (vp_updL nf (pp + pq) nm)) S hw 1 rfl (vp_in_nI (n := (pp + pq)) (by omega) (by decide)) (by rw [show ((nI (pp + pq)) : Int32).toNatClampNeg = (pp + pq) from nI_clamp (n := (pp + pq)) (by omega)]) rfl dX5_addPerson_23 ?_
    clear hw
    intro H locs hw
    refine lv_aload_n hx hb dX5_addPerson_24 rfl (lv_at hl 0 rfl) ?_
    refine zz_get (v := .ref s2) S hw fgX5_15 0 rfl rfl dX5_addPerson_25 ?_
    refine W.eq (g2 := F0 m 28 ls [.ref s2]) rfl ?_
    refine lv_aload_n hx hb dX5_addPerson_28 rfl (lv_at hl 0 rfl) ?_
    refine zz_get (v := .int (nI pp)) S hw fgX5_43 0 rfl rfl dX5_addPerson_29 ?_
    refine lv_iload_n hx hb dX5_addPerson_32 rfl (lv_at hl 2 rfl) ?_
    refine zz_iast (ws' := [(sc, .inr (5, [.ref s1, .ref s2, .ref s3, .ref s4, .ref s5, .ref s6, .ref s7, .ref s8, .ref s9, .int (nI pp), .int (nI pq), .int i3, .int i4])), (s1, .inl (G.2 3, 13, .inr (.inl (vp_updL nf (pp + pq) nm)))), (s2, .inl (G.2 0, 7, .inl (upd m2 pp a))), (s3, .inl (G.2 0, 7, .inl m3)), (s4, .inl (G.2 0, 7, .inl m4)), (s5, .inl (G.2 0, 6, .inl m5)), (s6, .inl (G.2 0, 6, .inl m6)), (s7, .inl (G.2 0, 6, .inl m7))]) (g := (upd m2 pp a)) S hw 2 rfl (vp_in_nI (n := pp) (by omega) (by decide)) (zz_upn (n := pp) (by omega)) rfl dX5_addPerson_33 ?_
    clear hw
    intro H locs hw
    refine lv_aload_n hx hb dX5_addPerson_34 rfl (lv_at hl 0 rfl) ?_
    refine zz_get (v := .ref s3) S hw fgX5_19 0 rfl rfl dX5_addPerson_35 ?_
    refine lv_aload_n hx hb dX5_addPerson_38 rfl (lv_at hl 0 rfl) ?_
    refine zz_get (v := .int (nI pp)) S hw fgX5_43 0 rfl rfl dX5_addPerson_39 ?_
    refine lv_iload hx hb dX5_addPerson_42 (lv_at hl 3 rfl) ?_
    refine zz_iast (ws' := [(sc, .inr (5, [.ref s1, .ref s2, .ref s3, .ref s4, .ref s5, .ref s6, .ref s7, .ref s8, .ref s9, .int (nI pp), .int (nI pq), .int i3, .int i4])), (s1, .inl (G.2 3, 13, .inr (.inl (vp_updL nf (pp + pq) nm)))), (s2, .inl (G.2 0, 7, .inl (upd m2 pp a))), (s3, .inl (G.2 0, 7, .inl (upd m3 pp b))), (s4, .inl (G.2 0, 7, .inl m4)), (s5, .inl (G.2 0, 6, .inl m5)), (s6, .inl (G.2 0, 6, .inl m6)), (s7, .inl (G.2 0, 6, .inl m7))]) (g := (upd m3 pp b)) S hw 3 rfl (vp_in_nI (n := pp) (by omega) (by decide)) (zz_upn (n := pp) (by omega)) rfl dX5_addPerson_44 ?_
    clear hw
    intro H locs hw
    refine lv_aload_n hx hb dX5_addPerson_45 rfl (lv_at hl 0 rfl) ?_
    refine zz_get (v := .ref s4) S hw fgX5_22 0 rfl rfl dX5_addPerson_46 ?_
    refine lv_aload_n hx hb dX5_addPerson_49 rfl (lv_at hl 0 rfl) ?_
    refine zz_get (v := .int (nI pp)) S hw fgX5_43 0 rfl rfl dX5_addPerson_50 ?_
    refine W.eq (g2 := F0 m 53 ls [.int (nI pp), .ref s4]) rfl ?_
    refine lv_iload hx hb dX5_addPerson_53 (lv_at hl 4 rfl) ?_
    refine zz_iast (ws' := [(sc, .inr (5, [.ref s1, .ref s2, .ref s3, .ref s4, .ref s5, .ref s6, .ref s7, .ref s8, .ref s9, .int (nI pp), .int (nI pq), .int i3, .int i4])), (s1, .inl (G.2 3, 13, .inr (.inl (vp_updL nf (pp + pq) nm)))), (s2, .inl (G.2 0, 7, .inl (upd m2 pp a))), (s3, .inl (G.2 0, 7, .inl (upd m3 pp b))), (s4, .inl (G.2 0, 7, .inl (upd m4 pp d))), (s5, .inl (G.2 0, 6, .inl m5)), (s6, .inl (G.2 0, 6, .inl m6)), (s7, .inl (G.2 0, 6, .inl m7))]) (g := (upd m4 pp d)) S hw 4 rfl (vp_in_nI (n := pp) (by omega) (by decide)) (zz_upn (n := pp) (by omega)) rfl dX5_addPerson_55 ?_
    clear hw
    intro H locs hw
    refine lv_aload_n hx hb dX5_addPerson_56 rfl (lv_at hl 0 rfl) ?_
    refine lv_dup hx hb dX5_addPerson_57 rfl ?_
    refine zz_get (v := .int (nI pp)) S hw fgX5_43 0 rfl rfl dX5_addPerson_58 ?_
    refine lv_iconst (v := 1) hx hb dX5_addPerson_61 (by decide) ?_
    refine lv_iadd hx hb dX5_addPerson_62 ?_
    refine zz_topi (y := (nI (pp + 1))) (nI_add _ _) ?_
    refine zz_put (ws' := [(sc, .inr (5, [.ref s1, .ref s2, .ref s3, .ref s4, .ref s5, .ref s6, .ref s7, .ref s8, .ref s9, .int (nI (pp + 1)), .int (nI pq), .int i3, .int i4])), (s1, .inl (G.2 3, 13, .inr (.inl (vp_updL nf (pp + pq) nm)))), (s2, .inl (G.2 0, 7, .inl (upd m2 pp a))), (s3, .inl (G.2 0, 7, .inl (upd m3 pp b))), (s4, .inl (G.2 0, 7, .inl (upd m4 pp d))), (s5, .inl (G.2 0, 6, .inl m5)), (s6, .inl (G.2 0, 6, .inl m6)), (s7, .inl (G.2 0, 6, .inl m7))]) (v := .int (nI (pp + 1))) S hw fpX5_43 0 rfl rfl rfl (Nat.le_of_ble_eq_true rfl) rfl dX5_addPerson_63 ?_
    clear hw
    intro H locs hw
    exact hret _ _ _ _ _ ⟨(pp + 1), pq, (vp_updL nf (pp + pq) nm), (upd m2 pp a), (upd m3 pp b), (upd m4 pp d), m5, m6, m7, rfl, rfl, (by first | assumption | omega), (by first | assumption | omega), (by first | exact fun _ => ⟨rfl, rfl, rfl⟩ | exact fun z => absurd z (by omega)), (by first | exact fun _ => ⟨rfl, rfl, rfl, rfl, rfl, rfl⟩ | exact fun z => absurd z (by omega))⟩ hw dX5_addPerson_66
theorem kd_ncX5_addPart : kd_ck 155690188032315050546823843898176438356512857186212992073282643765358513816069251274051766245958153647127411426431980716860146075661726020931492110276627194229802 67 cX5_addPart.data.toList 0 = true := by decide +kernel
theorem dX5_addPart_0 : decode cX5_addPart 0 = .ok (.aload_n 0, 1) := kd_dk0 kd_o42 kd_ncX5_addPart rfl
theorem dX5_addPart_1 : decode cX5_addPart 1 = .ok (.getfield 47, 3) := kd_dk2 kd_o180 kd_ncX5_addPart rfl
theorem dX5_addPart_4 : decode cX5_addPart 4 = .ok (.bipush 6, 2) := kd_dj1 kd_o16 (w := 6) kd_ncX5_addPart rfl rfl
theorem dX5_addPart_6 : decode cX5_addPart 6 = .ok (.if_icmp .ge 60, 3) := kd_dj2 kd_o162 (w := 60) kd_ncX5_addPart rfl rfl
theorem dX5_addPart_9 : decode cX5_addPart 9 = .ok (.aload_n 0, 1) := kd_dk0 kd_o42 kd_ncX5_addPart rfl
theorem dX5_addPart_10 : decode cX5_addPart 10 = .ok (.getfield 9, 3) := kd_dk2 kd_o180 kd_ncX5_addPart rfl
theorem dX5_addPart_13 : decode cX5_addPart 13 = .ok (.aload_n 0, 1) := kd_dk0 kd_o42 kd_ncX5_addPart rfl
theorem dX5_addPart_14 : decode cX5_addPart 14 = .ok (.getfield 43, 3) := kd_dk2 kd_o180 kd_ncX5_addPart rfl
theorem dX5_addPart_17 : decode cX5_addPart 17 = .ok (.aload_n 0, 1) := kd_dk0 kd_o42 kd_ncX5_addPart rfl
theorem dX5_addPart_18 : decode cX5_addPart 18 = .ok (.getfield 47, 3) := kd_dk2 kd_o180 kd_ncX5_addPart rfl
theorem dX5_addPart_21 : decode cX5_addPart 21 = .ok (.iadd, 1) := kd_dk0 kd_o96 kd_ncX5_addPart rfl
theorem dX5_addPart_22 : decode cX5_addPart 22 = .ok (.lload_n 1, 1) := kd_dk0 kd_o31 kd_ncX5_addPart rfl
theorem dX5_addPart_23 : decode cX5_addPart 23 = .ok (.lastore, 1) := kd_dk0 kd_o80 kd_ncX5_addPart rfl
theorem dX5_addPart_24 : decode cX5_addPart 24 = .ok (.aload_n 0, 1) := kd_dk0 kd_o42 kd_ncX5_addPart rfl
theorem dX5_addPart_25 : decode cX5_addPart 25 = .ok (.getfield 25, 3) := kd_dk2 kd_o180 kd_ncX5_addPart rfl
theorem dX5_addPart_28 : decode cX5_addPart 28 = .ok (.aload_n 0, 1) := kd_dk0 kd_o42 kd_ncX5_addPart rfl
theorem dX5_addPart_29 : decode cX5_addPart 29 = .ok (.getfield 47, 3) := kd_dk2 kd_o180 kd_ncX5_addPart rfl
theorem dX5_addPart_32 : decode cX5_addPart 32 = .ok (.iload_n 3, 1) := kd_dk0 kd_o29 kd_ncX5_addPart rfl
theorem dX5_addPart_33 : decode cX5_addPart 33 = .ok (.iastore, 1) := kd_dk0 kd_o79 kd_ncX5_addPart rfl
theorem dX5_addPart_34 : decode cX5_addPart 34 = .ok (.aload_n 0, 1) := kd_dk0 kd_o42 kd_ncX5_addPart rfl
theorem dX5_addPart_35 : decode cX5_addPart 35 = .ok (.getfield 28, 3) := kd_dk2 kd_o180 kd_ncX5_addPart rfl
theorem dX5_addPart_38 : decode cX5_addPart 38 = .ok (.aload_n 0, 1) := kd_dk0 kd_o42 kd_ncX5_addPart rfl
theorem dX5_addPart_39 : decode cX5_addPart 39 = .ok (.getfield 47, 3) := kd_dk2 kd_o180 kd_ncX5_addPart rfl
theorem dX5_addPart_42 : decode cX5_addPart 42 = .ok (.iload 4, 2) := kd_dk1 kd_o21 kd_ncX5_addPart rfl
theorem dX5_addPart_44 : decode cX5_addPart 44 = .ok (.iastore, 1) := kd_dk0 kd_o79 kd_ncX5_addPart rfl
theorem dX5_addPart_45 : decode cX5_addPart 45 = .ok (.aload_n 0, 1) := kd_dk0 kd_o42 kd_ncX5_addPart rfl
theorem dX5_addPart_46 : decode cX5_addPart 46 = .ok (.getfield 31, 3) := kd_dk2 kd_o180 kd_ncX5_addPart rfl
theorem dX5_addPart_49 : decode cX5_addPart 49 = .ok (.aload_n 0, 1) := kd_dk0 kd_o42 kd_ncX5_addPart rfl
theorem dX5_addPart_50 : decode cX5_addPart 50 = .ok (.getfield 47, 3) := kd_dk2 kd_o180 kd_ncX5_addPart rfl
theorem dX5_addPart_53 : decode cX5_addPart 53 = .ok (.iload 5, 2) := kd_dk1 kd_o21 kd_ncX5_addPart rfl
theorem dX5_addPart_55 : decode cX5_addPart 55 = .ok (.iastore, 1) := kd_dk0 kd_o79 kd_ncX5_addPart rfl
theorem dX5_addPart_56 : decode cX5_addPart 56 = .ok (.aload_n 0, 1) := kd_dk0 kd_o42 kd_ncX5_addPart rfl
theorem dX5_addPart_57 : decode cX5_addPart 57 = .ok (.dup, 1) := kd_dk0 kd_o89 kd_ncX5_addPart rfl
theorem dX5_addPart_58 : decode cX5_addPart 58 = .ok (.getfield 47, 3) := kd_dk2 kd_o180 kd_ncX5_addPart rfl
theorem dX5_addPart_61 : decode cX5_addPart 61 = .ok (.iconst 1, 1) := kd_dk0 kd_o4 kd_ncX5_addPart rfl
theorem dX5_addPart_62 : decode cX5_addPart 62 = .ok (.iadd, 1) := kd_dk0 kd_o96 kd_ncX5_addPart rfl
theorem dX5_addPart_63 : decode cX5_addPart 63 = .ok (.putfield 47, 3) := kd_dk2 kd_o181 kd_ncX5_addPart rfl
theorem dX5_addPart_66 : decode cX5_addPart 66 = .ok (.return_, 1) := kd_dk0 kd_o177 kd_ncX5_addPart rfl
set_option maxHeartbeats 8000000 in
set_option maxRecDepth 100000 in
theorem c_gaddPart (l : Launch) (G : zz_G) (sc : Nat) (s1 : Nat) (s2 : Nat) (s3 : Nat) (s4 : Nat) (s5 : Nat) (s6 : Nat) (s7 : Nat) (s8 : Nat) (s9 : Nat) (pp : Nat) (pq : Nat) (i3 : Int32) (i4 : Int32) (nf : Nat → Int64) (m2 : Nat → Int32) (m3 : Nat → Int32) (m4 : Nat → Int32) (m5 : Nat → Int32) (m6 : Nat → Int32) (m7 : Nat → Int32) (nm : Int64) (a : Int32) (b : Int32) (d : Int32) (hpp : pp ≤ 7) (hpq : pq ≤ 6) : zz_M l G mX5_addPart 0 0 0 [.ref sc, .long nm, .int a, .int b, .int d] [(sc, .inr (5, [.ref s1, .ref s2, .ref s3, .ref s4, .ref s5, .ref s6, .ref s7, .ref s8, .ref s9, .int (nI pp), .int (nI pq), .int i3, .int i4])), (s1, .inl (G.2 3, 13, .inr (.inl nf))), (s2, .inl (G.2 0, 7, .inl m2)), (s3, .inl (G.2 0, 7, .inl m3)), (s4, .inl (G.2 0, 7, .inl m4)), (s5, .inl (G.2 0, 6, .inl m5)), (s6, .inl (G.2 0, 6, .inl m6)), (s7, .inl (G.2 0, 6, .inl m7))] (fun rr u => ∃ (pp2 : Nat), ∃ (pq2 : Nat), ∃ (nf2 : Nat → Int64), ∃ (mm2 : Nat → Int32), ∃ (mm3 : Nat → Int32), ∃ (mm4 : Nat → Int32), ∃ (mm5 : Nat → Int32), ∃ (mm6 : Nat → Int32), ∃ (mm7 : Nat → Int32), rr = none ∧ u = [(sc, .inr (5, [.ref s1, .ref s2, .ref s3, .ref s4, .ref s5, .ref s6, .ref s7, .ref s8, .ref s9, .int (nI pp2), .int (nI pq2), .int i3, .int i4])), (s1, .inl (G.2 3, 13, .inr (.inl nf2))), (s2, .inl (G.2 0, 7, .inl mm2)), (s3, .inl (G.2 0, 7, .inl mm3)), (s4, .inl (G.2 0, 7, .inl mm4)), (s5, .inl (G.2 0, 6, .inl mm5)), (s6, .inl (G.2 0, 6, .inl mm6)), (s7, .inl (G.2 0, 6, .inl mm7))] ∧ (pp2 ≤ 7) ∧ (pq2 ≤ 6) ∧ (pq < 6 → (pp2 = pp ∧ pq2 = pq + 1 ∧ nf2 = vp_updL nf (pp + pq) nm)) ∧ (pq < 6 → (mm5 = upd m5 pq a ∧ mm6 = upd m6 pq b ∧ mm7 = upd m7 pq d ∧ mm2 = m2 ∧ mm3 = m3 ∧ mm4 = m4))) := by
  refine zz_enterv (by decide +kernel) (Nat.le_of_ble_eq_true rfl) ?_
  intro p e s m args below meth c A Q ls S hnm hret hw hl
  have hl : lv_has ls 6 [(0, .ref sc), (1, .long nm), (3, .int a), (4, .int b), (5, .int d)] := hl
  have hx := S.1
  have hb := S.2.1
  refine lv_aload_n hx hb dX5_addPart_0 rfl (lv_at hl 0 rfl) ?_
  refine zz_get (v := .int (nI pq)) S hw fgX5_47 0 rfl rfl dX5_addPart_1 ?_
  refine lv_bipush (v := 6) hx hb dX5_addPart_4 (by decide) ?_
  refine lv_icmp_ge (tgt := 66) hx hb dX5_addPart_6 (by decide) (fun c6_1 => ?_) (fun c6_1 => ?_)
  · skip
    have c6_1n : 6 ≤ pq := (zz_le (a := 6) (b := pq) rfl rfl (by omega) (by omega)).mp c6_1
    exact hret _ _ _ _ _ ⟨pp, pq, nf, m2, m3, m4, m5, m6, m7, rfl, rfl, (by first | assumption | omega), (by first | assumption | omega), (by first | exact fun _ => ⟨rfl, rfl, rfl⟩ | exact fun z => absurd z (by omega)), (by first | exact fun _ => ⟨rfl, rfl, rfl, rfl, rfl, rfl⟩ | exact fun z => absurd z (by omega))⟩ hw dX5_addPart_66
  · skip
    have c6_1n : ¬ (6 ≤ pq) := fun z => c6_1 ((zz_le (a := 6) (b := pq) rfl rfl (by omega) (by omega)).mpr z)
    refine lv_aload_n hx hb dX5_addPart_9 rfl (lv_at hl 0 rfl) ?_
    refine zz_get (v := .ref s1) S hw fgX5_9 0 rfl rfl dX5_addPart_10 ?_
    refine lv_aload_n hx hb dX5_addPart_13 rfl (lv_at hl 0 rfl) ?_
    refine zz_get (v := .int (nI pp)) S hw fgX5_43 0 rfl rfl dX5_addPart_14 ?_
    refine lv_aload_n hx hb dX5_addPart_17 rfl (lv_at hl 0 rfl) ?_
    refine zz_get (v := .int (nI pq)) S hw fgX5_47 0 rfl rfl dX5_addPart_18 ?_
    refine lv_iadd hx hb dX5_addPart_21 ?_
    refine zz_topi (y := (nI (pp + pq))) (nI_add _ _) ?_
    refine lv_lload_n hx hb dX5_addPart_22 rfl (lv_at hl 1 rfl) ?_
    refine zz_last (ws' := [(sc, .inr (5, [.ref s1, .ref s2, .ref s3, .ref s4, .ref s5, .ref s6, .ref s7, .ref s8, .ref s9, .int (nI pp), .int (nI pq), .int i3, .int i4])), (s1, .inl (G.2 3, 13, .inr (.inl (vp_updL nf (pp + pq) nm)))), (s2, .inl (G.2 0, 7, .inl m2)), (s3, .inl (G.2 0, 7, .inl m3)), (s4, .inl (G.2 0, 7, .inl m4)), (s5, .inl (G.2 0, 6, .inl m5)), (s6, .inl (G.2 0, 6, .inl m6)), (s7, .inl (G.2 0, 6, .inl m7))]) (g := (vp_updL nf (pp + pq) nm)) S hw 1 rfl (vp_in_nI (n := (pp + pq)) (by omega) (by decide)) (by rw [show ((nI (pp + pq)) : Int32).toNatClampNeg = (pp + pq) from nI_clamp (n := (pp + pq)) (by omega)]) rfl dX5_addPart_23 ?_
    clear hw
    intro H locs hw
    refine lv_aload_n hx hb dX5_addPart_24 rfl (lv_at hl 0 rfl) ?_
    refine zz_get (v := .ref s5) S hw fgX5_25 0 rfl rfl dX5_addPart_25 ?_
    refine W.eq (g2 := F0 m 28 ls [.ref s5]) rfl ?_
    refine lv_aload_n hx hb dX5_addPart_28 rfl (lv_at hl 0 rfl) ?_
    refine zz_get (v := .int (nI pq)) S hw fgX5_47 0 rfl rfl dX5_addPart_29 ?_
    refine lv_iload_n hx hb dX5_addPart_32 rfl (lv_at hl 2 rfl) ?_
    refine zz_iast (ws' := [(sc, .inr (5, [.ref s1, .ref s2, .ref s3, .ref s4, .ref s5, .ref s6, .ref s7, .ref s8, .ref s9, .int (nI pp), .int (nI pq), .int i3, .int i4])), (s1, .inl (G.2 3, 13, .inr (.inl (vp_updL nf (pp + pq) nm)))), (s2, .inl (G.2 0, 7, .inl m2)), (s3, .inl (G.2 0, 7, .inl m3)), (s4, .inl (G.2 0, 7, .inl m4)), (s5, .inl (G.2 0, 6, .inl (upd m5 pq a))), (s6, .inl (G.2 0, 6, .inl m6)), (s7, .inl (G.2 0, 6, .inl m7))]) (g := (upd m5 pq a)) S hw 5 rfl (vp_in_nI (n := pq) (by omega) (by decide)) (zz_upn (n := pq) (by omega)) rfl dX5_addPart_33 ?_
    clear hw
    intro H locs hw
    refine lv_aload_n hx hb dX5_addPart_34 rfl (lv_at hl 0 rfl) ?_
    refine zz_get (v := .ref s6) S hw fgX5_28 0 rfl rfl dX5_addPart_35 ?_
    refine lv_aload_n hx hb dX5_addPart_38 rfl (lv_at hl 0 rfl) ?_
    refine zz_get (v := .int (nI pq)) S hw fgX5_47 0 rfl rfl dX5_addPart_39 ?_
    refine lv_iload hx hb dX5_addPart_42 (lv_at hl 3 rfl) ?_
    refine zz_iast (ws' := [(sc, .inr (5, [.ref s1, .ref s2, .ref s3, .ref s4, .ref s5, .ref s6, .ref s7, .ref s8, .ref s9, .int (nI pp), .int (nI pq), .int i3, .int i4])), (s1, .inl (G.2 3, 13, .inr (.inl (vp_updL nf (pp + pq) nm)))), (s2, .inl (G.2 0, 7, .inl m2)), (s3, .inl (G.2 0, 7, .inl m3)), (s4, .inl (G.2 0, 7, .inl m4)), (s5, .inl (G.2 0, 6, .inl (upd m5 pq a))), (s6, .inl (G.2 0, 6, .inl (upd m6 pq b))), (s7, .inl (G.2 0, 6, .inl m7))]) (g := (upd m6 pq b)) S hw 6 rfl (vp_in_nI (n := pq) (by omega) (by decide)) (zz_upn (n := pq) (by omega)) rfl dX5_addPart_44 ?_
    clear hw
    intro H locs hw
    refine lv_aload_n hx hb dX5_addPart_45 rfl (lv_at hl 0 rfl) ?_
    refine zz_get (v := .ref s7) S hw fgX5_31 0 rfl rfl dX5_addPart_46 ?_
    refine lv_aload_n hx hb dX5_addPart_49 rfl (lv_at hl 0 rfl) ?_
    refine zz_get (v := .int (nI pq)) S hw fgX5_47 0 rfl rfl dX5_addPart_50 ?_
    refine W.eq (g2 := F0 m 53 ls [.int (nI pq), .ref s7]) rfl ?_
    refine lv_iload hx hb dX5_addPart_53 (lv_at hl 4 rfl) ?_
    refine zz_iast (ws' := [(sc, .inr (5, [.ref s1, .ref s2, .ref s3, .ref s4, .ref s5, .ref s6, .ref s7, .ref s8, .ref s9, .int (nI pp), .int (nI pq), .int i3, .int i4])), (s1, .inl (G.2 3, 13, .inr (.inl (vp_updL nf (pp + pq) nm)))), (s2, .inl (G.2 0, 7, .inl m2)), (s3, .inl (G.2 0, 7, .inl m3)), (s4, .inl (G.2 0, 7, .inl m4)), (s5, .inl (G.2 0, 6, .inl (upd m5 pq a))), (s6, .inl (G.2 0, 6, .inl (upd m6 pq b))), (s7, .inl (G.2 0, 6, .inl (upd m7 pq d)))]) (g := (upd m7 pq d)) S hw 7 rfl (vp_in_nI (n := pq) (by omega) (by decide)) (zz_upn (n := pq) (by omega)) rfl dX5_addPart_55 ?_
    clear hw
    intro H locs hw
    refine lv_aload_n hx hb dX5_addPart_56 rfl (lv_at hl 0 rfl) ?_
    refine lv_dup hx hb dX5_addPart_57 rfl ?_
    refine zz_get (v := .int (nI pq)) S hw fgX5_47 0 rfl rfl dX5_addPart_58 ?_
    refine lv_iconst (v := 1) hx hb dX5_addPart_61 (by decide) ?_
    refine lv_iadd hx hb dX5_addPart_62 ?_
    refine zz_topi (y := (nI (pq + 1))) (nI_add _ _) ?_
    refine zz_put (ws' := [(sc, .inr (5, [.ref s1, .ref s2, .ref s3, .ref s4, .ref s5, .ref s6, .ref s7, .ref s8, .ref s9, .int (nI pp), .int (nI (pq + 1)), .int i3, .int i4])), (s1, .inl (G.2 3, 13, .inr (.inl (vp_updL nf (pp + pq) nm)))), (s2, .inl (G.2 0, 7, .inl m2)), (s3, .inl (G.2 0, 7, .inl m3)), (s4, .inl (G.2 0, 7, .inl m4)), (s5, .inl (G.2 0, 6, .inl (upd m5 pq a))), (s6, .inl (G.2 0, 6, .inl (upd m6 pq b))), (s7, .inl (G.2 0, 6, .inl (upd m7 pq d)))]) (v := .int (nI (pq + 1))) S hw fpX5_47 0 rfl rfl rfl (Nat.le_of_ble_eq_true rfl) rfl dX5_addPart_63 ?_
    clear hw
    intro H locs hw
    exact hret _ _ _ _ _ ⟨pp, (pq + 1), (vp_updL nf (pp + pq) nm), m2, m3, m4, (upd m5 pq a), (upd m6 pq b), (upd m7 pq d), rfl, rfl, (by first | assumption | omega), (by first | assumption | omega), (by first | exact fun _ => ⟨rfl, rfl, rfl⟩ | exact fun z => absurd z (by omega)), (by first | exact fun _ => ⟨rfl, rfl, rfl, rfl, rfl, rfl⟩ | exact fun z => absurd z (by omega))⟩ hw dX5_addPart_66
theorem kd_ncX4_readNumber : kd_ck 21912240527148983209187863553203911101352407663997323348084021029787331311996354834248807466 38 cX4_readNumber.data.toList 0 = true := by decide +kernel
theorem dX4_readNumber_0 : decode cX4_readNumber 0 = .ok (.aload_n 0, 1) := kd_dk0 kd_o42 kd_ncX4_readNumber rfl
theorem dX4_readNumber_1 : decode cX4_readNumber 1 = .ok (.getfield 12, 3) := kd_dk2 kd_o180 kd_ncX4_readNumber rfl
theorem dX4_readNumber_4 : decode cX4_readNumber 4 = .ok (.getfield 126, 3) := kd_dk2 kd_o180 kd_ncX4_readNumber rfl
theorem dX4_readNumber_7 : decode cX4_readNumber 7 = .ok (.aload_n 0, 1) := kd_dk0 kd_o42 kd_ncX4_readNumber rfl
theorem dX4_readNumber_8 : decode cX4_readNumber 8 = .ok (.getfield 28, 3) := kd_dk2 kd_o180 kd_ncX4_readNumber rfl
theorem dX4_readNumber_11 : decode cX4_readNumber 11 = .ok (.iaload, 1) := kd_dk0 kd_o46 kd_ncX4_readNumber rfl
theorem dX4_readNumber_12 : decode cX4_readNumber 12 = .ok (.istore_n 2, 1) := kd_dk0 kd_o61 kd_ncX4_readNumber rfl
theorem dX4_readNumber_13 : decode cX4_readNumber 13 = .ok (.aload_n 0, 1) := kd_dk0 kd_o42 kd_ncX4_readNumber rfl
theorem dX4_readNumber_14 : decode cX4_readNumber 14 = .ok (.invokevirtual 52, 3) := kd_dk2 kd_o182 kd_ncX4_readNumber rfl
theorem dX4_readNumber_17 : decode cX4_readNumber 17 = .ok (.iconst 3, 1) := kd_dk0 kd_o6 kd_ncX4_readNumber rfl
theorem dX4_readNumber_18 : decode cX4_readNumber 18 = .ok (.if_icmp .ne 13, 3) := kd_dj2 kd_o160 (w := 13) kd_ncX4_readNumber rfl rfl
theorem dX4_readNumber_21 : decode cX4_readNumber 21 = .ok (.iload_n 2, 1) := kd_dk0 kd_o28 kd_ncX4_readNumber rfl
theorem dX4_readNumber_22 : decode cX4_readNumber 22 = .ok (.iload_n 1, 1) := kd_dk0 kd_o27 kd_ncX4_readNumber rfl
theorem dX4_readNumber_23 : decode cX4_readNumber 23 = .ok (.if_icmp .le 8, 3) := kd_dj2 kd_o164 (w := 8) kd_ncX4_readNumber rfl rfl
theorem dX4_readNumber_26 : decode cX4_readNumber 26 = .ok (.aload_n 0, 1) := kd_dk0 kd_o42 kd_ncX4_readNumber rfl
theorem dX4_readNumber_27 : decode cX4_readNumber 27 = .ok (.iconst 5, 1) := kd_dk0 kd_o8 kd_ncX4_readNumber rfl
theorem dX4_readNumber_28 : decode cX4_readNumber 28 = .ok (.invokevirtual 123, 3) := kd_dk2 kd_o182 kd_ncX4_readNumber rfl
theorem dX4_readNumber_31 : decode cX4_readNumber 31 = .ok (.aload_n 0, 1) := kd_dk0 kd_o42 kd_ncX4_readNumber rfl
theorem dX4_readNumber_32 : decode cX4_readNumber 32 = .ok (.iconst 3, 1) := kd_dk0 kd_o6 kd_ncX4_readNumber rfl
theorem dX4_readNumber_33 : decode cX4_readNumber 33 = .ok (.invokevirtual 92, 3) := kd_dk2 kd_o182 kd_ncX4_readNumber rfl
theorem dX4_readNumber_36 : decode cX4_readNumber 36 = .ok (.iload_n 2, 1) := kd_dk0 kd_o28 kd_ncX4_readNumber rfl
theorem dX4_readNumber_37 : decode cX4_readNumber 37 = .ok (.ireturn, 1) := kd_dk0 kd_o172 kd_ncX4_readNumber rfl
set_option maxHeartbeats 8000000 in
set_option maxRecDepth 100000 in
theorem c_greadNumber (l : Launch) (G : zz_G) (h1 : Nat) (h2 : Nat) (h0 : Nat) (a1 : Nat) (a2 : Nat) (a3 : Nat) (a4 : Nat) (wm : Nat) (atn : Nat) (ft : Int32) (fq : Int32) (lf : Int32) (lq : Int32) (so_ : Nat → Int32) (pl_ : Nat → Int32) (nu_ : Nat → Int32) (sp_ : Nat → Int64) (wc : Nat → Int32) (n : Int32) (hat : atn ≤ 400) (hwm : wm ≤ 32) (htk : ∀ j, j < 401 → so_ j = 3 → zz_nok (nu_ j)) : zz_M l G mX4_readNumber 3 0 0 [.ref h1, .int n] [(h1, .inr (4, [.ref h0, .ref h2, .int (nI wm), .int (nI atn), .int ft, .int fq, .int lf, .int lq])), (h0, .inr (7, [.ref a1, .ref a2, .ref a3, .ref a4])), (a1, .inl (G.2 0, 401, .inl so_)), (a2, .inl (G.2 0, 401, .inl pl_)), (a3, .inl (G.2 0, 401, .inl nu_)), (a4, .inl (G.2 3, 401, .inr (.inl sp_))), (h2, .inl (G.2 0, 32, .inl wc))] (fun rr u => ∃ (rv : Int32), ∃ (at2 : Nat), ∃ (ft2 : Int32), ∃ (fq2 : Int32), ∃ (lf2 : Int32), ∃ (lq2 : Int32), rr = some (.int rv) ∧ u = [(h1, .inr (4, [.ref h0, .ref h2, .int (nI wm), .int (nI at2), .int ft2, .int fq2, .int lf2, .int lq2])), (h0, .inr (7, [.ref a1, .ref a2, .ref a3, .ref a4])), (a1, .inl (G.2 0, 401, .inl so_)), (a2, .inl (G.2 0, 401, .inl pl_)), (a3, .inl (G.2 0, 401, .inl nu_)), (a4, .inl (G.2 3, 401, .inr (.inl sp_))), (h2, .inl (G.2 0, 32, .inl wc))] ∧ (at2 ≤ 400) ∧ (rv = nu_ atn) ∧ (zs_num (zs_later pl_) so_ pl_ nu_ n (zs_of atn ft fq lf lq) = (zs_of at2 ft2 fq2 lf2 lq2))) := by
  refine zz_enteri (by decide +kernel) (Nat.le_of_ble_eq_true rfl) ?_
  intro p e s m args below meth c A Q ls S hnm hret hw hl
  have hl : lv_has ls 3 [(0, .ref h1), (1, .int n)] := hl
  have hx := S.1
  have hb := S.2.1
  refine lv_aload_n hx hb dX4_readNumber_0 rfl (lv_at hl 0 rfl) ?_
  refine zz_get (v := .ref h0) S hw fgX4_12 0 rfl rfl dX4_readNumber_1 ?_
  refine zz_get (v := .ref a3) S hw fgX4_126 1 rfl rfl dX4_readNumber_4 ?_
  refine lv_aload_n hx hb dX4_readNumber_7 rfl (lv_at hl 0 rfl) ?_
  refine zz_get (v := .int (nI atn)) S hw fgX4_28 0 rfl rfl dX4_readNumber_8 ?_
  refine zz_iald (v := (nu_ atn)) S hw 4 rfl (vp_in_nI (n := atn) (by omega) (by decide)) (congrArg nu_ (nI_clamp (n := atn) (by omega))) dX4_readNumber_11 ?_
  refine lv_istore_n (lv' := [(2, .int (nu_ atn)), (0, .ref h1), (1, .int n)]) hx hb dX4_readNumber_12 rfl hl (by decide) rfl (fun ls hl => ?_)
  refine lv_aload_n hx hb dX4_readNumber_13 rfl (lv_at hl 1 rfl) ?_
  refine zz_callV (qb := 0) (As := []) (rest := []) (wr := []) S hw hl.1 lX4_52 (c_gsort l G h1 h2 h0 a1 a2 a3 a4 wm atn ft fq lf lq so_ pl_ nu_ sp_ wc (by first | assumption | omega | (unfold zz_sok; decide) | decide) (by first | assumption | omega | (unfold zz_sok; decide) | decide) (by first | assumption | omega | (unfold zz_sok; decide) | decide)) ⟨Nat.le_of_ble_eq_true rfl, Nat.le_of_ble_eq_true rfl⟩ ⟨Nat.le_of_ble_eq_true rfl, Nat.le_of_ble_eq_true rfl⟩ [0, 1, 2, 3, 4, 5, 6] [] (by decide) rfl rfl (by decide) (by decide) rfl rfl rfl rfl (Nat.le_of_ble_eq_true rfl) dX4_readNumber_14 ?_
  clear hw
  intro rr u H locs hp hw
  refine hp.elim fun zee1 zee2 => ?_
  clear hp
  subst zee1
  subst zee2
  replace hw : zz_w G A s [(h1, .inr (4, [.ref h0, .ref h2, .int (nI wm), .int (nI atn), .int ft, .int fq, .int lf, .int lq])), (h0, .inr (7, [.ref a1, .ref a2, .ref a3, .ref a4])), (a1, .inl (G.2 0, 401, .inl so_)), (a2, .inl (G.2 0, 401, .inl pl_)), (a3, .inl (G.2 0, 401, .inl nu_)), (a4, .inl (G.2 3, 401, .inr (.inl sp_))), (h2, .inl (G.2 0, 32, .inl wc))] H _ := hw
  refine W.eq (g2 := F0 m 17 ls [.int (so_ atn)]) rfl ?_
  refine lv_iconst (v := 3) hx hb dX4_readNumber_17 (by decide) ?_
  refine lv_icmp_ne (tgt := 31) hx hb dX4_readNumber_18 (by decide) (fun c18_1 => ?_) (fun c18_1 => ?_)
  · skip
    refine lv_aload_n hx hb dX4_readNumber_31 rfl (lv_at hl 1 rfl) ?_
    refine lv_iconst (v := 3) hx hb dX4_readNumber_32 (by decide) ?_
    refine zz_callV (qb := 0) (As := [.int 3]) (rest := []) (wr := []) S hw hl.1 lX4_92 (c_gexpect l G h1 h2 h0 a1 a2 a3 a4 wm atn ft fq lf lq so_ pl_ nu_ sp_ wc 3 (by first | assumption | omega | (unfold zz_sok; decide) | decide) (by first | assumption | omega | (unfold zz_sok; decide) | decide) (by first | assumption | omega | (unfold zz_sok; decide) | decide)) ⟨Nat.le_of_ble_eq_true rfl, Nat.le_of_ble_eq_true rfl⟩ ⟨Nat.le_of_ble_eq_true rfl, Nat.le_of_ble_eq_true rfl⟩ [0, 1, 2, 3, 4, 5, 6] [] (by decide) rfl rfl (by decide) (by decide) rfl rfl rfl rfl (Nat.le_of_ble_eq_true rfl) dX4_readNumber_33 ?_
    clear hw
    intro rr u H locs hp hw
    refine hp.elim fun at2_2 zg0 => zg0.elim fun ft2_3 zg1 => zg1.elim fun fq2_4 zg2 => zg2.elim fun lf2_5 zg3 => zg3.elim fun lq2_6 zg4 => zg4.elim fun zee1 zg5 => zg5.elim fun zee2 zg6 => zg6.elim fun hq33_0 hq33_1 => ?_
    clear hp zg0 zg1 zg2 zg3 zg4 zg5 zg6
    subst zee1
    subst zee2
    replace hw : zz_w G A s [(h1, .inr (4, [.ref h0, .ref h2, .int (nI wm), .int (nI at2_2), .int ft2_3, .int fq2_4, .int lf2_5, .int lq2_6])), (h0, .inr (7, [.ref a1, .ref a2, .ref a3, .ref a4])), (a1, .inl (G.2 0, 401, .inl so_)), (a2, .inl (G.2 0, 401, .inl pl_)), (a3, .inl (G.2 0, 401, .inl nu_)), (a4, .inl (G.2 3, 401, .inr (.inl sp_))), (h2, .inl (G.2 0, 32, .inl wc))] H _ := hw
    refine W.eq (g2 := F0 m 36 ls []) rfl ?_
    refine lv_iload_n hx hb dX4_readNumber_36 rfl (lv_at hl 0 rfl) ?_
    refine W.eq (g2 := F0 m 37 ls [.int (nu_ atn)]) rfl ?_
    exact hret _ _ _ _ _ _ ⟨(nu_ atn), at2_2, ft2_3, fq2_4, lf2_5, lq2_6, rfl, rfl, (by first | assumption | omega), rfl, (by first | exact (zs_num_n (Or.inl (by assumption))).trans hq33_1 | exact (zs_num_n (Or.inr (by assumption))).trans hq33_1 | exact (zs_num_y (by assumption) (by assumption)).trans ((congrArg (zs_must so_ pl_ 3) hq28_0).trans hq33_1))⟩ hw rfl dX4_readNumber_37
  · skip
    refine lv_iload_n hx hb dX4_readNumber_21 rfl (lv_at hl 0 rfl) ?_
    refine lv_iload_n hx hb dX4_readNumber_22 rfl (lv_at hl 2 rfl) ?_
    refine lv_icmp_le (tgt := 31) hx hb dX4_readNumber_23 (by decide) (fun c23_7 => ?_) (fun c23_7 => ?_)
    · skip
      refine lv_aload_n hx hb dX4_readNumber_31 rfl (lv_at hl 1 rfl) ?_
      refine lv_iconst (v := 3) hx hb dX4_readNumber_32 (by decide) ?_
      refine zz_callV (qb := 0) (As := [.int 3]) (rest := []) (wr := []) S hw hl.1 lX4_92 (c_gexpect l G h1 h2 h0 a1 a2 a3 a4 wm atn ft fq lf lq so_ pl_ nu_ sp_ wc 3 (by first | assumption | omega | (unfold zz_sok; decide) | decide) (by first | assumption | omega | (unfold zz_sok; decide) | decide) (by first | assumption | omega | (unfold zz_sok; decide) | decide)) ⟨Nat.le_of_ble_eq_true rfl, Nat.le_of_ble_eq_true rfl⟩ ⟨Nat.le_of_ble_eq_true rfl, Nat.le_of_ble_eq_true rfl⟩ [0, 1, 2, 3, 4, 5, 6] [] (by decide) rfl rfl (by decide) (by decide) rfl rfl rfl rfl (Nat.le_of_ble_eq_true rfl) dX4_readNumber_33 ?_
      clear hw
      intro rr u H locs hp hw
      refine hp.elim fun at2_8 zg0 => zg0.elim fun ft2_9 zg1 => zg1.elim fun fq2_10 zg2 => zg2.elim fun lf2_11 zg3 => zg3.elim fun lq2_12 zg4 => zg4.elim fun zee1 zg5 => zg5.elim fun zee2 zg6 => zg6.elim fun hq33_0 hq33_1 => ?_
      clear hp zg0 zg1 zg2 zg3 zg4 zg5 zg6
      subst zee1
      subst zee2
      replace hw : zz_w G A s [(h1, .inr (4, [.ref h0, .ref h2, .int (nI wm), .int (nI at2_8), .int ft2_9, .int fq2_10, .int lf2_11, .int lq2_12])), (h0, .inr (7, [.ref a1, .ref a2, .ref a3, .ref a4])), (a1, .inl (G.2 0, 401, .inl so_)), (a2, .inl (G.2 0, 401, .inl pl_)), (a3, .inl (G.2 0, 401, .inl nu_)), (a4, .inl (G.2 3, 401, .inr (.inl sp_))), (h2, .inl (G.2 0, 32, .inl wc))] H _ := hw
      refine W.eq (g2 := F0 m 36 ls []) rfl ?_
      refine lv_iload_n hx hb dX4_readNumber_36 rfl (lv_at hl 0 rfl) ?_
      exact hret _ _ _ _ _ _ ⟨(nu_ atn), at2_8, ft2_9, fq2_10, lf2_11, lq2_12, rfl, rfl, (by first | assumption | omega), rfl, (by first | exact (zs_num_n (Or.inl (by assumption))).trans hq33_1 | exact (zs_num_n (Or.inr (by assumption))).trans hq33_1 | exact (zs_num_y (by assumption) (by assumption)).trans ((congrArg (zs_must so_ pl_ 3) hq28_0).trans hq33_1))⟩ hw rfl dX4_readNumber_37
    · skip
      refine lv_aload_n hx hb dX4_readNumber_26 rfl (lv_at hl 1 rfl) ?_
      refine lv_iconst (v := 5) hx hb dX4_readNumber_27 (by decide) ?_
      refine zz_callV (qb := 0) (As := [.int 5]) (rest := []) (wr := []) S hw hl.1 lX4_123 (c_gfailLater l G h1 h2 h0 a1 a2 a3 a4 wm atn ft fq lf lq so_ pl_ nu_ sp_ wc 5 (by first | assumption | omega | (unfold zz_sok; decide) | decide) (by first | assumption | omega | (unfold zz_sok; decide) | decide) (by first | assumption | omega | (unfold zz_sok; decide) | decide) (by first | assumption | omega | (unfold zz_sok; decide) | decide)) ⟨Nat.le_of_ble_eq_true rfl, Nat.le_of_ble_eq_true rfl⟩ ⟨Nat.le_of_ble_eq_true rfl, Nat.le_of_ble_eq_true rfl⟩ [0, 1, 2, 3, 4, 5, 6] [] (by decide) rfl rfl (by decide) (by decide) rfl rfl rfl rfl (Nat.le_of_ble_eq_true rfl) dX4_readNumber_28 ?_
      clear hw
      intro rr u H locs hp hw
      refine hp.elim fun ft2_13 zg0 => zg0.elim fun fq2_14 zg1 => zg1.elim fun lf2_15 zg2 => zg2.elim fun lq2_16 zg3 => zg3.elim fun zee1 zg4 => zg4.elim fun zee2 hq28_0 => ?_
      clear hp zg0 zg1 zg2 zg3 zg4
      subst zee1
      subst zee2
      replace hw : zz_w G A s [(h1, .inr (4, [.ref h0, .ref h2, .int (nI wm), .int (nI atn), .int ft2_13, .int fq2_14, .int lf2_15, .int lq2_16])), (h0, .inr (7, [.ref a1, .ref a2, .ref a3, .ref a4])), (a1, .inl (G.2 0, 401, .inl so_)), (a2, .inl (G.2 0, 401, .inl pl_)), (a3, .inl (G.2 0, 401, .inl nu_)), (a4, .inl (G.2 3, 401, .inr (.inl sp_))), (h2, .inl (G.2 0, 32, .inl wc))] H _ := hw
      refine W.eq (g2 := F0 m 31 ls []) rfl ?_
      refine lv_aload_n hx hb dX4_readNumber_31 rfl (lv_at hl 1 rfl) ?_
      refine lv_iconst (v := 3) hx hb dX4_readNumber_32 (by decide) ?_
      refine zz_callV (qb := 0) (As := [.int 3]) (rest := []) (wr := []) S hw hl.1 lX4_92 (c_gexpect l G h1 h2 h0 a1 a2 a3 a4 wm atn ft2_13 fq2_14 lf2_15 lq2_16 so_ pl_ nu_ sp_ wc 3 (by first | assumption | omega | (unfold zz_sok; decide) | decide) (by first | assumption | omega | (unfold zz_sok; decide) | decide) (by first | assumption | omega | (unfold zz_sok; decide) | decide)) ⟨Nat.le_of_ble_eq_true rfl, Nat.le_of_ble_eq_true rfl⟩ ⟨Nat.le_of_ble_eq_true rfl, Nat.le_of_ble_eq_true rfl⟩ [0, 1, 2, 3, 4, 5, 6] [] (by decide) rfl rfl (by decide) (by decide) rfl rfl rfl rfl (Nat.le_of_ble_eq_true rfl) dX4_readNumber_33 ?_
      clear hw
      intro rr u H locs hp hw
      refine hp.elim fun at2_17 zg0 => zg0.elim fun ft2_18 zg1 => zg1.elim fun fq2_19 zg2 => zg2.elim fun lf2_20 zg3 => zg3.elim fun lq2_21 zg4 => zg4.elim fun zee1 zg5 => zg5.elim fun zee2 zg6 => zg6.elim fun hq33_0 hq33_1 => ?_
      clear hp zg0 zg1 zg2 zg3 zg4 zg5 zg6
      subst zee1
      subst zee2
      replace hw : zz_w G A s [(h1, .inr (4, [.ref h0, .ref h2, .int (nI wm), .int (nI at2_17), .int ft2_18, .int fq2_19, .int lf2_20, .int lq2_21])), (h0, .inr (7, [.ref a1, .ref a2, .ref a3, .ref a4])), (a1, .inl (G.2 0, 401, .inl so_)), (a2, .inl (G.2 0, 401, .inl pl_)), (a3, .inl (G.2 0, 401, .inl nu_)), (a4, .inl (G.2 3, 401, .inr (.inl sp_))), (h2, .inl (G.2 0, 32, .inl wc))] H _ := hw
      refine W.eq (g2 := F0 m 36 ls []) rfl ?_
      refine lv_iload_n hx hb dX4_readNumber_36 rfl (lv_at hl 0 rfl) ?_
      exact hret _ _ _ _ _ _ ⟨(nu_ atn), at2_17, ft2_18, fq2_19, lf2_20, lq2_21, rfl, rfl, (by first | assumption | omega), rfl, (by first | exact (zs_num_n (Or.inl (by assumption))).trans hq33_1 | exact (zs_num_n (Or.inr (by assumption))).trans hq33_1 | exact (zs_num_y (by assumption) (by assumption)).trans ((congrArg (zs_must so_ pl_ 3) hq28_0).trans hq33_1))⟩ hw rfl dX4_readNumber_37
theorem kd_ncX4_readName : kd_ck 369795754201287587114458186068192906562434280073048018927230464935289661892878016482017787796042794 41 cX4_readName.data.toList 0 = true := by decide +kernel
theorem dX4_readName_0 : decode cX4_readName 0 = .ok (.aload_n 0, 1) := kd_dk0 kd_o42 kd_ncX4_readName rfl
theorem dX4_readName_1 : decode cX4_readName 1 = .ok (.getfield 12, 3) := kd_dk2 kd_o180 kd_ncX4_readName rfl
theorem dX4_readName_4 : decode cX4_readName 4 = .ok (.getfield 115, 3) := kd_dk2 kd_o180 kd_ncX4_readName rfl
theorem dX4_readName_7 : decode cX4_readName 7 = .ok (.aload_n 0, 1) := kd_dk0 kd_o42 kd_ncX4_readName rfl
theorem dX4_readName_8 : decode cX4_readName 8 = .ok (.getfield 28, 3) := kd_dk2 kd_o180 kd_ncX4_readName rfl
theorem dX4_readName_11 : decode cX4_readName 11 = .ok (.laload, 1) := kd_dk0 kd_o47 kd_ncX4_readName rfl
theorem dX4_readName_12 : decode cX4_readName 12 = .ok (.lstore_n 2, 1) := kd_dk0 kd_o65 kd_ncX4_readName rfl
theorem dX4_readName_13 : decode cX4_readName 13 = .ok (.aload_n 0, 1) := kd_dk0 kd_o42 kd_ncX4_readName rfl
theorem dX4_readName_14 : decode cX4_readName 14 = .ok (.invokevirtual 52, 3) := kd_dk2 kd_o182 kd_ncX4_readName rfl
theorem dX4_readName_17 : decode cX4_readName 17 = .ok (.iconst 2, 1) := kd_dk0 kd_o5 kd_ncX4_readName rfl
theorem dX4_readName_18 : decode cX4_readName 18 = .ok (.if_icmp .ne 16, 3) := kd_dj2 kd_o160 (w := 16) kd_ncX4_readName rfl rfl
theorem dX4_readName_21 : decode cX4_readName 21 = .ok (.aload_n 1, 1) := kd_dk0 kd_o43 kd_ncX4_readName rfl
theorem dX4_readName_22 : decode cX4_readName 22 = .ok (.lload_n 2, 1) := kd_dk0 kd_o32 kd_ncX4_readName rfl
theorem dX4_readName_23 : decode cX4_readName 23 = .ok (.invokevirtual 119, 3) := kd_dk2 kd_o182 kd_ncX4_readName rfl
theorem dX4_readName_26 : decode cX4_readName 26 = .ok (.ifCond .eq 8, 3) := kd_dj2 kd_o153 (w := 8) kd_ncX4_readName rfl rfl
theorem dX4_readName_29 : decode cX4_readName 29 = .ok (.aload_n 0, 1) := kd_dk0 kd_o42 kd_ncX4_readName rfl
theorem dX4_readName_30 : decode cX4_readName 30 = .ok (.iconst 3, 1) := kd_dk0 kd_o6 kd_ncX4_readName rfl
theorem dX4_readName_31 : decode cX4_readName 31 = .ok (.invokevirtual 123, 3) := kd_dk2 kd_o182 kd_ncX4_readName rfl
theorem dX4_readName_34 : decode cX4_readName 34 = .ok (.aload_n 0, 1) := kd_dk0 kd_o42 kd_ncX4_readName rfl
theorem dX4_readName_35 : decode cX4_readName 35 = .ok (.iconst 2, 1) := kd_dk0 kd_o5 kd_ncX4_readName rfl
theorem dX4_readName_36 : decode cX4_readName 36 = .ok (.invokevirtual 92, 3) := kd_dk2 kd_o182 kd_ncX4_readName rfl
theorem dX4_readName_39 : decode cX4_readName 39 = .ok (.lload_n 2, 1) := kd_dk0 kd_o32 kd_ncX4_readName rfl
theorem dX4_readName_40 : decode cX4_readName 40 = .ok (.lreturn, 1) := kd_dk0 kd_o173 kd_ncX4_readName rfl
set_option maxHeartbeats 8000000 in
set_option maxRecDepth 100000 in
theorem c_greadName (l : Launch) (G : zz_G) (h1 : Nat) (h2 : Nat) (h0 : Nat) (a1 : Nat) (a2 : Nat) (a3 : Nat) (a4 : Nat) (wm : Nat) (atn : Nat) (ft : Int32) (fq : Int32) (lf : Int32) (lq : Int32) (so_ : Nat → Int32) (pl_ : Nat → Int32) (nu_ : Nat → Int32) (sp_ : Nat → Int64) (wc : Nat → Int32) (sc : Nat) (s1 : Nat) (s2 : Nat) (s3 : Nat) (s4 : Nat) (s5 : Nat) (s6 : Nat) (s7 : Nat) (s8 : Nat) (s9 : Nat) (pp : Nat) (pq : Nat) (i3 : Int32) (i4 : Int32) (nf : Nat → Int64) (hat : atn ≤ 400) (hwm : wm ≤ 32) (htk : ∀ j, j < 401 → so_ j = 3 → zz_nok (nu_ j)) (hpp : pp ≤ 7) (hpq : pq ≤ 6) : zz_M l G mX4_readName 3 0 0 [.ref h1, .ref sc] [(h1, .inr (4, [.ref h0, .ref h2, .int (nI wm), .int (nI atn), .int ft, .int fq, .int lf, .int lq])), (h0, .inr (7, [.ref a1, .ref a2, .ref a3, .ref a4])), (a1, .inl (G.2 0, 401, .inl so_)), (a2, .inl (G.2 0, 401, .inl pl_)), (a3, .inl (G.2 0, 401, .inl nu_)), (a4, .inl (G.2 3, 401, .inr (.inl sp_))), (h2, .inl (G.2 0, 32, .inl wc)), (sc, .inr (5, [.ref s1, .ref s2, .ref s3, .ref s4, .ref s5, .ref s6, .ref s7, .ref s8, .ref s9, .int (nI pp), .int (nI pq), .int i3, .int i4])), (s1, .inl (G.2 3, 13, .inr (.inl nf)))] (fun rr u => ∃ (rv : Int64), ∃ (at2 : Nat), ∃ (ft2 : Int32), ∃ (fq2 : Int32), ∃ (lf2 : Int32), ∃ (lq2 : Int32), rr = some (.long rv) ∧ u = [(h1, .inr (4, [.ref h0, .ref h2, .int (nI wm), .int (nI at2), .int ft2, .int fq2, .int lf2, .int lq2])), (h0, .inr (7, [.ref a1, .ref a2, .ref a3, .ref a4])), (a1, .inl (G.2 0, 401, .inl so_)), (a2, .inl (G.2 0, 401, .inl pl_)), (a3, .inl (G.2 0, 401, .inl nu_)), (a4, .inl (G.2 3, 401, .inr (.inl sp_))), (h2, .inl (G.2 0, 32, .inl wc)), (sc, .inr (5, [.ref s1, .ref s2, .ref s3, .ref s4, .ref s5, .ref s6, .ref s7, .ref s8, .ref s9, .int (nI pp), .int (nI pq), .int i3, .int i4])), (s1, .inl (G.2 3, 13, .inr (.inl nf)))] ∧ (at2 ≤ 400) ∧ (rv = sp_ atn) ∧ (zs_name (zs_later pl_) so_ pl_ (fun j => zs_has nf (sp_ j) (pp + pq)) (zs_of atn ft fq lf lq) = (zs_of at2 ft2 fq2 lf2 lq2))) := by
  refine zz_enterl (by decide +kernel) (Nat.le_of_ble_eq_true rfl) ?_
  intro p e s m args below meth c A Q ls S hnm hret hw hl
  have hl : lv_has ls 4 [(0, .ref h1), (1, .ref sc)] := hl
  have hx := S.1
  have hb := S.2.1
  refine lv_aload_n hx hb dX4_readName_0 rfl (lv_at hl 0 rfl) ?_
  refine zz_get (v := .ref h0) S hw fgX4_12 0 rfl rfl dX4_readName_1 ?_
  refine zz_get (v := .ref a4) S hw fgX4_115 1 rfl rfl dX4_readName_4 ?_
  refine lv_aload_n hx hb dX4_readName_7 rfl (lv_at hl 0 rfl) ?_
  refine zz_get (v := .int (nI atn)) S hw fgX4_28 0 rfl rfl dX4_readName_8 ?_
  refine zz_lald (v := (sp_ atn)) S hw 5 rfl (vp_in_nI (n := atn) (by omega) (by decide)) (congrArg sp_ (nI_clamp (n := atn) (by omega))) dX4_readName_11 ?_
  refine lv_lstore_n (lv' := [(2, .long (sp_ atn)), (0, .ref h1), (1, .ref sc)]) hx hb dX4_readName_12 rfl hl (by decide) rfl (fun ls hl => ?_)
  refine lv_aload_n hx hb dX4_readName_13 rfl (lv_at hl 1 rfl) ?_
  refine zz_callV (qb := 0) (As := []) (rest := []) (wr := [(sc, .inr (5, [.ref s1, .ref s2, .ref s3, .ref s4, .ref s5, .ref s6, .ref s7, .ref s8, .ref s9, .int (nI pp), .int (nI pq), .int i3, .int i4])), (s1, .inl (G.2 3, 13, .inr (.inl nf)))]) S hw hl.1 lX4_52 (c_gsort l G h1 h2 h0 a1 a2 a3 a4 wm atn ft fq lf lq so_ pl_ nu_ sp_ wc (by first | assumption | omega | (unfold zz_sok; decide) | decide) (by first | assumption | omega | (unfold zz_sok; decide) | decide) (by first | assumption | omega | (unfold zz_sok; decide) | decide)) ⟨Nat.le_of_ble_eq_true rfl, Nat.le_of_ble_eq_true rfl⟩ ⟨Nat.le_of_ble_eq_true rfl, Nat.le_of_ble_eq_true rfl⟩ [0, 1, 2, 3, 4, 5, 6] [7, 8] (by decide) rfl rfl (by decide) (by decide) rfl rfl rfl rfl (Nat.le_of_ble_eq_true rfl) dX4_readName_14 ?_
  clear hw
  intro rr u H locs hp hw
  refine hp.elim fun zee1 zee2 => ?_
  clear hp
  subst zee1
  subst zee2
  replace hw : zz_w G A s [(sc, .inr (5, [.ref s1, .ref s2, .ref s3, .ref s4, .ref s5, .ref s6, .ref s7, .ref s8, .ref s9, .int (nI pp), .int (nI pq), .int i3, .int i4])), (s1, .inl (G.2 3, 13, .inr (.inl nf))), (h1, .inr (4, [.ref h0, .ref h2, .int (nI wm), .int (nI atn), .int ft, .int fq, .int lf, .int lq])), (h0, .inr (7, [.ref a1, .ref a2, .ref a3, .ref a4])), (a1, .inl (G.2 0, 401, .inl so_)), (a2, .inl (G.2 0, 401, .inl pl_)), (a3, .inl (G.2 0, 401, .inl nu_)), (a4, .inl (G.2 3, 401, .inr (.inl sp_))), (h2, .inl (G.2 0, 32, .inl wc))] H _ := hw
  refine W.eq (g2 := F0 m 17 ls [.int (so_ atn)]) rfl ?_
  refine lv_iconst (v := 2) hx hb dX4_readName_17 (by decide) ?_
  refine lv_icmp_ne (tgt := 34) hx hb dX4_readName_18 (by decide) (fun c18_1 => ?_) (fun c18_1 => ?_)
  · skip
    refine lv_aload_n hx hb dX4_readName_34 rfl (lv_at hl 1 rfl) ?_
    refine lv_iconst (v := 2) hx hb dX4_readName_35 (by decide) ?_
    refine zz_callV (qb := 2) (As := [.int 2]) (rest := []) (wr := [(sc, .inr (5, [.ref s1, .ref s2, .ref s3, .ref s4, .ref s5, .ref s6, .ref s7, .ref s8, .ref s9, .int (nI pp), .int (nI pq), .int i3, .int i4])), (s1, .inl (G.2 3, 13, .inr (.inl nf)))]) S hw hl.1 lX4_92 (c_gexpect l G h1 h2 h0 a1 a2 a3 a4 wm atn ft fq lf lq so_ pl_ nu_ sp_ wc 2 (by first | assumption | omega | (unfold zz_sok; decide) | decide) (by first | assumption | omega | (unfold zz_sok; decide) | decide) (by first | assumption | omega | (unfold zz_sok; decide) | decide)) ⟨Nat.le_of_ble_eq_true rfl, Nat.le_of_ble_eq_true rfl⟩ ⟨Nat.le_of_ble_eq_true rfl, Nat.le_of_ble_eq_true rfl⟩ [2, 3, 4, 5, 6, 7, 8] [0, 1] (by decide) rfl rfl (by decide) (by decide) rfl rfl rfl rfl (Nat.le_of_ble_eq_true rfl) dX4_readName_36 ?_
    clear hw
    intro rr u H locs hp hw
    refine hp.elim fun at2_2 zg0 => zg0.elim fun ft2_3 zg1 => zg1.elim fun fq2_4 zg2 => zg2.elim fun lf2_5 zg3 => zg3.elim fun lq2_6 zg4 => zg4.elim fun zee1 zg5 => zg5.elim fun zee2 zg6 => zg6.elim fun hq36_0 hq36_1 => ?_
    clear hp zg0 zg1 zg2 zg3 zg4 zg5 zg6
    subst zee1
    subst zee2
    replace hw : zz_w G A s [(sc, .inr (5, [.ref s1, .ref s2, .ref s3, .ref s4, .ref s5, .ref s6, .ref s7, .ref s8, .ref s9, .int (nI pp), .int (nI pq), .int i3, .int i4])), (s1, .inl (G.2 3, 13, .inr (.inl nf))), (h1, .inr (4, [.ref h0, .ref h2, .int (nI wm), .int (nI at2_2), .int ft2_3, .int fq2_4, .int lf2_5, .int lq2_6])), (h0, .inr (7, [.ref a1, .ref a2, .ref a3, .ref a4])), (a1, .inl (G.2 0, 401, .inl so_)), (a2, .inl (G.2 0, 401, .inl pl_)), (a3, .inl (G.2 0, 401, .inl nu_)), (a4, .inl (G.2 3, 401, .inr (.inl sp_))), (h2, .inl (G.2 0, 32, .inl wc))] H _ := hw
    refine W.eq (g2 := F0 m 39 ls []) rfl ?_
    refine lv_lload_n hx hb dX4_readName_39 rfl (lv_at hl 0 rfl) ?_
    refine W.eq (g2 := F0 m 40 ls [.long (sp_ atn)]) rfl ?_
    exact hret _ _ _ _ _ _ ⟨(sp_ atn), at2_2, ft2_3, fq2_4, lf2_5, lq2_6, rfl, rfl, (by first | assumption | omega), rfl, (by first | exact (zs_name_n (dup := (fun j => zs_has nf (sp_ j) (pp + pq))) (t := atn) (Or.inl (by assumption))).trans hq36_1 | exact (zs_name_n (dup := (fun j => zs_has nf (sp_ j) (pp + pq))) (t := atn) (Or.inr (zs_h0 hq23_1 (by assumption)))).trans hq36_1 | exact (zs_name_y (dup := (fun j => zs_has nf (sp_ j) (pp + pq))) (t := atn) (by assumption) (zs_h1 hq23_1 (by assumption))).trans ((congrArg (zs_must so_ pl_ 2) hq31_0).trans hq36_1))⟩ (hw.sub [2, 3, 4, 5, 6, 7, 8, 0, 1] (by decide) rfl) dX4_readName_40
  · skip
    refine lv_aload_n hx hb dX4_readName_21 rfl (lv_at hl 2 rfl) ?_
    refine lv_lload_n hx hb dX4_readName_22 rfl (lv_at hl 0 rfl) ?_
    refine zz_callV (qb := 0) (As := [.long (sp_ atn)]) (rest := []) (wr := [(h1, .inr (4, [.ref h0, .ref h2, .int (nI wm), .int (nI atn), .int ft, .int fq, .int lf, .int lq])), (h0, .inr (7, [.ref a1, .ref a2, .ref a3, .ref a4])), (a1, .inl (G.2 0, 401, .inl so_)), (a2, .inl (G.2 0, 401, .inl pl_)), (a3, .inl (G.2 0, 401, .inl nu_)), (a4, .inl (G.2 3, 401, .inr (.inl sp_))), (h2, .inl (G.2 0, 32, .inl wc))]) S hw hl.1 lX4_119 (c_ghasName l G sc s1 s2 s3 s4 s5 s6 s7 s8 s9 pp pq i3 i4 nf (sp_ atn) (by first | assumption | omega | (unfold zz_sok; decide) | decide) (by first | assumption | omega | (unfold zz_sok; decide) | decide)) ⟨Nat.le_of_ble_eq_true rfl, Nat.le_of_ble_eq_true rfl⟩ ⟨Nat.le_of_ble_eq_true rfl, Nat.le_of_ble_eq_true rfl⟩ [0, 1] [2, 3, 4, 5, 6, 7, 8] (by decide) rfl rfl (by decide) (by decide) rfl rfl rfl rfl (Nat.le_of_ble_eq_true rfl) dX4_readName_23 ?_
    clear hw
    intro rr u H locs hp hw
    refine hp.elim fun rv_7 zg0 => zg0.elim fun zee1 zg1 => zg1.elim fun zee2 zg2 => zg2.elim fun hq23_0 hq23_1 => ?_
    clear hp zg0 zg1 zg2
    subst zee1
    subst zee2
    replace hw : zz_w G A s [(h1, .inr (4, [.ref h0, .ref h2, .int (nI wm), .int (nI atn), .int ft, .int fq, .int lf, .int lq])), (h0, .inr (7, [.ref a1, .ref a2, .ref a3, .ref a4])), (a1, .inl (G.2 0, 401, .inl so_)), (a2, .inl (G.2 0, 401, .inl pl_)), (a3, .inl (G.2 0, 401, .inl nu_)), (a4, .inl (G.2 3, 401, .inr (.inl sp_))), (h2, .inl (G.2 0, 32, .inl wc)), (sc, .inr (5, [.ref s1, .ref s2, .ref s3, .ref s4, .ref s5, .ref s6, .ref s7, .ref s8, .ref s9, .int (nI pp), .int (nI pq), .int i3, .int i4])), (s1, .inl (G.2 3, 13, .inr (.inl nf)))] H _ := hw
    refine W.eq (g2 := F0 m 26 ls [.int rv_7]) rfl ?_
    refine lv_if_eq (tgt := 34) hx hb dX4_readName_26 (by decide) (fun c26_8 => ?_) (fun c26_8 => ?_)
    · skip
      refine lv_aload_n hx hb dX4_readName_34 rfl (lv_at hl 1 rfl) ?_
      refine lv_iconst (v := 2) hx hb dX4_readName_35 (by decide) ?_
      refine zz_callV (qb := 0) (As := [.int 2]) (rest := []) (wr := [(sc, .inr (5, [.ref s1, .ref s2, .ref s3, .ref s4, .ref s5, .ref s6, .ref s7, .ref s8, .ref s9, .int (nI pp), .int (nI pq), .int i3, .int i4])), (s1, .inl (G.2 3, 13, .inr (.inl nf)))]) S hw hl.1 lX4_92 (c_gexpect l G h1 h2 h0 a1 a2 a3 a4 wm atn ft fq lf lq so_ pl_ nu_ sp_ wc 2 (by first | assumption | omega | (unfold zz_sok; decide) | decide) (by first | assumption | omega | (unfold zz_sok; decide) | decide) (by first | assumption | omega | (unfold zz_sok; decide) | decide)) ⟨Nat.le_of_ble_eq_true rfl, Nat.le_of_ble_eq_true rfl⟩ ⟨Nat.le_of_ble_eq_true rfl, Nat.le_of_ble_eq_true rfl⟩ [0, 1, 2, 3, 4, 5, 6] [7, 8] (by decide) rfl rfl (by decide) (by decide) rfl rfl rfl rfl (Nat.le_of_ble_eq_true rfl) dX4_readName_36 ?_
      clear hw
      intro rr u H locs hp hw
      refine hp.elim fun at2_9 zg0 => zg0.elim fun ft2_10 zg1 => zg1.elim fun fq2_11 zg2 => zg2.elim fun lf2_12 zg3 => zg3.elim fun lq2_13 zg4 => zg4.elim fun zee1 zg5 => zg5.elim fun zee2 zg6 => zg6.elim fun hq36_0 hq36_1 => ?_
      clear hp zg0 zg1 zg2 zg3 zg4 zg5 zg6
      subst zee1
      subst zee2
      replace hw : zz_w G A s [(sc, .inr (5, [.ref s1, .ref s2, .ref s3, .ref s4, .ref s5, .ref s6, .ref s7, .ref s8, .ref s9, .int (nI pp), .int (nI pq), .int i3, .int i4])), (s1, .inl (G.2 3, 13, .inr (.inl nf))), (h1, .inr (4, [.ref h0, .ref h2, .int (nI wm), .int (nI at2_9), .int ft2_10, .int fq2_11, .int lf2_12, .int lq2_13])), (h0, .inr (7, [.ref a1, .ref a2, .ref a3, .ref a4])), (a1, .inl (G.2 0, 401, .inl so_)), (a2, .inl (G.2 0, 401, .inl pl_)), (a3, .inl (G.2 0, 401, .inl nu_)), (a4, .inl (G.2 3, 401, .inr (.inl sp_))), (h2, .inl (G.2 0, 32, .inl wc))] H _ := hw
      refine W.eq (g2 := F0 m 39 ls []) rfl ?_
      refine lv_lload_n hx hb dX4_readName_39 rfl (lv_at hl 0 rfl) ?_
      exact hret _ _ _ _ _ _ ⟨(sp_ atn), at2_9, ft2_10, fq2_11, lf2_12, lq2_13, rfl, rfl, (by first | assumption | omega), rfl, (by first | exact (zs_name_n (dup := (fun j => zs_has nf (sp_ j) (pp + pq))) (t := atn) (Or.inl (by assumption))).trans hq36_1 | exact (zs_name_n (dup := (fun j => zs_has nf (sp_ j) (pp + pq))) (t := atn) (Or.inr (zs_h0 hq23_1 (by assumption)))).trans hq36_1 | exact (zs_name_y (dup := (fun j => zs_has nf (sp_ j) (pp + pq))) (t := atn) (by assumption) (zs_h1 hq23_1 (by assumption))).trans ((congrArg (zs_must so_ pl_ 2) hq31_0).trans hq36_1))⟩ (hw.sub [2, 3, 4, 5, 6, 7, 8, 0, 1] (by decide) rfl) dX4_readName_40
    · skip
      refine lv_aload_n hx hb dX4_readName_29 rfl (lv_at hl 1 rfl) ?_
      refine lv_iconst (v := 3) hx hb dX4_readName_30 (by decide) ?_
      refine zz_callV (qb := 0) (As := [.int 3]) (rest := []) (wr := [(sc, .inr (5, [.ref s1, .ref s2, .ref s3, .ref s4, .ref s5, .ref s6, .ref s7, .ref s8, .ref s9, .int (nI pp), .int (nI pq), .int i3, .int i4])), (s1, .inl (G.2 3, 13, .inr (.inl nf)))]) S hw hl.1 lX4_123 (c_gfailLater l G h1 h2 h0 a1 a2 a3 a4 wm atn ft fq lf lq so_ pl_ nu_ sp_ wc 3 (by first | assumption | omega | (unfold zz_sok; decide) | decide) (by first | assumption | omega | (unfold zz_sok; decide) | decide) (by first | assumption | omega | (unfold zz_sok; decide) | decide) (by first | assumption | omega | (unfold zz_sok; decide) | decide)) ⟨Nat.le_of_ble_eq_true rfl, Nat.le_of_ble_eq_true rfl⟩ ⟨Nat.le_of_ble_eq_true rfl, Nat.le_of_ble_eq_true rfl⟩ [0, 1, 2, 3, 4, 5, 6] [7, 8] (by decide) rfl rfl (by decide) (by decide) rfl rfl rfl rfl (Nat.le_of_ble_eq_true rfl) dX4_readName_31 ?_
      clear hw
      intro rr u H locs hp hw
      refine hp.elim fun ft2_14 zg0 => zg0.elim fun fq2_15 zg1 => zg1.elim fun lf2_16 zg2 => zg2.elim fun lq2_17 zg3 => zg3.elim fun zee1 zg4 => zg4.elim fun zee2 hq31_0 => ?_
      clear hp zg0 zg1 zg2 zg3 zg4
      subst zee1
      subst zee2
      replace hw : zz_w G A s [(sc, .inr (5, [.ref s1, .ref s2, .ref s3, .ref s4, .ref s5, .ref s6, .ref s7, .ref s8, .ref s9, .int (nI pp), .int (nI pq), .int i3, .int i4])), (s1, .inl (G.2 3, 13, .inr (.inl nf))), (h1, .inr (4, [.ref h0, .ref h2, .int (nI wm), .int (nI atn), .int ft2_14, .int fq2_15, .int lf2_16, .int lq2_17])), (h0, .inr (7, [.ref a1, .ref a2, .ref a3, .ref a4])), (a1, .inl (G.2 0, 401, .inl so_)), (a2, .inl (G.2 0, 401, .inl pl_)), (a3, .inl (G.2 0, 401, .inl nu_)), (a4, .inl (G.2 3, 401, .inr (.inl sp_))), (h2, .inl (G.2 0, 32, .inl wc))] H _ := hw
      refine W.eq (g2 := F0 m 34 ls []) rfl ?_
      refine lv_aload_n hx hb dX4_readName_34 rfl (lv_at hl 1 rfl) ?_
      refine lv_iconst (v := 2) hx hb dX4_readName_35 (by decide) ?_
      refine zz_callV (qb := 2) (As := [.int 2]) (rest := []) (wr := [(sc, .inr (5, [.ref s1, .ref s2, .ref s3, .ref s4, .ref s5, .ref s6, .ref s7, .ref s8, .ref s9, .int (nI pp), .int (nI pq), .int i3, .int i4])), (s1, .inl (G.2 3, 13, .inr (.inl nf)))]) S hw hl.1 lX4_92 (c_gexpect l G h1 h2 h0 a1 a2 a3 a4 wm atn ft2_14 fq2_15 lf2_16 lq2_17 so_ pl_ nu_ sp_ wc 2 (by first | assumption | omega | (unfold zz_sok; decide) | decide) (by first | assumption | omega | (unfold zz_sok; decide) | decide) (by first | assumption | omega | (unfold zz_sok; decide) | decide)) ⟨Nat.le_of_ble_eq_true rfl, Nat.le_of_ble_eq_true rfl⟩ ⟨Nat.le_of_ble_eq_true rfl, Nat.le_of_ble_eq_true rfl⟩ [2, 3, 4, 5, 6, 7, 8] [0, 1] (by decide) rfl rfl (by decide) (by decide) rfl rfl rfl rfl (Nat.le_of_ble_eq_true rfl) dX4_readName_36 ?_
      clear hw
      intro rr u H locs hp hw
      refine hp.elim fun at2_18 zg0 => zg0.elim fun ft2_19 zg1 => zg1.elim fun fq2_20 zg2 => zg2.elim fun lf2_21 zg3 => zg3.elim fun lq2_22 zg4 => zg4.elim fun zee1 zg5 => zg5.elim fun zee2 zg6 => zg6.elim fun hq36_0 hq36_1 => ?_
      clear hp zg0 zg1 zg2 zg3 zg4 zg5 zg6
      subst zee1
      subst zee2
      replace hw : zz_w G A s [(sc, .inr (5, [.ref s1, .ref s2, .ref s3, .ref s4, .ref s5, .ref s6, .ref s7, .ref s8, .ref s9, .int (nI pp), .int (nI pq), .int i3, .int i4])), (s1, .inl (G.2 3, 13, .inr (.inl nf))), (h1, .inr (4, [.ref h0, .ref h2, .int (nI wm), .int (nI at2_18), .int ft2_19, .int fq2_20, .int lf2_21, .int lq2_22])), (h0, .inr (7, [.ref a1, .ref a2, .ref a3, .ref a4])), (a1, .inl (G.2 0, 401, .inl so_)), (a2, .inl (G.2 0, 401, .inl pl_)), (a3, .inl (G.2 0, 401, .inl nu_)), (a4, .inl (G.2 3, 401, .inr (.inl sp_))), (h2, .inl (G.2 0, 32, .inl wc))] H _ := hw
      refine W.eq (g2 := F0 m 39 ls []) rfl ?_
      refine lv_lload_n hx hb dX4_readName_39 rfl (lv_at hl 0 rfl) ?_
      refine W.eq (g2 := F0 m 40 ls [.long (sp_ atn)]) rfl ?_
      exact hret _ _ _ _ _ _ ⟨(sp_ atn), at2_18, ft2_19, fq2_20, lf2_21, lq2_22, rfl, rfl, (by first | assumption | omega), rfl, (by first | exact (zs_name_n (dup := (fun j => zs_has nf (sp_ j) (pp + pq))) (t := atn) (Or.inl (by assumption))).trans hq36_1 | exact (zs_name_n (dup := (fun j => zs_has nf (sp_ j) (pp + pq))) (t := atn) (Or.inr (zs_h0 hq23_1 (by assumption)))).trans hq36_1 | exact (zs_name_y (dup := (fun j => zs_has nf (sp_ j) (pp + pq))) (t := atn) (by assumption) (zs_h1 hq23_1 (by assumption))).trans ((congrArg (zs_must so_ pl_ 2) hq31_0).trans hq36_1))⟩ (hw.sub [2, 3, 4, 5, 6, 7, 8, 0, 1] (by decide) rfl) dX4_readName_40
theorem kd_ncX4_readFigure : kd_ck 26385257883205171364194137529828381865768844897667932280569656736424185251025330285692197444659525212240785172010150653378158900174368992529985394137959601647708040241682080725143299279158878623335318065247932848610552817172445471494687798045498075350532440424194698304410018438916905244 119 cX4_readFigure.data.toList 0 = true := by decide +kernel
theorem dX4_readFigure_0 : decode cX4_readFigure 0 = .ok (.iload_n 2, 1) := kd_dk0 kd_o28 kd_ncX4_readFigure rfl
theorem dX4_readFigure_1 : decode cX4_readFigure 1 = .ok (.ifCond .eq 20, 3) := kd_dj2 kd_o153 (w := 20) kd_ncX4_readFigure rfl rfl
theorem dX4_readFigure_4 : decode cX4_readFigure 4 = .ok (.aload_n 1, 1) := kd_dk0 kd_o43 kd_ncX4_readFigure rfl
theorem dX4_readFigure_5 : decode cX4_readFigure 5 = .ok (.getfield 98, 3) := kd_dk2 kd_o180 kd_ncX4_readFigure rfl
theorem dX4_readFigure_8 : decode cX4_readFigure 8 = .ok (.bipush 7, 2) := kd_dj1 kd_o16 (w := 7) kd_ncX4_readFigure rfl rfl
theorem dX4_readFigure_10 : decode cX4_readFigure 10 = .ok (.if_icmp .ge 7, 3) := kd_dj2 kd_o162 (w := 7) kd_ncX4_readFigure rfl rfl
theorem dX4_readFigure_13 : decode cX4_readFigure 13 = .ok (.iconst 1, 1) := kd_dk0 kd_o4 kd_ncX4_readFigure rfl
theorem dX4_readFigure_14 : decode cX4_readFigure 14 = .ok (.goto 21, 3) := kd_dj2 kd_o167 (w := 21) kd_ncX4_readFigure rfl rfl
theorem dX4_readFigure_17 : decode cX4_readFigure 17 = .ok (.iconst 0, 1) := kd_dk0 kd_o3 kd_ncX4_readFigure rfl
theorem dX4_readFigure_18 : decode cX4_readFigure 18 = .ok (.goto 17, 3) := kd_dj2 kd_o167 (w := 17) kd_ncX4_readFigure rfl rfl
theorem dX4_readFigure_21 : decode cX4_readFigure 21 = .ok (.aload_n 1, 1) := kd_dk0 kd_o43 kd_ncX4_readFigure rfl
theorem dX4_readFigure_22 : decode cX4_readFigure 22 = .ok (.getfield 101, 3) := kd_dk2 kd_o180 kd_ncX4_readFigure rfl
theorem dX4_readFigure_25 : decode cX4_readFigure 25 = .ok (.bipush 6, 2) := kd_dj1 kd_o16 (w := 6) kd_ncX4_readFigure rfl rfl
theorem dX4_readFigure_27 : decode cX4_readFigure 27 = .ok (.if_icmp .ge 7, 3) := kd_dj2 kd_o162 (w := 7) kd_ncX4_readFigure rfl rfl
theorem dX4_readFigure_30 : decode cX4_readFigure 30 = .ok (.iconst 1, 1) := kd_dk0 kd_o4 kd_ncX4_readFigure rfl
theorem dX4_readFigure_31 : decode cX4_readFigure 31 = .ok (.goto 4, 3) := kd_dj2 kd_o167 (w := 4) kd_ncX4_readFigure rfl rfl
theorem dX4_readFigure_34 : decode cX4_readFigure 34 = .ok (.iconst 0, 1) := kd_dk0 kd_o3 kd_ncX4_readFigure rfl
theorem dX4_readFigure_35 : decode cX4_readFigure 35 = .ok (.istore_n 3, 1) := kd_dk0 kd_o62 kd_ncX4_readFigure rfl
theorem dX4_readFigure_36 : decode cX4_readFigure 36 = .ok (.iload_n 3, 1) := kd_dk0 kd_o29 kd_ncX4_readFigure rfl
theorem dX4_readFigure_37 : decode cX4_readFigure 37 = .ok (.ifCond .ne 9, 3) := kd_dj2 kd_o154 (w := 9) kd_ncX4_readFigure rfl rfl
theorem dX4_readFigure_40 : decode cX4_readFigure 40 = .ok (.aload_n 0, 1) := kd_dk0 kd_o42 kd_ncX4_readFigure rfl
theorem dX4_readFigure_41 : decode cX4_readFigure 41 = .ok (.iconst 2, 1) := kd_dk0 kd_o5 kd_ncX4_readFigure rfl
theorem dX4_readFigure_42 : decode cX4_readFigure 42 = .ok (.invokevirtual 66, 3) := kd_dk2 kd_o182 kd_ncX4_readFigure rfl
theorem dX4_readFigure_45 : decode cX4_readFigure 45 = .ok (.return_, 1) := kd_dk0 kd_o177 kd_ncX4_readFigure rfl
theorem dX4_readFigure_46 : decode cX4_readFigure 46 = .ok (.aload_n 0, 1) := kd_dk0 kd_o42 kd_ncX4_readFigure rfl
theorem dX4_readFigure_47 : decode cX4_readFigure 47 = .ok (.invokevirtual 70, 3) := kd_dk2 kd_o182 kd_ncX4_readFigure rfl
theorem dX4_readFigure_50 : decode cX4_readFigure 50 = .ok (.aload_n 0, 1) := kd_dk0 kd_o42 kd_ncX4_readFigure rfl
theorem dX4_readFigure_51 : decode cX4_readFigure 51 = .ok (.aload_n 1, 1) := kd_dk0 kd_o43 kd_ncX4_readFigure rfl
theorem dX4_readFigure_52 : decode cX4_readFigure 52 = .ok (.invokevirtual 104, 3) := kd_dk2 kd_o182 kd_ncX4_readFigure rfl
theorem dX4_readFigure_55 : decode cX4_readFigure 55 = .ok (.lstore 4, 2) := kd_dk1 kd_o55 kd_ncX4_readFigure rfl
theorem dX4_readFigure_57 : decode cX4_readFigure 57 = .ok (.aload_n 0, 1) := kd_dk0 kd_o42 kd_ncX4_readFigure rfl
theorem dX4_readFigure_58 : decode cX4_readFigure 58 = .ok (.bipush 23, 2) := kd_dj1 kd_o16 (w := 23) kd_ncX4_readFigure rfl rfl
theorem dX4_readFigure_60 : decode cX4_readFigure 60 = .ok (.invokevirtual 85, 3) := kd_dk2 kd_o182 kd_ncX4_readFigure rfl
theorem dX4_readFigure_63 : decode cX4_readFigure 63 = .ok (.istore 6, 2) := kd_dk1 kd_o54 kd_ncX4_readFigure rfl
theorem dX4_readFigure_65 : decode cX4_readFigure 65 = .ok (.aload_n 0, 1) := kd_dk0 kd_o42 kd_ncX4_readFigure rfl
theorem dX4_readFigure_66 : decode cX4_readFigure 66 = .ok (.bipush 9, 2) := kd_dj1 kd_o16 (w := 9) kd_ncX4_readFigure rfl rfl
theorem dX4_readFigure_68 : decode cX4_readFigure 68 = .ok (.invokevirtual 85, 3) := kd_dk2 kd_o182 kd_ncX4_readFigure rfl
theorem dX4_readFigure_71 : decode cX4_readFigure 71 = .ok (.istore 7, 2) := kd_dk1 kd_o54 kd_ncX4_readFigure rfl
theorem dX4_readFigure_73 : decode cX4_readFigure 73 = .ok (.aload_n 0, 1) := kd_dk0 kd_o42 kd_ncX4_readFigure rfl
theorem dX4_readFigure_74 : decode cX4_readFigure 74 = .ok (.bipush 9, 2) := kd_dj1 kd_o16 (w := 9) kd_ncX4_readFigure rfl rfl
theorem dX4_readFigure_76 : decode cX4_readFigure 76 = .ok (.invokevirtual 85, 3) := kd_dk2 kd_o182 kd_ncX4_readFigure rfl
theorem dX4_readFigure_79 : decode cX4_readFigure 79 = .ok (.istore 8, 2) := kd_dk1 kd_o54 kd_ncX4_readFigure rfl
theorem dX4_readFigure_81 : decode cX4_readFigure 81 = .ok (.aload_n 0, 1) := kd_dk0 kd_o42 kd_ncX4_readFigure rfl
theorem dX4_readFigure_82 : decode cX4_readFigure 82 = .ok (.bipush 59, 2) := kd_dj1 kd_o16 (w := 59) kd_ncX4_readFigure rfl rfl
theorem dX4_readFigure_84 : decode cX4_readFigure 84 = .ok (.invokevirtual 92, 3) := kd_dk2 kd_o182 kd_ncX4_readFigure rfl
theorem dX4_readFigure_87 : decode cX4_readFigure 87 = .ok (.iload_n 2, 1) := kd_dk0 kd_o28 kd_ncX4_readFigure rfl
theorem dX4_readFigure_88 : decode cX4_readFigure 88 = .ok (.ifCond .eq 18, 3) := kd_dj2 kd_o153 (w := 18) kd_ncX4_readFigure rfl rfl
theorem dX4_readFigure_91 : decode cX4_readFigure 91 = .ok (.aload_n 1, 1) := kd_dk0 kd_o43 kd_ncX4_readFigure rfl
theorem dX4_readFigure_92 : decode cX4_readFigure 92 = .ok (.lload 4, 2) := kd_dk1 kd_o22 kd_ncX4_readFigure rfl
theorem dX4_readFigure_94 : decode cX4_readFigure 94 = .ok (.iload 6, 2) := kd_dk1 kd_o21 kd_ncX4_readFigure rfl
theorem dX4_readFigure_96 : decode cX4_readFigure 96 = .ok (.iload 7, 2) := kd_dk1 kd_o21 kd_ncX4_readFigure rfl
theorem dX4_readFigure_98 : decode cX4_readFigure 98 = .ok (.iload 8, 2) := kd_dk1 kd_o21 kd_ncX4_readFigure rfl
theorem dX4_readFigure_100 : decode cX4_readFigure 100 = .ok (.invokevirtual 108, 3) := kd_dk2 kd_o182 kd_ncX4_readFigure rfl
theorem dX4_readFigure_103 : decode cX4_readFigure 103 = .ok (.goto 15, 3) := kd_dj2 kd_o167 (w := 15) kd_ncX4_readFigure rfl rfl
theorem dX4_readFigure_106 : decode cX4_readFigure 106 = .ok (.aload_n 1, 1) := kd_dk0 kd_o43 kd_ncX4_readFigure rfl
theorem dX4_readFigure_107 : decode cX4_readFigure 107 = .ok (.lload 4, 2) := kd_dk1 kd_o22 kd_ncX4_readFigure rfl
theorem dX4_readFigure_109 : decode cX4_readFigure 109 = .ok (.iload 6, 2) := kd_dk1 kd_o21 kd_ncX4_readFigure rfl
theorem dX4_readFigure_111 : decode cX4_readFigure 111 = .ok (.iload 7, 2) := kd_dk1 kd_o21 kd_ncX4_readFigure rfl
theorem dX4_readFigure_113 : decode cX4_readFigure 113 = .ok (.iload 8, 2) := kd_dk1 kd_o21 kd_ncX4_readFigure rfl
theorem dX4_readFigure_115 : decode cX4_readFigure 115 = .ok (.invokevirtual 112, 3) := kd_dk2 kd_o182 kd_ncX4_readFigure rfl
theorem dX4_readFigure_118 : decode cX4_readFigure 118 = .ok (.return_, 1) := kd_dk0 kd_o177 kd_ncX4_readFigure rfl
set_option maxHeartbeats 8000000 in
set_option maxRecDepth 100000 in
theorem c_greadFigure (l : Launch) (G : zz_G) (h1 : Nat) (h2 : Nat) (h0 : Nat) (a1 : Nat) (a2 : Nat) (a3 : Nat) (a4 : Nat) (wm : Nat) (atn : Nat) (ft : Int32) (fq : Int32) (lf : Int32) (lq : Int32) (so_ : Nat → Int32) (pl_ : Nat → Int32) (nu_ : Nat → Int32) (sp_ : Nat → Int64) (wc : Nat → Int32) (sc : Nat) (s1 : Nat) (s2 : Nat) (s3 : Nat) (s4 : Nat) (s5 : Nat) (s6 : Nat) (s7 : Nat) (s8 : Nat) (s9 : Nat) (pp : Nat) (pq : Nat) (i3 : Int32) (i4 : Int32) (nf : Nat → Int64) (m2 : Nat → Int32) (m3 : Nat → Int32) (m4 : Nat → Int32) (m5 : Nat → Int32) (m6 : Nat → Int32) (m7 : Nat → Int32) (isp : Int32) (hat : atn ≤ 400) (hwm : wm ≤ 32) (htk : ∀ j, j < 401 → so_ j = 3 → zz_nok (nu_ j)) (hpp : pp ≤ 7) (hpq : pq ≤ 6) : zz_M l G mX4_readFigure 4 0 0 [.ref h1, .ref sc, .int isp] [(h1, .inr (4, [.ref h0, .ref h2, .int (nI wm), .int (nI atn), .int ft, .int fq, .int lf, .int lq])), (h0, .inr (7, [.ref a1, .ref a2, .ref a3, .ref a4])), (a1, .inl (G.2 0, 401, .inl so_)), (a2, .inl (G.2 0, 401, .inl pl_)), (a3, .inl (G.2 0, 401, .inl nu_)), (a4, .inl (G.2 3, 401, .inr (.inl sp_))), (h2, .inl (G.2 0, 32, .inl wc)), (sc, .inr (5, [.ref s1, .ref s2, .ref s3, .ref s4, .ref s5, .ref s6, .ref s7, .ref s8, .ref s9, .int (nI pp), .int (nI pq), .int i3, .int i4])), (s1, .inl (G.2 3, 13, .inr (.inl nf))), (s2, .inl (G.2 0, 7, .inl m2)), (s3, .inl (G.2 0, 7, .inl m3)), (s4, .inl (G.2 0, 7, .inl m4)), (s5, .inl (G.2 0, 6, .inl m5)), (s6, .inl (G.2 0, 6, .inl m6)), (s7, .inl (G.2 0, 6, .inl m7))] (fun rr u => ∃ (at2 : Nat), ∃ (ft2 : Int32), ∃ (fq2 : Int32), ∃ (lf2 : Int32), ∃ (lq2 : Int32), ∃ (pp2 : Nat), ∃ (pq2 : Nat), ∃ (nf2 : Nat → Int64), ∃ (mm2 : Nat → Int32), ∃ (mm3 : Nat → Int32), ∃ (mm4 : Nat → Int32), ∃ (mm5 : Nat → Int32), ∃ (mm6 : Nat → Int32), ∃ (mm7 : Nat → Int32), rr = none ∧ u = [(h1, .inr (4, [.ref h0, .ref h2, .int (nI wm), .int (nI at2), .int ft2, .int fq2, .int lf2, .int lq2])), (h0, .inr (7, [.ref a1, .ref a2, .ref a3, .ref a4])), (a1, .inl (G.2 0, 401, .inl so_)), (a2, .inl (G.2 0, 401, .inl pl_)), (a3, .inl (G.2 0, 401, .inl nu_)), (a4, .inl (G.2 3, 401, .inr (.inl sp_))), (h2, .inl (G.2 0, 32, .inl wc)), (sc, .inr (5, [.ref s1, .ref s2, .ref s3, .ref s4, .ref s5, .ref s6, .ref s7, .ref s8, .ref s9, .int (nI pp2), .int (nI pq2), .int i3, .int i4])), (s1, .inl (G.2 3, 13, .inr (.inl nf2))), (s2, .inl (G.2 0, 7, .inl mm2)), (s3, .inl (G.2 0, 7, .inl mm3)), (s4, .inl (G.2 0, 7, .inl mm4)), (s5, .inl (G.2 0, 6, .inl mm5)), (s6, .inl (G.2 0, 6, .inl mm6)), (s7, .inl (G.2 0, 6, .inl mm7))] ∧ (at2 ≤ 400) ∧ (pp2 ≤ 7) ∧ (pq2 ≤ 6) ∧ ((¬ isp = 0 → zs_fig (zs_later pl_) so_ pl_ nu_ (fun j => zs_has nf (sp_ j) (pp + pq)) (pp = 7) (zs_of atn ft fq lf lq) = (zs_of at2 ft2 fq2 lf2 lq2)) ∧ (isp = 0 → zs_fig (zs_later pl_) so_ pl_ nu_ (fun j => zs_has nf (sp_ j) (pp + pq)) (pq = 6) (zs_of atn ft fq lf lq) = (zs_of at2 ft2 fq2 lf2 lq2))) ∧ (ft2 = 0 → (nf2 = vp_updL nf (pp + pq) (sp_ (atn + 1)) ∧ ((¬ isp = 0 ∧ pp2 = pp + 1 ∧ pq2 = pq) ∨ (isp = 0 ∧ pp2 = pp ∧ pq2 = pq + 1)))) ∧ (ft2 = 0 → ((¬ isp = 0 ∧ mm2 = upd m2 pp (nu_ (atn + 2)) ∧ mm3 = upd m3 pp (nu_ (atn + 3)) ∧ mm4 = upd m4 pp (nu_ (atn + 4)) ∧ mm5 = m5 ∧ mm6 = m6 ∧ mm7 = m7) ∨ (isp = 0 ∧ mm5 = upd m5 pq (nu_ (atn + 2)) ∧ mm6 = upd m6 pq (nu_ (atn + 3)) ∧ mm7 = upd m7 pq (nu_ (atn + 4)) ∧ mm2 = m2 ∧ mm3 = m3 ∧ mm4 = m4)))) := by
  refine zz_enterv (by decide +kernel) (Nat.le_of_ble_eq_true rfl) ?_
  intro p e s m args below meth c A Q ls S hnm hret hw hl
  have hl : lv_has ls 9 [(0, .ref h1), (1, .ref sc), (2, .int isp)] := hl
  have hx := S.1
  have hb := S.2.1
  refine lv_iload_n hx hb dX4_readFigure_0 rfl (lv_at hl 2 rfl) ?_
  refine lv_if_eq (tgt := 21) hx hb dX4_readFigure_1 (by decide) (fun c1_1 => ?_) (fun c1_1 => ?_)
  · skip
    refine lv_aload_n hx hb dX4_readFigure_21 rfl (lv_at hl 1 rfl) ?_
    refine zz_get (v := .int (nI pq)) S hw fgX4_101 7 rfl rfl dX4_readFigure_22 ?_
    refine lv_bipush (v := 6) hx hb dX4_readFigure_25 (by decide) ?_
    refine lv_icmp_ge (tgt := 34) hx hb dX4_readFigure_27 (by decide) (fun c27_2 => ?_) (fun c27_2 => ?_)
    · skip
      have c27_2n : 6 ≤ pq := (zz_le (a := 6) (b := pq) rfl rfl (by omega) (by omega)).mp c27_2
      refine lv_iconst (v := 0) hx hb dX4_readFigure_34 (by decide) ?_
      refine lv_istore_n (lv' := [(3, .int 0), (0, .ref h1), (1, .ref sc), (2, .int isp)]) hx hb dX4_readFigure_35 rfl hl (by decide) rfl (fun ls hl => ?_)
      refine lv_iload_n hx hb dX4_readFigure_36 rfl (lv_at hl 0 rfl) ?_
      refine lv_if_ne (tgt := 46) hx hb dX4_readFigure_37 (by decide) (fun cc => absurd cc (by decide)) (fun _ => ?_)
      refine lv_aload_n hx hb dX4_readFigure_40 rfl (lv_at hl 1 rfl) ?_
      refine lv_iconst (v := 2) hx hb dX4_readFigure_41 (by decide) ?_
      refine zz_callV (qb := 0) (As := [.int 2]) (rest := []) (wr := [(sc, .inr (5, [.ref s1, .ref s2, .ref s3, .ref s4, .ref s5, .ref s6, .ref s7, .ref s8, .ref s9, .int (nI pp), .int (nI pq), .int i3, .int i4])), (s1, .inl (G.2 3, 13, .inr (.inl nf))), (s2, .inl (G.2 0, 7, .inl m2)), (s3, .inl (G.2 0, 7, .inl m3)), (s4, .inl (G.2 0, 7, .inl m4)), (s5, .inl (G.2 0, 6, .inl m5)), (s6, .inl (G.2 0, 6, .inl m6)), (s7, .inl (G.2 0, 6, .inl m7))]) S hw hl.1 lX4_66 (c_gfail l G h1 h2 h0 a1 a2 a3 a4 wm atn ft fq lf lq so_ pl_ nu_ sp_ wc 2 (by first | assumption | omega | (unfold zz_sok; decide) | decide) (by first | assumption | omega | (unfold zz_sok; decide) | decide) (by first | assumption | omega | (unfold zz_sok; decide) | decide) (by first | assumption | omega | (unfold zz_sok; decide) | decide)) ⟨Nat.le_of_ble_eq_true rfl, Nat.le_of_ble_eq_true rfl⟩ ⟨Nat.le_of_ble_eq_true rfl, Nat.le_of_ble_eq_true rfl⟩ [0, 1, 2, 3, 4, 5, 6] [7, 8, 9, 10, 11, 12, 13, 14] (by decide) rfl rfl (by decide) (by decide) rfl rfl rfl rfl (Nat.le_of_ble_eq_true rfl) dX4_readFigure_42 ?_
      clear hw
      intro rr u H locs hp hw
      refine hp.elim fun ft2_3 zg0 => zg0.elim fun fq2_4 zg1 => zg1.elim fun lf2_5 zg2 => zg2.elim fun lq2_6 zg3 => zg3.elim fun zee1 zg4 => zg4.elim fun zee2 hq42_0 => ?_
      clear hp zg0 zg1 zg2 zg3 zg4
      subst zee1
      subst zee2
      replace hw : zz_w G A s [(sc, .inr (5, [.ref s1, .ref s2, .ref s3, .ref s4, .ref s5, .ref s6, .ref s7, .ref s8, .ref s9, .int (nI pp), .int (nI pq), .int i3, .int i4])), (s1, .inl (G.2 3, 13, .inr (.inl nf))), (s2, .inl (G.2 0, 7, .inl m2)), (s3, .inl (G.2 0, 7, .inl m3)), (s4, .inl (G.2 0, 7, .inl m4)), (s5, .inl (G.2 0, 6, .inl m5)), (s6, .inl (G.2 0, 6, .inl m6)), (s7, .inl (G.2 0, 6, .inl m7)), (h1, .inr (4, [.ref h0, .ref h2, .int (nI wm), .int (nI atn), .int ft2_3, .int fq2_4, .int lf2_5, .int lq2_6])), (h0, .inr (7, [.ref a1, .ref a2, .ref a3, .ref a4])), (a1, .inl (G.2 0, 401, .inl so_)), (a2, .inl (G.2 0, 401, .inl pl_)), (a3, .inl (G.2 0, 401, .inl nu_)), (a4, .inl (G.2 3, 401, .inr (.inl sp_))), (h2, .inl (G.2 0, 32, .inl wc))] H _ := hw
      refine W.eq (g2 := F0 m 45 ls []) rfl ?_
      exact hret _ _ _ _ _ ⟨atn, ft2_3, fq2_4, lf2_5, lq2_6, pp, pq, nf, m2, m3, m4, m5, m6, m7, rfl, rfl, (by first | assumption | omega), (by first | assumption | omega), (by first | assumption | omega), (by first | exact ⟨fun _ => zs_fig_n (by omega) hq42_0, fun z => absurd z (by assumption)⟩ | exact ⟨fun z => absurd (by assumption) z, fun _ => zs_fig_n (by omega) hq42_0⟩ | exact ⟨fun _ => zs_fig_y (by omega) hq47_1 hq52_2 hq60_2 hq68_2 hq76_2 hq84_1, fun z => absurd z (by assumption)⟩ | exact ⟨fun z => absurd (by assumption) z, fun _ => zs_fig_y (by omega) hq47_1 hq52_2 hq60_2 hq68_2 hq76_2 hq84_1⟩), (by first | exact fun z => absurd z (zs_fail_d hq42_0) | exact fun z => ⟨(hq100_2 (by omega)).2.2.trans (by rw [hq52_1, zs_chain hq47_1 hq52_2 hq60_2 hq68_2 hq76_2 hq84_1 z]), Or.inl ⟨by assumption, (hq100_2 (by omega)).1, (hq100_2 (by omega)).2.1⟩⟩ | exact fun z => ⟨(hq115_2 (by omega)).2.2.trans (by rw [hq52_1, zs_chain hq47_1 hq52_2 hq60_2 hq68_2 hq76_2 hq84_1 z]), Or.inr ⟨by assumption, (hq115_2 (by omega)).1, (hq115_2 (by omega)).2.1⟩⟩), (by first | exact fun z => absurd z (zs_fail_d hq42_0) | exact fun z => Or.inl ⟨by assumption, zs_figv (hq100_3 (by omega)) hq60_1 hq68_1 hq76_1 (zs_chain2 zs_Lp1 hq47_1 hq52_2 hq60_2 hq68_2 hq76_2 hq84_1 z)⟩ | exact fun z => Or.inr ⟨by assumption, zs_figv (hq115_3 (by omega)) hq60_1 hq68_1 hq76_1 (zs_chain2 zs_Lp1 hq47_1 hq52_2 hq60_2 hq68_2 hq76_2 hq84_1 z)⟩)⟩ (hw.sub [8, 9, 10, 11, 12, 13, 14, 0, 1, 2, 3, 4, 5, 6, 7] (by decide +kernel) rfl) dX4_readFigure_45
    · skip
      have c27_2n : ¬ (6 ≤ pq) := fun z => c27_2 ((zz_le (a := 6) (b := pq) rfl rfl (by omega) (by omega)).mpr z)
      refine lv_iconst (v := 1) hx hb dX4_readFigure_30 (by decide) ?_
      refine lv_goto (tgt := 35) hx hb dX4_readFigure_31 (by decide) ?_
      refine lv_istore_n (lv' := [(3, .int 1), (0, .ref h1), (1, .ref sc), (2, .int isp)]) hx hb dX4_readFigure_35 rfl hl (by decide) rfl (fun ls hl => ?_)
      refine W.eq (g2 := F0 m 36 ls []) rfl ?_
      refine lv_iload_n hx hb dX4_readFigure_36 rfl (lv_at hl 0 rfl) ?_
      refine lv_if_ne (tgt := 46) hx hb dX4_readFigure_37 (by decide) (fun _ => ?_) (fun cc => absurd cc (by decide))
      refine lv_aload_n hx hb dX4_readFigure_46 rfl (lv_at hl 1 rfl) ?_
      refine zz_callV (qb := 0) (As := []) (rest := []) (wr := [(sc, .inr (5, [.ref s1, .ref s2, .ref s3, .ref s4, .ref s5, .ref s6, .ref s7, .ref s8, .ref s9, .int (nI pp), .int (nI pq), .int i3, .int i4])), (s1, .inl (G.2 3, 13, .inr (.inl nf))), (s2, .inl (G.2 0, 7, .inl m2)), (s3, .inl (G.2 0, 7, .inl m3)), (s4, .inl (G.2 0, 7, .inl m4)), (s5, .inl (G.2 0, 6, .inl m5)), (s6, .inl (G.2 0, 6, .inl m6)), (s7, .inl (G.2 0, 6, .inl m7))]) S hw hl.1 lX4_70 (c_gtake l G h1 h2 h0 a1 a2 a3 a4 wm atn ft fq lf lq so_ pl_ nu_ sp_ wc (by first | assumption | omega | (unfold zz_sok; decide) | decide) (by first | assumption | omega | (unfold zz_sok; decide) | decide) (by first | assumption | omega | (unfold zz_sok; decide) | decide)) ⟨Nat.le_of_ble_eq_true rfl, Nat.le_of_ble_eq_true rfl⟩ ⟨Nat.le_of_ble_eq_true rfl, Nat.le_of_ble_eq_true rfl⟩ [0, 1, 2, 3, 4, 5, 6] [7, 8, 9, 10, 11, 12, 13, 14] (by decide) rfl rfl (by decide) (by decide) rfl rfl rfl rfl (Nat.le_of_ble_eq_true rfl) dX4_readFigure_47 ?_
      clear hw
      intro rr u H locs hp hw
      refine hp.elim fun at2_7 zg0 => zg0.elim fun ft2_8 zg1 => zg1.elim fun fq2_9 zg2 => zg2.elim fun lf2_10 zg3 => zg3.elim fun lq2_11 zg4 => zg4.elim fun zee1 zg5 => zg5.elim fun zee2 zg6 => zg6.elim fun hq47_0 hq47_1 => ?_
      clear hp zg0 zg1 zg2 zg3 zg4 zg5 zg6
      subst zee1
      subst zee2
      replace hw : zz_w G A s [(sc, .inr (5, [.ref s1, .ref s2, .ref s3, .ref s4, .ref s5, .ref s6, .ref s7, .ref s8, .ref s9, .int (nI pp), .int (nI pq), .int i3, .int i4])), (s1, .inl (G.2 3, 13, .inr (.inl nf))), (s2, .inl (G.2 0, 7, .inl m2)), (s3, .inl (G.2 0, 7, .inl m3)), (s4, .inl (G.2 0, 7, .inl m4)), (s5, .inl (G.2 0, 6, .inl m5)), (s6, .inl (G.2 0, 6, .inl m6)), (s7, .inl (G.2 0, 6, .inl m7)), (h1, .inr (4, [.ref h0, .ref h2, .int (nI wm), .int (nI at2_7), .int ft2_8, .int fq2_9, .int lf2_10, .int lq2_11])), (h0, .inr (7, [.ref a1, .ref a2, .ref a3, .ref a4])), (a1, .inl (G.2 0, 401, .inl so_)), (a2, .inl (G.2 0, 401, .inl pl_)), (a3, .inl (G.2 0, 401, .inl nu_)), (a4, .inl (G.2 3, 401, .inr (.inl sp_))), (h2, .inl (G.2 0, 32, .inl wc))] H _ := hw
      refine W.eq (g2 := F0 m 50 ls []) rfl ?_
      refine lv_aload_n hx hb dX4_readFigure_50 rfl (lv_at hl 1 rfl) ?_
      refine lv_aload_n hx hb dX4_readFigure_51 rfl (lv_at hl 2 rfl) ?_
      refine zz_callV (qb := 8) (As := [.ref sc]) (rest := []) (wr := [(s2, .inl (G.2 0, 7, .inl m2)), (s3, .inl (G.2 0, 7, .inl m3)), (s4, .inl (G.2 0, 7, .inl m4)), (s5, .inl (G.2 0, 6, .inl m5)), (s6, .inl (G.2 0, 6, .inl m6)), (s7, .inl (G.2 0, 6, .inl m7))]) S hw hl.1 lX4_104 (c_greadName l G h1 h2 h0 a1 a2 a3 a4 wm at2_7 ft2_8 fq2_9 lf2_10 lq2_11 so_ pl_ nu_ sp_ wc sc s1 s2 s3 s4 s5 s6 s7 s8 s9 pp pq i3 i4 nf (by first | assumption | omega | (unfold zz_sok; decide) | decide) (by first | assumption | omega | (unfold zz_sok; decide) | decide) (by first | assumption | omega | (unfold zz_sok; decide) | decide) (by first | assumption | omega | (unfold zz_sok; decide) | decide) (by first | assumption | omega | (unfold zz_sok; decide) | decide)) ⟨Nat.le_of_ble_eq_true rfl, Nat.le_of_ble_eq_true rfl⟩ ⟨Nat.le_of_ble_eq_true rfl, Nat.le_of_ble_eq_true rfl⟩ [8, 9, 10, 11, 12, 13, 14, 0, 1] [2, 3, 4, 5, 6, 7] (by decide) rfl rfl (by decide) (by decide) rfl rfl rfl rfl (Nat.le_of_ble_eq_true rfl) dX4_readFigure_52 ?_
      clear hw
      intro rr u H locs hp hw
      refine hp.elim fun rv_12 zg0 => zg0.elim fun at2_13 zg1 => zg1.elim fun ft2_14 zg2 => zg2.elim fun fq2_15 zg3 => zg3.elim fun lf2_16 zg4 => zg4.elim fun lq2_17 zg5 => zg5.elim fun zee1 zg6 => zg6.elim fun zee2 zg7 => zg7.elim fun hq52_0 zg8 => zg8.elim fun hq52_1 hq52_2 => ?_
      clear hp zg0 zg1 zg2 zg3 zg4 zg5 zg6 zg7 zg8
      subst zee1
      subst zee2
      replace hw : zz_w G A s [(s2, .inl (G.2 0, 7, .inl m2)), (s3, .inl (G.2 0, 7, .inl m3)), (s4, .inl (G.2 0, 7, .inl m4)), (s5, .inl (G.2 0, 6, .inl m5)), (s6, .inl (G.2 0, 6, .inl m6)), (s7, .inl (G.2 0, 6, .inl m7)), (h1, .inr (4, [.ref h0, .ref h2, .int (nI wm), .int (nI at2_13), .int ft2_14, .int fq2_15, .int lf2_16, .int lq2_17])), (h0, .inr (7, [.ref a1, .ref a2, .ref a3, .ref a4])), (a1, .inl (G.2 0, 401, .inl so_)), (a2, .inl (G.2 0, 401, .inl pl_)), (a3, .inl (G.2 0, 401, .inl nu_)), (a4, .inl (G.2 3, 401, .inr (.inl sp_))), (h2, .inl (G.2 0, 32, .inl wc)), (sc, .inr (5, [.ref s1, .ref s2, .ref s3, .ref s4, .ref s5, .ref s6, .ref s7, .ref s8, .ref s9, .int (nI pp), .int (nI pq), .int i3, .int i4])), (s1, .inl (G.2 3, 13, .inr (.inl nf)))] H _ := hw
      refine W.eq (g2 := F0 m 55 ls [.long rv_12]) rfl ?_
      refine lv_lstore (lv' := [(4, .long rv_12), (3, .int 1), (0, .ref h1), (1, .ref sc), (2, .int isp)]) hx hb dX4_readFigure_55 hl (by decide) rfl (fun ls hl => ?_)
      refine lv_aload_n hx hb dX4_readFigure_57 rfl (lv_at hl 2 rfl) ?_
      refine lv_bipush (v := 23) hx hb dX4_readFigure_58 (by decide) ?_
      refine zz_callV (qb := 6) (As := [.int 23]) (rest := []) (wr := [(s2, .inl (G.2 0, 7, .inl m2)), (s3, .inl (G.2 0, 7, .inl m3)), (s4, .inl (G.2 0, 7, .inl m4)), (s5, .inl (G.2 0, 6, .inl m5)), (s6, .inl (G.2 0, 6, .inl m6)), (s7, .inl (G.2 0, 6, .inl m7)), (sc, .inr (5, [.ref s1, .ref s2, .ref s3, .ref s4, .ref s5, .ref s6, .ref s7, .ref s8, .ref s9, .int (nI pp), .int (nI pq), .int i3, .int i4])), (s1, .inl (G.2 3, 13, .inr (.inl nf)))]) S hw hl.1 lX4_85 (c_greadNumber l G h1 h2 h0 a1 a2 a3 a4 wm at2_13 ft2_14 fq2_15 lf2_16 lq2_17 so_ pl_ nu_ sp_ wc 23 (by first | assumption | omega | (unfold zz_sok; decide) | decide) (by first | assumption | omega | (unfold zz_sok; decide) | decide) (by first | assumption | omega | (unfold zz_sok; decide) | decide)) ⟨Nat.le_of_ble_eq_true rfl, Nat.le_of_ble_eq_true rfl⟩ ⟨Nat.le_of_ble_eq_true rfl, Nat.le_of_ble_eq_true rfl⟩ [6, 7, 8, 9, 10, 11, 12] [0, 1, 2, 3, 4, 5, 13, 14] (by decide) rfl rfl (by decide) (by decide) rfl rfl rfl rfl (Nat.le_of_ble_eq_true rfl) dX4_readFigure_60 ?_
      clear hw
      intro rr u H locs hp hw
      refine hp.elim fun rv_18 zg0 => zg0.elim fun at2_19 zg1 => zg1.elim fun ft2_20 zg2 => zg2.elim fun fq2_21 zg3 => zg3.elim fun lf2_22 zg4 => zg4.elim fun lq2_23 zg5 => zg5.elim fun zee1 zg6 => zg6.elim fun zee2 zg7 => zg7.elim fun hq60_0 zg8 => zg8.elim fun hq60_1 hq60_2 => ?_
      clear hp zg0 zg1 zg2 zg3 zg4 zg5 zg6 zg7 zg8
      subst zee1
      subst zee2
      replace hw : zz_w G A s [(s2, .inl (G.2 0, 7, .inl m2)), (s3, .inl (G.2 0, 7, .inl m3)), (s4, .inl (G.2 0, 7, .inl m4)), (s5, .inl (G.2 0, 6, .inl m5)), (s6, .inl (G.2 0, 6, .inl m6)), (s7, .inl (G.2 0, 6, .inl m7)), (sc, .inr (5, [.ref s1, .ref s2, .ref s3, .ref s4, .ref s5, .ref s6, .ref s7, .ref s8, .ref s9, .int (nI pp), .int (nI pq), .int i3, .int i4])), (s1, .inl (G.2 3, 13, .inr (.inl nf))), (h1, .inr (4, [.ref h0, .ref h2, .int (nI wm), .int (nI at2_19), .int ft2_20, .int fq2_21, .int lf2_22, .int lq2_23])), (h0, .inr (7, [.ref a1, .ref a2, .ref a3, .ref a4])), (a1, .inl (G.2 0, 401, .inl so_)), (a2, .inl (G.2 0, 401, .inl pl_)), (a3, .inl (G.2 0, 401, .inl nu_)), (a4, .inl (G.2 3, 401, .inr (.inl sp_))), (h2, .inl (G.2 0, 32, .inl wc))] H _ := hw
      refine W.eq (g2 := F0 m 63 ls [.int rv_18]) rfl ?_
      refine lv_istore (lv' := [(6, .int rv_18), (4, .long rv_12), (3, .int 1), (0, .ref h1), (1, .ref sc), (2, .int isp)]) hx hb dX4_readFigure_63 hl (by decide) rfl (fun ls hl => ?_)
      refine lv_aload_n hx hb dX4_readFigure_65 rfl (lv_at hl 3 rfl) ?_
      refine lv_bipush (v := 9) hx hb dX4_readFigure_66 (by decide) ?_
      refine W.eq (g2 := F0 m 68 ls [.int 9, .ref h1]) rfl ?_
      refine zz_callV (qb := 8) (As := [.int 9]) (rest := []) (wr := [(s2, .inl (G.2 0, 7, .inl m2)), (s3, .inl (G.2 0, 7, .inl m3)), (s4, .inl (G.2 0, 7, .inl m4)), (s5, .inl (G.2 0, 6, .inl m5)), (s6, .inl (G.2 0, 6, .inl m6)), (s7, .inl (G.2 0, 6, .inl m7)), (sc, .inr (5, [.ref s1, .ref s2, .ref s3, .ref s4, .ref s5, .ref s6, .ref s7, .ref s8, .ref s9, .int (nI pp), .int (nI pq), .int i3, .int i4])), (s1, .inl (G.2 3, 13, .inr (.inl nf)))]) S hw hl.1 lX4_85 (c_greadNumber l G h1 h2 h0 a1 a2 a3 a4 wm at2_19 ft2_20 fq2_21 lf2_22 lq2_23 so_ pl_ nu_ sp_ wc 9 (by first | assumption | omega | (unfold zz_sok; decide) | decide) (by first | assumption | omega | (unfold zz_sok; decide) | decide) (by first | assumption | omega | (unfold zz_sok; decide) | decide)) ⟨Nat.le_of_ble_eq_true rfl, Nat.le_of_ble_eq_true rfl⟩ ⟨Nat.le_of_ble_eq_true rfl, Nat.le_of_ble_eq_true rfl⟩ [8, 9, 10, 11, 12, 13, 14] [0, 1, 2, 3, 4, 5, 6, 7] (by decide) rfl rfl (by decide) (by decide) rfl rfl rfl rfl (Nat.le_of_ble_eq_true rfl) dX4_readFigure_68 ?_
      clear hw
      intro rr u H locs hp hw
      refine hp.elim fun rv_24 zg0 => zg0.elim fun at2_25 zg1 => zg1.elim fun ft2_26 zg2 => zg2.elim fun fq2_27 zg3 => zg3.elim fun lf2_28 zg4 => zg4.elim fun lq2_29 zg5 => zg5.elim fun zee1 zg6 => zg6.elim fun zee2 zg7 => zg7.elim fun hq68_0 zg8 => zg8.elim fun hq68_1 hq68_2 => ?_
      clear hp zg0 zg1 zg2 zg3 zg4 zg5 zg6 zg7 zg8
      subst zee1
      subst zee2
      replace hw : zz_w G A s [(s2, .inl (G.2 0, 7, .inl m2)), (s3, .inl (G.2 0, 7, .inl m3)), (s4, .inl (G.2 0, 7, .inl m4)), (s5, .inl (G.2 0, 6, .inl m5)), (s6, .inl (G.2 0, 6, .inl m6)), (s7, .inl (G.2 0, 6, .inl m7)), (sc, .inr (5, [.ref s1, .ref s2, .ref s3, .ref s4, .ref s5, .ref s6, .ref s7, .ref s8, .ref s9, .int (nI pp), .int (nI pq), .int i3, .int i4])), (s1, .inl (G.2 3, 13, .inr (.inl nf))), (h1, .inr (4, [.ref h0, .ref h2, .int (nI wm), .int (nI at2_25), .int ft2_26, .int fq2_27, .int lf2_28, .int lq2_29])), (h0, .inr (7, [.ref a1, .ref a2, .ref a3, .ref a4])), (a1, .inl (G.2 0, 401, .inl so_)), (a2, .inl (G.2 0, 401, .inl pl_)), (a3, .inl (G.2 0, 401, .inl nu_)), (a4, .inl (G.2 3, 401, .inr (.inl sp_))), (h2, .inl (G.2 0, 32, .inl wc))] H _ := hw
      refine W.eq (g2 := F0 m 71 ls [.int rv_24]) rfl ?_
      refine lv_istore (lv' := [(7, .int rv_24), (6, .int rv_18), (4, .long rv_12), (3, .int 1), (0, .ref h1), (1, .ref sc), (2, .int isp)]) hx hb dX4_readFigure_71 hl (by decide) rfl (fun ls hl => ?_)
      refine lv_aload_n hx hb dX4_readFigure_73 rfl (lv_at hl 4 rfl) ?_
      refine lv_bipush (v := 9) hx hb dX4_readFigure_74 (by decide) ?_
      refine zz_callV (qb := 8) (As := [.int 9]) (rest := []) (wr := [(s2, .inl (G.2 0, 7, .inl m2)), (s3, .inl (G.2 0, 7, .inl m3)), (s4, .inl (G.2 0, 7, .inl m4)), (s5, .inl (G.2 0, 6, .inl m5)), (s6, .inl (G.2 0, 6, .inl m6)), (s7, .inl (G.2 0, 6, .inl m7)), (sc, .inr (5, [.ref s1, .ref s2, .ref s3, .ref s4, .ref s5, .ref s6, .ref s7, .ref s8, .ref s9, .int (nI pp), .int (nI pq), .int i3, .int i4])), (s1, .inl (G.2 3, 13, .inr (.inl nf)))]) S hw hl.1 lX4_85 (c_greadNumber l G h1 h2 h0 a1 a2 a3 a4 wm at2_25 ft2_26 fq2_27 lf2_28 lq2_29 so_ pl_ nu_ sp_ wc 9 (by first | assumption | omega | (unfold zz_sok; decide) | decide) (by first | assumption | omega | (unfold zz_sok; decide) | decide) (by first | assumption | omega | (unfold zz_sok; decide) | decide)) ⟨Nat.le_of_ble_eq_true rfl, Nat.le_of_ble_eq_true rfl⟩ ⟨Nat.le_of_ble_eq_true rfl, Nat.le_of_ble_eq_true rfl⟩ [8, 9, 10, 11, 12, 13, 14] [0, 1, 2, 3, 4, 5, 6, 7] (by decide) rfl rfl (by decide) (by decide) rfl rfl rfl rfl (Nat.le_of_ble_eq_true rfl) dX4_readFigure_76 ?_
      clear hw
      intro rr u H locs hp hw
      refine hp.elim fun rv_30 zg0 => zg0.elim fun at2_31 zg1 => zg1.elim fun ft2_32 zg2 => zg2.elim fun fq2_33 zg3 => zg3.elim fun lf2_34 zg4 => zg4.elim fun lq2_35 zg5 => zg5.elim fun zee1 zg6 => zg6.elim fun zee2 zg7 => zg7.elim fun hq76_0 zg8 => zg8.elim fun hq76_1 hq76_2 => ?_
      clear hp zg0 zg1 zg2 zg3 zg4 zg5 zg6 zg7 zg8
      subst zee1
      subst zee2
      replace hw : zz_w G A s [(s2, .inl (G.2 0, 7, .inl m2)), (s3, .inl (G.2 0, 7, .inl m3)), (s4, .inl (G.2 0, 7, .inl m4)), (s5, .inl (G.2 0, 6, .inl m5)), (s6, .inl (G.2 0, 6, .inl m6)), (s7, .inl (G.2 0, 6, .inl m7)), (sc, .inr (5, [.ref s1, .ref s2, .ref s3, .ref s4, .ref s5, .ref s6, .ref s7, .ref s8, .ref s9, .int (nI pp), .int (nI pq), .int i3, .int i4])), (s1, .inl (G.2 3, 13, .inr (.inl nf))), (h1, .inr (4, [.ref h0, .ref h2, .int (nI wm), .int (nI at2_31), .int ft2_32, .int fq2_33, .int lf2_34, .int lq2_35])), (h0, .inr (7, [.ref a1, .ref a2, .ref a3, .ref a4])), (a1, .inl (G.2 0, 401, .inl so_)), (a2, .inl (G.2 0, 401, .inl pl_)), (a3, .inl (G.2 0, 401, .inl nu_)), (a4, .inl (G.2 3, 401, .inr (.inl sp_))), (h2, .inl (G.2 0, 32, .inl wc))] H _ := hw
      refine W.eq (g2 := F0 m 79 ls [.int rv_30]) rfl ?_
      refine lv_istore (lv' := [(8, .int rv_30), (7, .int rv_24), (6, .int rv_18), (4, .long rv_12), (3, .int 1), (0, .ref h1), (1, .ref sc), (2, .int isp)]) hx hb dX4_readFigure_79 hl (by decide) rfl (fun ls hl => ?_)
      refine lv_aload_n hx hb dX4_readFigure_81 rfl (lv_at hl 5 rfl) ?_
      refine lv_bipush (v := 59) hx hb dX4_readFigure_82 (by decide) ?_
      refine zz_callV (qb := 8) (As := [.int 59]) (rest := []) (wr := [(s2, .inl (G.2 0, 7, .inl m2)), (s3, .inl (G.2 0, 7, .inl m3)), (s4, .inl (G.2 0, 7, .inl m4)), (s5, .inl (G.2 0, 6, .inl m5)), (s6, .inl (G.2 0, 6, .inl m6)), (s7, .inl (G.2 0, 6, .inl m7)), (sc, .inr (5, [.ref s1, .ref s2, .ref s3, .ref s4, .ref s5, .ref s6, .ref s7, .ref s8, .ref s9, .int (nI pp), .int (nI pq), .int i3, .int i4])), (s1, .inl (G.2 3, 13, .inr (.inl nf)))]) S hw hl.1 lX4_92 (c_gexpect l G h1 h2 h0 a1 a2 a3 a4 wm at2_31 ft2_32 fq2_33 lf2_34 lq2_35 so_ pl_ nu_ sp_ wc 59 (by first | assumption | omega | (unfold zz_sok; decide) | decide) (by first | assumption | omega | (unfold zz_sok; decide) | decide) (by first | assumption | omega | (unfold zz_sok; decide) | decide)) ⟨Nat.le_of_ble_eq_true rfl, Nat.le_of_ble_eq_true rfl⟩ ⟨Nat.le_of_ble_eq_true rfl, Nat.le_of_ble_eq_true rfl⟩ [8, 9, 10, 11, 12, 13, 14] [0, 1, 2, 3, 4, 5, 6, 7] (by decide) rfl rfl (by decide) (by decide) rfl rfl rfl rfl (Nat.le_of_ble_eq_true rfl) dX4_readFigure_84 ?_
      clear hw
      intro rr u H locs hp hw
      refine hp.elim fun at2_36 zg0 => zg0.elim fun ft2_37 zg1 => zg1.elim fun fq2_38 zg2 => zg2.elim fun lf2_39 zg3 => zg3.elim fun lq2_40 zg4 => zg4.elim fun zee1 zg5 => zg5.elim fun zee2 zg6 => zg6.elim fun hq84_0 hq84_1 => ?_
      clear hp zg0 zg1 zg2 zg3 zg4 zg5 zg6
      subst zee1
      subst zee2
      replace hw : zz_w G A s [(s2, .inl (G.2 0, 7, .inl m2)), (s3, .inl (G.2 0, 7, .inl m3)), (s4, .inl (G.2 0, 7, .inl m4)), (s5, .inl (G.2 0, 6, .inl m5)), (s6, .inl (G.2 0, 6, .inl m6)), (s7, .inl (G.2 0, 6, .inl m7)), (sc, .inr (5, [.ref s1, .ref s2, .ref s3, .ref s4, .ref s5, .ref s6, .ref s7, .ref s8, .ref s9, .int (nI pp), .int (nI pq), .int i3, .int i4])), (s1, .inl (G.2 3, 13, .inr (.inl nf))), (h1, .inr (4, [.ref h0, .ref h2, .int (nI wm), .int (nI at2_36), .int ft2_37, .int fq2_38, .int lf2_39, .int lq2_40])), (h0, .inr (7, [.ref a1, .ref a2, .ref a3, .ref a4])), (a1, .inl (G.2 0, 401, .inl so_)), (a2, .inl (G.2 0, 401, .inl pl_)), (a3, .inl (G.2 0, 401, .inl nu_)), (a4, .inl (G.2 3, 401, .inr (.inl sp_))), (h2, .inl (G.2 0, 32, .inl wc))] H _ := hw
      refine W.eq (g2 := F0 m 87 ls []) rfl ?_
      refine lv_iload_n hx hb dX4_readFigure_87 rfl (lv_at hl 7 rfl) ?_
      refine lv_if_eq (tgt := 106) hx hb dX4_readFigure_88 (by decide) (fun _ => ?_) (fun cc => absurd c1_1 cc)
      refine lv_aload_n hx hb dX4_readFigure_106 rfl (lv_at hl 6 rfl) ?_
      refine lv_lload hx hb dX4_readFigure_107 (lv_at hl 3 rfl) ?_
      refine lv_iload hx hb dX4_readFigure_109 (lv_at hl 2 rfl) ?_
      refine W.eq (g2 := F0 m 111 ls [.int rv_18, .long rv_12, .ref sc]) rfl ?_
      refine lv_iload hx hb dX4_readFigure_111 (lv_at hl 1 rfl) ?_
      refine lv_iload hx hb dX4_readFigure_113 (lv_at hl 0 rfl) ?_
      refine zz_callV (qb := 6) (As := [.long rv_12, .int rv_18, .int rv_24, .int rv_30]) (rest := []) (wr := [(h1, .inr (4, [.ref h0, .ref h2, .int (nI wm), .int (nI at2_36), .int ft2_37, .int fq2_38, .int lf2_39, .int lq2_40])), (h0, .inr (7, [.ref a1, .ref a2, .ref a3, .ref a4])), (a1, .inl (G.2 0, 401, .inl so_)), (a2, .inl (G.2 0, 401, .inl pl_)), (a3, .inl (G.2 0, 401, .inl nu_)), (a4, .inl (G.2 3, 401, .inr (.inl sp_))), (h2, .inl (G.2 0, 32, .inl wc))]) S hw hl.1 lX4_112 (c_gaddPart l G sc s1 s2 s3 s4 s5 s6 s7 s8 s9 pp pq i3 i4 nf m2 m3 m4 m5 m6 m7 rv_12 rv_18 rv_24 rv_30 (by first | assumption | omega | (unfold zz_sok; decide) | decide) (by first | assumption | omega | (unfold zz_sok; decide) | decide)) ⟨Nat.le_of_ble_eq_true rfl, Nat.le_of_ble_eq_true rfl⟩ ⟨Nat.le_of_ble_eq_true rfl, Nat.le_of_ble_eq_true rfl⟩ [6, 7, 0, 1, 2, 3, 4, 5] [8, 9, 10, 11, 12, 13, 14] (by decide) rfl rfl (by decide) (by decide) rfl rfl rfl rfl (Nat.le_of_ble_eq_true rfl) dX4_readFigure_115 ?_
      clear hw
      intro rr u H locs hp hw
      refine hp.elim fun pp2_41 zg0 => zg0.elim fun pq2_42 zg1 => zg1.elim fun nf2_43 zg2 => zg2.elim fun mm2_44 zg3 => zg3.elim fun mm3_45 zg4 => zg4.elim fun mm4_46 zg5 => zg5.elim fun mm5_47 zg6 => zg6.elim fun mm6_48 zg7 => zg7.elim fun mm7_49 zg8 => zg8.elim fun zee1 zg9 => zg9.elim fun zee2 zg10 => zg10.elim fun hq115_0 zg11 => zg11.elim fun hq115_1 zg12 => zg12.elim fun hq115_2 hq115_3 => ?_
      clear hp zg0 zg1 zg2 zg3 zg4 zg5 zg6 zg7 zg8 zg9 zg10 zg11 zg12
      subst zee1
      subst zee2
      replace hw : zz_w G A s [(h1, .inr (4, [.ref h0, .ref h2, .int (nI wm), .int (nI at2_36), .int ft2_37, .int fq2_38, .int lf2_39, .int lq2_40])), (h0, .inr (7, [.ref a1, .ref a2, .ref a3, .ref a4])), (a1, .inl (G.2 0, 401, .inl so_)), (a2, .inl (G.2 0, 401, .inl pl_)), (a3, .inl (G.2 0, 401, .inl nu_)), (a4, .inl (G.2 3, 401, .inr (.inl sp_))), (h2, .inl (G.2 0, 32, .inl wc)), (sc, .inr (5, [.ref s1, .ref s2, .ref s3, .ref s4, .ref s5, .ref s6, .ref s7, .ref s8, .ref s9, .int (nI pp2_41), .int (nI pq2_42), .int i3, .int i4])), (s1, .inl (G.2 3, 13, .inr (.inl nf2_43))), (s2, .inl (G.2 0, 7, .inl mm2_44)), (s3, .inl (G.2 0, 7, .inl mm3_45)), (s4, .inl (G.2 0, 7, .inl mm4_46)), (s5, .inl (G.2 0, 6, .inl mm5_47)), (s6, .inl (G.2 0, 6, .inl mm6_48)), (s7, .inl (G.2 0, 6, .inl mm7_49))] H _ := hw
      refine W.eq (g2 := F0 m 118 ls []) rfl ?_
      exact hret _ _ _ _ _ ⟨at2_36, ft2_37, fq2_38, lf2_39, lq2_40, pp2_41, pq2_42, nf2_43, mm2_44, mm3_45, mm4_46, mm5_47, mm6_48, mm7_49, rfl, rfl, (by first | assumption | omega), (by first | assumption | omega), (by first | assumption | omega), (by first | exact ⟨fun _ => zs_fig_n (by omega) hq42_0, fun z => absurd z (by assumption)⟩ | exact ⟨fun z => absurd (by assumption) z, fun _ => zs_fig_n (by omega) hq42_0⟩ | exact ⟨fun _ => zs_fig_y (by omega) hq47_1 hq52_2 hq60_2 hq68_2 hq76_2 hq84_1, fun z => absurd z (by assumption)⟩ | exact ⟨fun z => absurd (by assumption) z, fun _ => zs_fig_y (by omega) hq47_1 hq52_2 hq60_2 hq68_2 hq76_2 hq84_1⟩), (by first | exact fun z => absurd z (zs_fail_d hq42_0) | exact fun z => ⟨(hq100_2 (by omega)).2.2.trans (by rw [hq52_1, zs_chain hq47_1 hq52_2 hq60_2 hq68_2 hq76_2 hq84_1 z]), Or.inl ⟨by assumption, (hq100_2 (by omega)).1, (hq100_2 (by omega)).2.1⟩⟩ | exact fun z => ⟨(hq115_2 (by omega)).2.2.trans (by rw [hq52_1, zs_chain hq47_1 hq52_2 hq60_2 hq68_2 hq76_2 hq84_1 z]), Or.inr ⟨by assumption, (hq115_2 (by omega)).1, (hq115_2 (by omega)).2.1⟩⟩), (by first | exact fun z => absurd z (zs_fail_d hq42_0) | exact fun z => Or.inl ⟨by assumption, zs_figv (hq100_3 (by omega)) hq60_1 hq68_1 hq76_1 (zs_chain2 zs_Lp1 hq47_1 hq52_2 hq60_2 hq68_2 hq76_2 hq84_1 z)⟩ | exact fun z => Or.inr ⟨by assumption, zs_figv (hq115_3 (by omega)) hq60_1 hq68_1 hq76_1 (zs_chain2 zs_Lp1 hq47_1 hq52_2 hq60_2 hq68_2 hq76_2 hq84_1 z)⟩)⟩ hw dX4_readFigure_118
  · skip
    refine lv_aload_n hx hb dX4_readFigure_4 rfl (lv_at hl 1 rfl) ?_
    refine zz_get (v := .int (nI pp)) S hw fgX4_98 7 rfl rfl dX4_readFigure_5 ?_
    refine lv_bipush (v := 7) hx hb dX4_readFigure_8 (by decide) ?_
    refine lv_icmp_ge (tgt := 17) hx hb dX4_readFigure_10 (by decide) (fun c10_50 => ?_) (fun c10_50 => ?_)
    · skip
      have c10_50n : 7 ≤ pp := (zz_le (a := 7) (b := pp) rfl rfl (by omega) (by omega)).mp c10_50
      refine lv_iconst (v := 0) hx hb dX4_readFigure_17 (by decide) ?_
      refine lv_goto (tgt := 35) hx hb dX4_readFigure_18 (by decide) ?_
      refine lv_istore_n (lv' := [(3, .int 0), (0, .ref h1), (1, .ref sc), (2, .int isp)]) hx hb dX4_readFigure_35 rfl hl (by decide) rfl (fun ls hl => ?_)
      refine lv_iload_n hx hb dX4_readFigure_36 rfl (lv_at hl 0 rfl) ?_
      refine lv_if_ne (tgt := 46) hx hb dX4_readFigure_37 (by decide) (fun cc => absurd cc (by decide)) (fun _ => ?_)
      refine lv_aload_n hx hb dX4_readFigure_40 rfl (lv_at hl 1 rfl) ?_
      refine lv_iconst (v := 2) hx hb dX4_readFigure_41 (by decide) ?_
      refine zz_callV (qb := 0) (As := [.int 2]) (rest := []) (wr := [(sc, .inr (5, [.ref s1, .ref s2, .ref s3, .ref s4, .ref s5, .ref s6, .ref s7, .ref s8, .ref s9, .int (nI pp), .int (nI pq), .int i3, .int i4])), (s1, .inl (G.2 3, 13, .inr (.inl nf))), (s2, .inl (G.2 0, 7, .inl m2)), (s3, .inl (G.2 0, 7, .inl m3)), (s4, .inl (G.2 0, 7, .inl m4)), (s5, .inl (G.2 0, 6, .inl m5)), (s6, .inl (G.2 0, 6, .inl m6)), (s7, .inl (G.2 0, 6, .inl m7))]) S hw hl.1 lX4_66 (c_gfail l G h1 h2 h0 a1 a2 a3 a4 wm atn ft fq lf lq so_ pl_ nu_ sp_ wc 2 (by first | assumption | omega | (unfold zz_sok; decide) | decide) (by first | assumption | omega | (unfold zz_sok; decide) | decide) (by first | assumption | omega | (unfold zz_sok; decide) | decide) (by first | assumption | omega | (unfold zz_sok; decide) | decide)) ⟨Nat.le_of_ble_eq_true rfl, Nat.le_of_ble_eq_true rfl⟩ ⟨Nat.le_of_ble_eq_true rfl, Nat.le_of_ble_eq_true rfl⟩ [0, 1, 2, 3, 4, 5, 6] [7, 8, 9, 10, 11, 12, 13, 14] (by decide) rfl rfl (by decide) (by decide) rfl rfl rfl rfl (Nat.le_of_ble_eq_true rfl) dX4_readFigure_42 ?_
      clear hw
      intro rr u H locs hp hw
      refine hp.elim fun ft2_51 zg0 => zg0.elim fun fq2_52 zg1 => zg1.elim fun lf2_53 zg2 => zg2.elim fun lq2_54 zg3 => zg3.elim fun zee1 zg4 => zg4.elim fun zee2 hq42_0 => ?_
      clear hp zg0 zg1 zg2 zg3 zg4
      subst zee1
      subst zee2
      replace hw : zz_w G A s [(sc, .inr (5, [.ref s1, .ref s2, .ref s3, .ref s4, .ref s5, .ref s6, .ref s7, .ref s8, .ref s9, .int (nI pp), .int (nI pq), .int i3, .int i4])), (s1, .inl (G.2 3, 13, .inr (.inl nf))), (s2, .inl (G.2 0, 7, .inl m2)), (s3, .inl (G.2 0, 7, .inl m3)), (s4, .inl (G.2 0, 7, .inl m4)), (s5, .inl (G.2 0, 6, .inl m5)), (s6, .inl (G.2 0, 6, .inl m6)), (s7, .inl (G.2 0, 6, .inl m7)), (h1, .inr (4, [.ref h0, .ref h2, .int (nI wm), .int (nI atn), .int ft2_51, .int fq2_52, .int lf2_53, .int lq2_54])), (h0, .inr (7, [.ref a1, .ref a2, .ref a3, .ref a4])), (a1, .inl (G.2 0, 401, .inl so_)), (a2, .inl (G.2 0, 401, .inl pl_)), (a3, .inl (G.2 0, 401, .inl nu_)), (a4, .inl (G.2 3, 401, .inr (.inl sp_))), (h2, .inl (G.2 0, 32, .inl wc))] H _ := hw
      refine W.eq (g2 := F0 m 45 ls []) rfl ?_
      refine W.eq (g2 := F0 m 45 ls []) rfl ?_
      exact hret _ _ _ _ _ ⟨atn, ft2_51, fq2_52, lf2_53, lq2_54, pp, pq, nf, m2, m3, m4, m5, m6, m7, rfl, rfl, (by first | assumption | omega), (by first | assumption | omega), (by first | assumption | omega), (by first | exact ⟨fun _ => zs_fig_n (by omega) hq42_0, fun z => absurd z (by assumption)⟩ | exact ⟨fun z => absurd (by assumption) z, fun _ => zs_fig_n (by omega) hq42_0⟩ | exact ⟨fun _ => zs_fig_y (by omega) hq47_1 hq52_2 hq60_2 hq68_2 hq76_2 hq84_1, fun z => absurd z (by assumption)⟩ | exact ⟨fun z => absurd (by assumption) z, fun _ => zs_fig_y (by omega) hq47_1 hq52_2 hq60_2 hq68_2 hq76_2 hq84_1⟩), (by first | exact fun z => absurd z (zs_fail_d hq42_0) | exact fun z => ⟨(hq100_2 (by omega)).2.2.trans (by rw [hq52_1, zs_chain hq47_1 hq52_2 hq60_2 hq68_2 hq76_2 hq84_1 z]), Or.inl ⟨by assumption, (hq100_2 (by omega)).1, (hq100_2 (by omega)).2.1⟩⟩ | exact fun z => ⟨(hq115_2 (by omega)).2.2.trans (by rw [hq52_1, zs_chain hq47_1 hq52_2 hq60_2 hq68_2 hq76_2 hq84_1 z]), Or.inr ⟨by assumption, (hq115_2 (by omega)).1, (hq115_2 (by omega)).2.1⟩⟩), (by first | exact fun z => absurd z (zs_fail_d hq42_0) | exact fun z => Or.inl ⟨by assumption, zs_figv (hq100_3 (by omega)) hq60_1 hq68_1 hq76_1 (zs_chain2 zs_Lp1 hq47_1 hq52_2 hq60_2 hq68_2 hq76_2 hq84_1 z)⟩ | exact fun z => Or.inr ⟨by assumption, zs_figv (hq115_3 (by omega)) hq60_1 hq68_1 hq76_1 (zs_chain2 zs_Lp1 hq47_1 hq52_2 hq60_2 hq68_2 hq76_2 hq84_1 z)⟩)⟩ (hw.sub [8, 9, 10, 11, 12, 13, 14, 0, 1, 2, 3, 4, 5, 6, 7] (by decide +kernel) rfl) dX4_readFigure_45
    · skip
      have c10_50n : ¬ (7 ≤ pp) := fun z => c10_50 ((zz_le (a := 7) (b := pp) rfl rfl (by omega) (by omega)).mpr z)
      refine lv_iconst (v := 1) hx hb dX4_readFigure_13 (by decide) ?_
      refine lv_goto (tgt := 35) hx hb dX4_readFigure_14 (by decide) ?_
      refine lv_istore_n (lv' := [(3, .int 1), (0, .ref h1), (1, .ref sc), (2, .int isp)]) hx hb dX4_readFigure_35 rfl hl (by decide) rfl (fun ls hl => ?_)
      refine lv_iload_n hx hb dX4_readFigure_36 rfl (lv_at hl 0 rfl) ?_
      refine lv_if_ne (tgt := 46) hx hb dX4_readFigure_37 (by decide) (fun _ => ?_) (fun cc => absurd cc (by decide))
      refine lv_aload_n hx hb dX4_readFigure_46 rfl (lv_at hl 1 rfl) ?_
      refine zz_callV (qb := 0) (As := []) (rest := []) (wr := [(sc, .inr (5, [.ref s1, .ref s2, .ref s3, .ref s4, .ref s5, .ref s6, .ref s7, .ref s8, .ref s9, .int (nI pp), .int (nI pq), .int i3, .int i4])), (s1, .inl (G.2 3, 13, .inr (.inl nf))), (s2, .inl (G.2 0, 7, .inl m2)), (s3, .inl (G.2 0, 7, .inl m3)), (s4, .inl (G.2 0, 7, .inl m4)), (s5, .inl (G.2 0, 6, .inl m5)), (s6, .inl (G.2 0, 6, .inl m6)), (s7, .inl (G.2 0, 6, .inl m7))]) S hw hl.1 lX4_70 (c_gtake l G h1 h2 h0 a1 a2 a3 a4 wm atn ft fq lf lq so_ pl_ nu_ sp_ wc (by first | assumption | omega | (unfold zz_sok; decide) | decide) (by first | assumption | omega | (unfold zz_sok; decide) | decide) (by first | assumption | omega | (unfold zz_sok; decide) | decide)) ⟨Nat.le_of_ble_eq_true rfl, Nat.le_of_ble_eq_true rfl⟩ ⟨Nat.le_of_ble_eq_true rfl, Nat.le_of_ble_eq_true rfl⟩ [0, 1, 2, 3, 4, 5, 6] [7, 8, 9, 10, 11, 12, 13, 14] (by decide) rfl rfl (by decide) (by decide) rfl rfl rfl rfl (Nat.le_of_ble_eq_true rfl) dX4_readFigure_47 ?_
      clear hw
      intro rr u H locs hp hw
      refine hp.elim fun at2_55 zg0 => zg0.elim fun ft2_56 zg1 => zg1.elim fun fq2_57 zg2 => zg2.elim fun lf2_58 zg3 => zg3.elim fun lq2_59 zg4 => zg4.elim fun zee1 zg5 => zg5.elim fun zee2 zg6 => zg6.elim fun hq47_0 hq47_1 => ?_
      clear hp zg0 zg1 zg2 zg3 zg4 zg5 zg6
      subst zee1
      subst zee2
      replace hw : zz_w G A s [(sc, .inr (5, [.ref s1, .ref s2, .ref s3, .ref s4, .ref s5, .ref s6, .ref s7, .ref s8, .ref s9, .int (nI pp), .int (nI pq), .int i3, .int i4])), (s1, .inl (G.2 3, 13, .inr (.inl nf))), (s2, .inl (G.2 0, 7, .inl m2)), (s3, .inl (G.2 0, 7, .inl m3)), (s4, .inl (G.2 0, 7, .inl m4)), (s5, .inl (G.2 0, 6, .inl m5)), (s6, .inl (G.2 0, 6, .inl m6)), (s7, .inl (G.2 0, 6, .inl m7)), (h1, .inr (4, [.ref h0, .ref h2, .int (nI wm), .int (nI at2_55), .int ft2_56, .int fq2_57, .int lf2_58, .int lq2_59])), (h0, .inr (7, [.ref a1, .ref a2, .ref a3, .ref a4])), (a1, .inl (G.2 0, 401, .inl so_)), (a2, .inl (G.2 0, 401, .inl pl_)), (a3, .inl (G.2 0, 401, .inl nu_)), (a4, .inl (G.2 3, 401, .inr (.inl sp_))), (h2, .inl (G.2 0, 32, .inl wc))] H _ := hw
      refine W.eq (g2 := F0 m 50 ls []) rfl ?_
      refine lv_aload_n hx hb dX4_readFigure_50 rfl (lv_at hl 1 rfl) ?_
      refine lv_aload_n hx hb dX4_readFigure_51 rfl (lv_at hl 2 rfl) ?_
      refine zz_callV (qb := 8) (As := [.ref sc]) (rest := []) (wr := [(s2, .inl (G.2 0, 7, .inl m2)), (s3, .inl (G.2 0, 7, .inl m3)), (s4, .inl (G.2 0, 7, .inl m4)), (s5, .inl (G.2 0, 6, .inl m5)), (s6, .inl (G.2 0, 6, .inl m6)), (s7, .inl (G.2 0, 6, .inl m7))]) S hw hl.1 lX4_104 (c_greadName l G h1 h2 h0 a1 a2 a3 a4 wm at2_55 ft2_56 fq2_57 lf2_58 lq2_59 so_ pl_ nu_ sp_ wc sc s1 s2 s3 s4 s5 s6 s7 s8 s9 pp pq i3 i4 nf (by first | assumption | omega | (unfold zz_sok; decide) | decide) (by first | assumption | omega | (unfold zz_sok; decide) | decide) (by first | assumption | omega | (unfold zz_sok; decide) | decide) (by first | assumption | omega | (unfold zz_sok; decide) | decide) (by first | assumption | omega | (unfold zz_sok; decide) | decide)) ⟨Nat.le_of_ble_eq_true rfl, Nat.le_of_ble_eq_true rfl⟩ ⟨Nat.le_of_ble_eq_true rfl, Nat.le_of_ble_eq_true rfl⟩ [8, 9, 10, 11, 12, 13, 14, 0, 1] [2, 3, 4, 5, 6, 7] (by decide) rfl rfl (by decide) (by decide) rfl rfl rfl rfl (Nat.le_of_ble_eq_true rfl) dX4_readFigure_52 ?_
      clear hw
      intro rr u H locs hp hw
      refine hp.elim fun rv_60 zg0 => zg0.elim fun at2_61 zg1 => zg1.elim fun ft2_62 zg2 => zg2.elim fun fq2_63 zg3 => zg3.elim fun lf2_64 zg4 => zg4.elim fun lq2_65 zg5 => zg5.elim fun zee1 zg6 => zg6.elim fun zee2 zg7 => zg7.elim fun hq52_0 zg8 => zg8.elim fun hq52_1 hq52_2 => ?_
      clear hp zg0 zg1 zg2 zg3 zg4 zg5 zg6 zg7 zg8
      subst zee1
      subst zee2
      replace hw : zz_w G A s [(s2, .inl (G.2 0, 7, .inl m2)), (s3, .inl (G.2 0, 7, .inl m3)), (s4, .inl (G.2 0, 7, .inl m4)), (s5, .inl (G.2 0, 6, .inl m5)), (s6, .inl (G.2 0, 6, .inl m6)), (s7, .inl (G.2 0, 6, .inl m7)), (h1, .inr (4, [.ref h0, .ref h2, .int (nI wm), .int (nI at2_61), .int ft2_62, .int fq2_63, .int lf2_64, .int lq2_65])), (h0, .inr (7, [.ref a1, .ref a2, .ref a3, .ref a4])), (a1, .inl (G.2 0, 401, .inl so_)), (a2, .inl (G.2 0, 401, .inl pl_)), (a3, .inl (G.2 0, 401, .inl nu_)), (a4, .inl (G.2 3, 401, .inr (.inl sp_))), (h2, .inl (G.2 0, 32, .inl wc)), (sc, .inr (5, [.ref s1, .ref s2, .ref s3, .ref s4, .ref s5, .ref s6, .ref s7, .ref s8, .ref s9, .int (nI pp), .int (nI pq), .int i3, .int i4])), (s1, .inl (G.2 3, 13, .inr (.inl nf)))] H _ := hw
      refine W.eq (g2 := F0 m 55 ls [.long rv_60]) rfl ?_
      refine lv_lstore (lv' := [(4, .long rv_60), (3, .int 1), (0, .ref h1), (1, .ref sc), (2, .int isp)]) hx hb dX4_readFigure_55 hl (by decide) rfl (fun ls hl => ?_)
      refine lv_aload_n hx hb dX4_readFigure_57 rfl (lv_at hl 2 rfl) ?_
      refine lv_bipush (v := 23) hx hb dX4_readFigure_58 (by decide) ?_
      refine zz_callV (qb := 6) (As := [.int 23]) (rest := []) (wr := [(s2, .inl (G.2 0, 7, .inl m2)), (s3, .inl (G.2 0, 7, .inl m3)), (s4, .inl (G.2 0, 7, .inl m4)), (s5, .inl (G.2 0, 6, .inl m5)), (s6, .inl (G.2 0, 6, .inl m6)), (s7, .inl (G.2 0, 6, .inl m7)), (sc, .inr (5, [.ref s1, .ref s2, .ref s3, .ref s4, .ref s5, .ref s6, .ref s7, .ref s8, .ref s9, .int (nI pp), .int (nI pq), .int i3, .int i4])), (s1, .inl (G.2 3, 13, .inr (.inl nf)))]) S hw hl.1 lX4_85 (c_greadNumber l G h1 h2 h0 a1 a2 a3 a4 wm at2_61 ft2_62 fq2_63 lf2_64 lq2_65 so_ pl_ nu_ sp_ wc 23 (by first | assumption | omega | (unfold zz_sok; decide) | decide) (by first | assumption | omega | (unfold zz_sok; decide) | decide) (by first | assumption | omega | (unfold zz_sok; decide) | decide)) ⟨Nat.le_of_ble_eq_true rfl, Nat.le_of_ble_eq_true rfl⟩ ⟨Nat.le_of_ble_eq_true rfl, Nat.le_of_ble_eq_true rfl⟩ [6, 7, 8, 9, 10, 11, 12] [0, 1, 2, 3, 4, 5, 13, 14] (by decide) rfl rfl (by decide) (by decide) rfl rfl rfl rfl (Nat.le_of_ble_eq_true rfl) dX4_readFigure_60 ?_
      clear hw
      intro rr u H locs hp hw
      refine hp.elim fun rv_66 zg0 => zg0.elim fun at2_67 zg1 => zg1.elim fun ft2_68 zg2 => zg2.elim fun fq2_69 zg3 => zg3.elim fun lf2_70 zg4 => zg4.elim fun lq2_71 zg5 => zg5.elim fun zee1 zg6 => zg6.elim fun zee2 zg7 => zg7.elim fun hq60_0 zg8 => zg8.elim fun hq60_1 hq60_2 => ?_
      clear hp zg0 zg1 zg2 zg3 zg4 zg5 zg6 zg7 zg8
      subst zee1
      subst zee2
      replace hw : zz_w G A s [(s2, .inl (G.2 0, 7, .inl m2)), (s3, .inl (G.2 0, 7, .inl m3)), (s4, .inl (G.2 0, 7, .inl m4)), (s5, .inl (G.2 0, 6, .inl m5)), (s6, .inl (G.2 0, 6, .inl m6)), (s7, .inl (G.2 0, 6, .inl m7)), (sc, .inr (5, [.ref s1, .ref s2, .ref s3, .ref s4, .ref s5, .ref s6, .ref s7, .ref s8, .ref s9, .int (nI pp), .int (nI pq), .int i3, .int i4])), (s1, .inl (G.2 3, 13, .inr (.inl nf))), (h1, .inr (4, [.ref h0, .ref h2, .int (nI wm), .int (nI at2_67), .int ft2_68, .int fq2_69, .int lf2_70, .int lq2_71])), (h0, .inr (7, [.ref a1, .ref a2, .ref a3, .ref a4])), (a1, .inl (G.2 0, 401, .inl so_)), (a2, .inl (G.2 0, 401, .inl pl_)), (a3, .inl (G.2 0, 401, .inl nu_)), (a4, .inl (G.2 3, 401, .inr (.inl sp_))), (h2, .inl (G.2 0, 32, .inl wc))] H _ := hw
      refine W.eq (g2 := F0 m 63 ls [.int rv_66]) rfl ?_
      refine W.eq (g2 := F0 m 63 ls [.int rv_66]) rfl ?_
      refine lv_istore (lv' := [(6, .int rv_66), (4, .long rv_60), (3, .int 1), (0, .ref h1), (1, .ref sc), (2, .int isp)]) hx hb dX4_readFigure_63 hl (by decide) rfl (fun ls hl => ?_)
      refine lv_aload_n hx hb dX4_readFigure_65 rfl (lv_at hl 3 rfl) ?_
      refine lv_bipush (v := 9) hx hb dX4_readFigure_66 (by decide) ?_
      refine zz_callV (qb := 8) (As := [.int 9]) (rest := []) (wr := [(s2, .inl (G.2 0, 7, .inl m2)), (s3, .inl (G.2 0, 7, .inl m3)), (s4, .inl (G.2 0, 7, .inl m4)), (s5, .inl (G.2 0, 6, .inl m5)), (s6, .inl (G.2 0, 6, .inl m6)), (s7, .inl (G.2 0, 6, .inl m7)), (sc, .inr (5, [.ref s1, .ref s2, .ref s3, .ref s4, .ref s5, .ref s6, .ref s7, .ref s8, .ref s9, .int (nI pp), .int (nI pq), .int i3, .int i4])), (s1, .inl (G.2 3, 13, .inr (.inl nf)))]) S hw hl.1 lX4_85 (c_greadNumber l G h1 h2 h0 a1 a2 a3 a4 wm at2_67 ft2_68 fq2_69 lf2_70 lq2_71 so_ pl_ nu_ sp_ wc 9 (by first | assumption | omega | (unfold zz_sok; decide) | decide) (by first | assumption | omega | (unfold zz_sok; decide) | decide) (by first | assumption | omega | (unfold zz_sok; decide) | decide)) ⟨Nat.le_of_ble_eq_true rfl, Nat.le_of_ble_eq_true rfl⟩ ⟨Nat.le_of_ble_eq_true rfl, Nat.le_of_ble_eq_true rfl⟩ [8, 9, 10, 11, 12, 13, 14] [0, 1, 2, 3, 4, 5, 6, 7] (by decide) rfl rfl (by decide) (by decide) rfl rfl rfl rfl (Nat.le_of_ble_eq_true rfl) dX4_readFigure_68 ?_
      clear hw
      intro rr u H locs hp hw
      refine hp.elim fun rv_72 zg0 => zg0.elim fun at2_73 zg1 => zg1.elim fun ft2_74 zg2 => zg2.elim fun fq2_75 zg3 => zg3.elim fun lf2_76 zg4 => zg4.elim fun lq2_77 zg5 => zg5.elim fun zee1 zg6 => zg6.elim fun zee2 zg7 => zg7.elim fun hq68_0 zg8 => zg8.elim fun hq68_1 hq68_2 => ?_
      clear hp zg0 zg1 zg2 zg3 zg4 zg5 zg6 zg7 zg8
      subst zee1
      subst zee2
      replace hw : zz_w G A s [(s2, .inl (G.2 0, 7, .inl m2)), (s3, .inl (G.2 0, 7, .inl m3)), (s4, .inl (G.2 0, 7, .inl m4)), (s5, .inl (G.2 0, 6, .inl m5)), (s6, .inl (G.2 0, 6, .inl m6)), (s7, .inl (G.2 0, 6, .inl m7)), (sc, .inr (5, [.ref s1, .ref s2, .ref s3, .ref s4, .ref s5, .ref s6, .ref s7, .ref s8, .ref s9, .int (nI pp), .int (nI pq), .int i3, .int i4])), (s1, .inl (G.2 3, 13, .inr (.inl nf))), (h1, .inr (4, [.ref h0, .ref h2, .int (nI wm), .int (nI at2_73), .int ft2_74, .int fq2_75, .int lf2_76, .int lq2_77])), (h0, .inr (7, [.ref a1, .ref a2, .ref a3, .ref a4])), (a1, .inl (G.2 0, 401, .inl so_)), (a2, .inl (G.2 0, 401, .inl pl_)), (a3, .inl (G.2 0, 401, .inl nu_)), (a4, .inl (G.2 3, 401, .inr (.inl sp_))), (h2, .inl (G.2 0, 32, .inl wc))] H _ := hw
      refine W.eq (g2 := F0 m 71 ls [.int rv_72]) rfl ?_
      refine lv_istore (lv' := [(7, .int rv_72), (6, .int rv_66), (4, .long rv_60), (3, .int 1), (0, .ref h1), (1, .ref sc), (2, .int isp)]) hx hb dX4_readFigure_71 hl (by decide) rfl (fun ls hl => ?_)
      refine lv_aload_n hx hb dX4_readFigure_73 rfl (lv_at hl 4 rfl) ?_
      refine lv_bipush (v := 9) hx hb dX4_readFigure_74 (by decide) ?_
      refine zz_callV (qb := 8) (As := [.int 9]) (rest := []) (wr := [(s2, .inl (G.2 0, 7, .inl m2)), (s3, .inl (G.2 0, 7, .inl m3)), (s4, .inl (G.2 0, 7, .inl m4)), (s5, .inl (G.2 0, 6, .inl m5)), (s6, .inl (G.2 0, 6, .inl m6)), (s7, .inl (G.2 0, 6, .inl m7)), (sc, .inr (5, [.ref s1, .ref s2, .ref s3, .ref s4, .ref s5, .ref s6, .ref s7, .ref s8, .ref s9, .int (nI pp), .int (nI pq), .int i3, .int i4])), (s1, .inl (G.2 3, 13, .inr (.inl nf)))]) S hw hl.1 lX4_85 (c_greadNumber l G h1 h2 h0 a1 a2 a3 a4 wm at2_73 ft2_74 fq2_75 lf2_76 lq2_77 so_ pl_ nu_ sp_ wc 9 (by first | assumption | omega | (unfold zz_sok; decide) | decide) (by first | assumption | omega | (unfold zz_sok; decide) | decide) (by first | assumption | omega | (unfold zz_sok; decide) | decide)) ⟨Nat.le_of_ble_eq_true rfl, Nat.le_of_ble_eq_true rfl⟩ ⟨Nat.le_of_ble_eq_true rfl, Nat.le_of_ble_eq_true rfl⟩ [8, 9, 10, 11, 12, 13, 14] [0, 1, 2, 3, 4, 5, 6, 7] (by decide) rfl rfl (by decide) (by decide) rfl rfl rfl rfl (Nat.le_of_ble_eq_true rfl) dX4_readFigure_76 ?_
      clear hw
      intro rr u H locs hp hw
      refine hp.elim fun rv_78 zg0 => zg0.elim fun at2_79 zg1 => zg1.elim fun ft2_80 zg2 => zg2.elim fun fq2_81 zg3 => zg3.elim fun lf2_82 zg4 => zg4.elim fun lq2_83 zg5 => zg5.elim fun zee1 zg6 => zg6.elim fun zee2 zg7 => zg7.elim fun hq76_0 zg8 => zg8.elim fun hq76_1 hq76_2 => ?_
      clear hp zg0 zg1 zg2 zg3 zg4 zg5 zg6 zg7 zg8
      subst zee1
      subst zee2
      replace hw : zz_w G A s [(s2, .inl (G.2 0, 7, .inl m2)), (s3, .inl (G.2 0, 7, .inl m3)), (s4, .inl (G.2 0, 7, .inl m4)), (s5, .inl (G.2 0, 6, .inl m5)), (s6, .inl (G.2 0, 6, .inl m6)), (s7, .inl (G.2 0, 6, .inl m7)), (sc, .inr (5, [.ref s1, .ref s2, .ref s3, .ref s4, .ref s5, .ref s6, .ref s7, .ref s8, .ref s9, .int (nI pp), .int (nI pq), .int i3, .int i4])), (s1, .inl (G.2 3, 13, .inr (.inl nf))), (h1, .inr (4, [.ref h0, .ref h2, .int (nI wm), .int (nI at2_79), .int ft2_80, .int fq2_81, .int lf2_82, .int lq2_83])), (h0, .inr (7, [.ref a1, .ref a2, .ref a3, .ref a4])), (a1, .inl (G.2 0, 401, .inl so_)), (a2, .inl (G.2 0, 401, .inl pl_)), (a3, .inl (G.2 0, 401, .inl nu_)), (a4, .inl (G.2 3, 401, .inr (.inl sp_))), (h2, .inl (G.2 0, 32, .inl wc))] H _ := hw
      refine W.eq (g2 := F0 m 79 ls [.int rv_78]) rfl ?_
      refine lv_istore (lv' := [(8, .int rv_78), (7, .int rv_72), (6, .int rv_66), (4, .long rv_60), (3, .int 1), (0, .ref h1), (1, .ref sc), (2, .int isp)]) hx hb dX4_readFigure_79 hl (by decide) rfl (fun ls hl => ?_)
      refine lv_aload_n hx hb dX4_readFigure_81 rfl (lv_at hl 5 rfl) ?_
      refine lv_bipush (v := 59) hx hb dX4_readFigure_82 (by decide) ?_
      refine zz_callV (qb := 8) (As := [.int 59]) (rest := []) (wr := [(s2, .inl (G.2 0, 7, .inl m2)), (s3, .inl (G.2 0, 7, .inl m3)), (s4, .inl (G.2 0, 7, .inl m4)), (s5, .inl (G.2 0, 6, .inl m5)), (s6, .inl (G.2 0, 6, .inl m6)), (s7, .inl (G.2 0, 6, .inl m7)), (sc, .inr (5, [.ref s1, .ref s2, .ref s3, .ref s4, .ref s5, .ref s6, .ref s7, .ref s8, .ref s9, .int (nI pp), .int (nI pq), .int i3, .int i4])), (s1, .inl (G.2 3, 13, .inr (.inl nf)))]) S hw hl.1 lX4_92 (c_gexpect l G h1 h2 h0 a1 a2 a3 a4 wm at2_79 ft2_80 fq2_81 lf2_82 lq2_83 so_ pl_ nu_ sp_ wc 59 (by first | assumption | omega | (unfold zz_sok; decide) | decide) (by first | assumption | omega | (unfold zz_sok; decide) | decide) (by first | assumption | omega | (unfold zz_sok; decide) | decide)) ⟨Nat.le_of_ble_eq_true rfl, Nat.le_of_ble_eq_true rfl⟩ ⟨Nat.le_of_ble_eq_true rfl, Nat.le_of_ble_eq_true rfl⟩ [8, 9, 10, 11, 12, 13, 14] [0, 1, 2, 3, 4, 5, 6, 7] (by decide) rfl rfl (by decide) (by decide) rfl rfl rfl rfl (Nat.le_of_ble_eq_true rfl) dX4_readFigure_84 ?_
      clear hw
      intro rr u H locs hp hw
      refine hp.elim fun at2_84 zg0 => zg0.elim fun ft2_85 zg1 => zg1.elim fun fq2_86 zg2 => zg2.elim fun lf2_87 zg3 => zg3.elim fun lq2_88 zg4 => zg4.elim fun zee1 zg5 => zg5.elim fun zee2 zg6 => zg6.elim fun hq84_0 hq84_1 => ?_
      clear hp zg0 zg1 zg2 zg3 zg4 zg5 zg6
      subst zee1
      subst zee2
      replace hw : zz_w G A s [(s2, .inl (G.2 0, 7, .inl m2)), (s3, .inl (G.2 0, 7, .inl m3)), (s4, .inl (G.2 0, 7, .inl m4)), (s5, .inl (G.2 0, 6, .inl m5)), (s6, .inl (G.2 0, 6, .inl m6)), (s7, .inl (G.2 0, 6, .inl m7)), (sc, .inr (5, [.ref s1, .ref s2, .ref s3, .ref s4, .ref s5, .ref s6, .ref s7, .ref s8, .ref s9, .int (nI pp), .int (nI pq), .int i3, .int i4])), (s1, .inl (G.2 3, 13, .inr (.inl nf))), (h1, .inr (4, [.ref h0, .ref h2, .int (nI wm), .int (nI at2_84), .int ft2_85, .int fq2_86, .int lf2_87, .int lq2_88])), (h0, .inr (7, [.ref a1, .ref a2, .ref a3, .ref a4])), (a1, .inl (G.2 0, 401, .inl so_)), (a2, .inl (G.2 0, 401, .inl pl_)), (a3, .inl (G.2 0, 401, .inl nu_)), (a4, .inl (G.2 3, 401, .inr (.inl sp_))), (h2, .inl (G.2 0, 32, .inl wc))] H _ := hw
      refine W.eq (g2 := F0 m 87 ls []) rfl ?_
      refine lv_iload_n hx hb dX4_readFigure_87 rfl (lv_at hl 7 rfl) ?_
      refine lv_if_eq (tgt := 106) hx hb dX4_readFigure_88 (by decide) (fun cc => absurd cc c1_1) (fun _ => ?_)
      refine W.eq (g2 := F0 m 91 ls []) rfl ?_
      refine lv_aload_n hx hb dX4_readFigure_91 rfl (lv_at hl 6 rfl) ?_
      refine lv_lload hx hb dX4_readFigure_92 (lv_at hl 3 rfl) ?_
      refine lv_iload hx hb dX4_readFigure_94 (lv_at hl 2 rfl) ?_
      refine lv_iload hx hb dX4_readFigure_96 (lv_at hl 1 rfl) ?_
      refine lv_iload hx hb dX4_readFigure_98 (lv_at hl 0 rfl) ?_
      refine zz_callV (qb := 6) (As := [.long rv_60, .int rv_66, .int rv_72, .int rv_78]) (rest := []) (wr := [(h1, .inr (4, [.ref h0, .ref h2, .int (nI wm), .int (nI at2_84), .int ft2_85, .int fq2_86, .int lf2_87, .int lq2_88])), (h0, .inr (7, [.ref a1, .ref a2, .ref a3, .ref a4])), (a1, .inl (G.2 0, 401, .inl so_)), (a2, .inl (G.2 0, 401, .inl pl_)), (a3, .inl (G.2 0, 401, .inl nu_)), (a4, .inl (G.2 3, 401, .inr (.inl sp_))), (h2, .inl (G.2 0, 32, .inl wc))]) S hw hl.1 lX4_108 (c_gaddPerson l G sc s1 s2 s3 s4 s5 s6 s7 s8 s9 pp pq i3 i4 nf m2 m3 m4 m5 m6 m7 rv_60 rv_66 rv_72 rv_78 (by first | assumption | omega | (unfold zz_sok; decide) | decide) (by first | assumption | omega | (unfold zz_sok; decide) | decide)) ⟨Nat.le_of_ble_eq_true rfl, Nat.le_of_ble_eq_true rfl⟩ ⟨Nat.le_of_ble_eq_true rfl, Nat.le_of_ble_eq_true rfl⟩ [6, 7, 0, 1, 2, 3, 4, 5] [8, 9, 10, 11, 12, 13, 14] (by decide) rfl rfl (by decide) (by decide) rfl rfl rfl rfl (Nat.le_of_ble_eq_true rfl) dX4_readFigure_100 ?_
      clear hw
      intro rr u H locs hp hw
      refine hp.elim fun pp2_89 zg0 => zg0.elim fun pq2_90 zg1 => zg1.elim fun nf2_91 zg2 => zg2.elim fun mm2_92 zg3 => zg3.elim fun mm3_93 zg4 => zg4.elim fun mm4_94 zg5 => zg5.elim fun mm5_95 zg6 => zg6.elim fun mm6_96 zg7 => zg7.elim fun mm7_97 zg8 => zg8.elim fun zee1 zg9 => zg9.elim fun zee2 zg10 => zg10.elim fun hq100_0 zg11 => zg11.elim fun hq100_1 zg12 => zg12.elim fun hq100_2 hq100_3 => ?_
      clear hp zg0 zg1 zg2 zg3 zg4 zg5 zg6 zg7 zg8 zg9 zg10 zg11 zg12
      subst zee1
      subst zee2
      replace hw : zz_w G A s [(h1, .inr (4, [.ref h0, .ref h2, .int (nI wm), .int (nI at2_84), .int ft2_85, .int fq2_86, .int lf2_87, .int lq2_88])), (h0, .inr (7, [.ref a1, .ref a2, .ref a3, .ref a4])), (a1, .inl (G.2 0, 401, .inl so_)), (a2, .inl (G.2 0, 401, .inl pl_)), (a3, .inl (G.2 0, 401, .inl nu_)), (a4, .inl (G.2 3, 401, .inr (.inl sp_))), (h2, .inl (G.2 0, 32, .inl wc)), (sc, .inr (5, [.ref s1, .ref s2, .ref s3, .ref s4, .ref s5, .ref s6, .ref s7, .ref s8, .ref s9, .int (nI pp2_89), .int (nI pq2_90), .int i3, .int i4])), (s1, .inl (G.2 3, 13, .inr (.inl nf2_91))), (s2, .inl (G.2 0, 7, .inl mm2_92)), (s3, .inl (G.2 0, 7, .inl mm3_93)), (s4, .inl (G.2 0, 7, .inl mm4_94)), (s5, .inl (G.2 0, 6, .inl mm5_95)), (s6, .inl (G.2 0, 6, .inl mm6_96)), (s7, .inl (G.2 0, 6, .inl mm7_97))] H _ := hw
      refine W.eq (g2 := F0 m 103 ls []) rfl ?_
      refine lv_goto (tgt := 118) hx hb dX4_readFigure_103 (by decide) ?_
      exact hret _ _ _ _ _ ⟨at2_84, ft2_85, fq2_86, lf2_87, lq2_88, pp2_89, pq2_90, nf2_91, mm2_92, mm3_93, mm4_94, mm5_95, mm6_96, mm7_97, rfl, rfl, (by first | assumption | omega), (by first | assumption | omega), (by first | assumption | omega), (by first | exact ⟨fun _ => zs_fig_n (by omega) hq42_0, fun z => absurd z (by assumption)⟩ | exact ⟨fun z => absurd (by assumption) z, fun _ => zs_fig_n (by omega) hq42_0⟩ | exact ⟨fun _ => zs_fig_y (by omega) hq47_1 hq52_2 hq60_2 hq68_2 hq76_2 hq84_1, fun z => absurd z (by assumption)⟩ | exact ⟨fun z => absurd (by assumption) z, fun _ => zs_fig_y (by omega) hq47_1 hq52_2 hq60_2 hq68_2 hq76_2 hq84_1⟩), (by first | exact fun z => absurd z (zs_fail_d hq42_0) | exact fun z => ⟨(hq100_2 (by omega)).2.2.trans (by rw [hq52_1, zs_chain hq47_1 hq52_2 hq60_2 hq68_2 hq76_2 hq84_1 z]), Or.inl ⟨by assumption, (hq100_2 (by omega)).1, (hq100_2 (by omega)).2.1⟩⟩ | exact fun z => ⟨(hq115_2 (by omega)).2.2.trans (by rw [hq52_1, zs_chain hq47_1 hq52_2 hq60_2 hq68_2 hq76_2 hq84_1 z]), Or.inr ⟨by assumption, (hq115_2 (by omega)).1, (hq115_2 (by omega)).2.1⟩⟩), (by first | exact fun z => absurd z (zs_fail_d hq42_0) | exact fun z => Or.inl ⟨by assumption, zs_figv (hq100_3 (by omega)) hq60_1 hq68_1 hq76_1 (zs_chain2 zs_Lp1 hq47_1 hq52_2 hq60_2 hq68_2 hq76_2 hq84_1 z)⟩ | exact fun z => Or.inr ⟨by assumption, zs_figv (hq115_3 (by omega)) hq60_1 hq68_1 hq76_1 (zs_chain2 zs_Lp1 hq47_1 hq52_2 hq60_2 hq68_2 hq76_2 hq84_1 z)⟩)⟩ hw dX4_readFigure_118
theorem kd_ncX4_readLaw : kd_ck 1300320873148347508873903523901064495651075735950963193530212520699746106439429446186251080097117652382965867893217791111148845675708003170555869396940406859451370732517111638389978502545429134590383177881501501712659853975287870623794946757465424068130346 106 cX4_readLaw.data.toList 0 = true := by decide +kernel
theorem dX4_readLaw_0 : decode cX4_readLaw 0 = .ok (.aload_n 0, 1) := kd_dk0 kd_o42 kd_ncX4_readLaw rfl
theorem dX4_readLaw_1 : decode cX4_readLaw 1 = .ok (.invokevirtual 70, 3) := kd_dk2 kd_o182 kd_ncX4_readLaw rfl
theorem dX4_readLaw_4 : decode cX4_readLaw 4 = .ok (.aload_n 0, 1) := kd_dk0 kd_o42 kd_ncX4_readLaw rfl
theorem dX4_readLaw_5 : decode cX4_readLaw 5 = .ok (.bipush 61, 2) := kd_dj1 kd_o16 (w := 61) kd_ncX4_readLaw rfl rfl
theorem dX4_readLaw_7 : decode cX4_readLaw 7 = .ok (.invokevirtual 92, 3) := kd_dk2 kd_o182 kd_ncX4_readLaw rfl
theorem dX4_readLaw_10 : decode cX4_readLaw 10 = .ok (.aload_n 1, 1) := kd_dk0 kd_o43 kd_ncX4_readLaw rfl
theorem dX4_readLaw_11 : decode cX4_readLaw 11 = .ok (.invokevirtual 129, 3) := kd_dk2 kd_o182 kd_ncX4_readLaw rfl
theorem dX4_readLaw_14 : decode cX4_readLaw 14 = .ok (.iconst 0, 1) := kd_dk0 kd_o3 kd_ncX4_readLaw rfl
theorem dX4_readLaw_15 : decode cX4_readLaw 15 = .ok (.istore_n 2, 1) := kd_dk0 kd_o61 kd_ncX4_readLaw rfl
theorem dX4_readLaw_16 : decode cX4_readLaw 16 = .ok (.iload_n 2, 1) := kd_dk0 kd_o28 kd_ncX4_readLaw rfl
theorem dX4_readLaw_17 : decode cX4_readLaw 17 = .ok (.iconst 4, 1) := kd_dk0 kd_o7 kd_ncX4_readLaw rfl
theorem dX4_readLaw_18 : decode cX4_readLaw 18 = .ok (.if_icmp .gt 76, 3) := kd_dj2 kd_o163 (w := 76) kd_ncX4_readLaw rfl rfl
theorem dX4_readLaw_21 : decode cX4_readLaw 21 = .ok (.aload_n 0, 1) := kd_dk0 kd_o42 kd_ncX4_readLaw rfl
theorem dX4_readLaw_22 : decode cX4_readLaw 22 = .ok (.getfield 31, 3) := kd_dk2 kd_o180 kd_ncX4_readLaw rfl
theorem dX4_readLaw_25 : decode cX4_readLaw 25 = .ok (.ifCond .ne 69, 3) := kd_dj2 kd_o154 (w := 69) kd_ncX4_readLaw rfl rfl
theorem dX4_readLaw_28 : decode cX4_readLaw 28 = .ok (.aload_n 0, 1) := kd_dk0 kd_o42 kd_ncX4_readLaw rfl
theorem dX4_readLaw_29 : decode cX4_readLaw 29 = .ok (.invokevirtual 52, 3) := kd_dk2 kd_o182 kd_ncX4_readLaw rfl
theorem dX4_readLaw_32 : decode cX4_readLaw 32 = .ok (.sipush 208, 3) := kd_dj2 kd_o17 (w := 208) kd_ncX4_readLaw rfl rfl
theorem dX4_readLaw_35 : decode cX4_readLaw 35 = .ok (.if_icmp .ne 59, 3) := kd_dj2 kd_o160 (w := 59) kd_ncX4_readLaw rfl rfl
theorem dX4_readLaw_38 : decode cX4_readLaw 38 = .ok (.iload_n 2, 1) := kd_dk0 kd_o28 kd_ncX4_readLaw rfl
theorem dX4_readLaw_39 : decode cX4_readLaw 39 = .ok (.iconst 4, 1) := kd_dk0 kd_o7 kd_ncX4_readLaw rfl
theorem dX4_readLaw_40 : decode cX4_readLaw 40 = .ok (.if_icmp .ne 9, 3) := kd_dj2 kd_o160 (w := 9) kd_ncX4_readLaw rfl rfl
theorem dX4_readLaw_43 : decode cX4_readLaw 43 = .ok (.aload_n 0, 1) := kd_dk0 kd_o42 kd_ncX4_readLaw rfl
theorem dX4_readLaw_44 : decode cX4_readLaw 44 = .ok (.iconst 2, 1) := kd_dk0 kd_o5 kd_ncX4_readLaw rfl
theorem dX4_readLaw_45 : decode cX4_readLaw 45 = .ok (.invokevirtual 66, 3) := kd_dk2 kd_o182 kd_ncX4_readLaw rfl
theorem dX4_readLaw_48 : decode cX4_readLaw 48 = .ok (.return_, 1) := kd_dk0 kd_o177 kd_ncX4_readLaw rfl
theorem dX4_readLaw_49 : decode cX4_readLaw 49 = .ok (.aload_n 0, 1) := kd_dk0 kd_o42 kd_ncX4_readLaw rfl
theorem dX4_readLaw_50 : decode cX4_readLaw 50 = .ok (.invokevirtual 70, 3) := kd_dk2 kd_o182 kd_ncX4_readLaw rfl
theorem dX4_readLaw_53 : decode cX4_readLaw 53 = .ok (.aload_n 0, 1) := kd_dk0 kd_o42 kd_ncX4_readLaw rfl
theorem dX4_readLaw_54 : decode cX4_readLaw 54 = .ok (.aload_n 1, 1) := kd_dk0 kd_o43 kd_ncX4_readLaw rfl
theorem dX4_readLaw_55 : decode cX4_readLaw 55 = .ok (.invokevirtual 130, 3) := kd_dk2 kd_o182 kd_ncX4_readLaw rfl
theorem dX4_readLaw_58 : decode cX4_readLaw 58 = .ok (.aload_n 0, 1) := kd_dk0 kd_o42 kd_ncX4_readLaw rfl
theorem dX4_readLaw_59 : decode cX4_readLaw 59 = .ok (.bipush 60, 2) := kd_dj1 kd_o16 (w := 60) kd_ncX4_readLaw rfl rfl
theorem dX4_readLaw_61 : decode cX4_readLaw 61 = .ok (.invokevirtual 92, 3) := kd_dk2 kd_o182 kd_ncX4_readLaw rfl
theorem dX4_readLaw_64 : decode cX4_readLaw 64 = .ok (.aload_n 0, 1) := kd_dk0 kd_o42 kd_ncX4_readLaw rfl
theorem dX4_readLaw_65 : decode cX4_readLaw 65 = .ok (.aload_n 1, 1) := kd_dk0 kd_o43 kd_ncX4_readLaw rfl
theorem dX4_readLaw_66 : decode cX4_readLaw 66 = .ok (.invokevirtual 130, 3) := kd_dk2 kd_o182 kd_ncX4_readLaw rfl
theorem dX4_readLaw_69 : decode cX4_readLaw 69 = .ok (.aload_n 0, 1) := kd_dk0 kd_o42 kd_ncX4_readLaw rfl
theorem dX4_readLaw_70 : decode cX4_readLaw 70 = .ok (.sipush 209, 3) := kd_dj2 kd_o17 (w := 209) kd_ncX4_readLaw rfl rfl
theorem dX4_readLaw_73 : decode cX4_readLaw 73 = .ok (.invokevirtual 92, 3) := kd_dk2 kd_o182 kd_ncX4_readLaw rfl
theorem dX4_readLaw_76 : decode cX4_readLaw 76 = .ok (.aload_n 0, 1) := kd_dk0 kd_o42 kd_ncX4_readLaw rfl
theorem dX4_readLaw_77 : decode cX4_readLaw 77 = .ok (.aload_n 1, 1) := kd_dk0 kd_o43 kd_ncX4_readLaw rfl
theorem dX4_readLaw_78 : decode cX4_readLaw 78 = .ok (.invokevirtual 130, 3) := kd_dk2 kd_o182 kd_ncX4_readLaw rfl
theorem dX4_readLaw_81 : decode cX4_readLaw 81 = .ok (.aload_n 0, 1) := kd_dk0 kd_o42 kd_ncX4_readLaw rfl
theorem dX4_readLaw_82 : decode cX4_readLaw 82 = .ok (.sipush 210, 3) := kd_dj2 kd_o17 (w := 210) kd_ncX4_readLaw rfl rfl
theorem dX4_readLaw_85 : decode cX4_readLaw 85 = .ok (.invokevirtual 92, 3) := kd_dk2 kd_o182 kd_ncX4_readLaw rfl
theorem dX4_readLaw_88 : decode cX4_readLaw 88 = .ok (.iinc 2 1, 3) := kd_dji kd_o132 (w := 1) kd_ncX4_readLaw rfl rfl
theorem dX4_readLaw_91 : decode cX4_readLaw 91 = .ok (.goto (-75), 3) := kd_dj2 kd_o167 (w := 65461) kd_ncX4_readLaw rfl rfl
theorem dX4_readLaw_94 : decode cX4_readLaw 94 = .ok (.aload_n 0, 1) := kd_dk0 kd_o42 kd_ncX4_readLaw rfl
theorem dX4_readLaw_95 : decode cX4_readLaw 95 = .ok (.aload_n 1, 1) := kd_dk0 kd_o43 kd_ncX4_readLaw rfl
theorem dX4_readLaw_96 : decode cX4_readLaw 96 = .ok (.invokevirtual 130, 3) := kd_dk2 kd_o182 kd_ncX4_readLaw rfl
theorem dX4_readLaw_99 : decode cX4_readLaw 99 = .ok (.aload_n 0, 1) := kd_dk0 kd_o42 kd_ncX4_readLaw rfl
theorem dX4_readLaw_100 : decode cX4_readLaw 100 = .ok (.bipush 59, 2) := kd_dj1 kd_o16 (w := 59) kd_ncX4_readLaw rfl rfl
theorem dX4_readLaw_102 : decode cX4_readLaw 102 = .ok (.invokevirtual 92, 3) := kd_dk2 kd_o182 kd_ncX4_readLaw rfl
theorem dX4_readLaw_105 : decode cX4_readLaw 105 = .ok (.return_, 1) := kd_dk0 kd_o177 kd_ncX4_readLaw rfl
set_option maxHeartbeats 8000000 in
set_option maxRecDepth 100000 in
theorem c_greadLaw (l : Launch) (G : zz_G) (h1 : Nat) (h2 : Nat) (h0 : Nat) (a1 : Nat) (a2 : Nat) (a3 : Nat) (a4 : Nat) (wm : Nat) (atn : Nat) (ft : Int32) (fq : Int32) (lf : Int32) (lq : Int32) (so_ : Nat → Int32) (pl_ : Nat → Int32) (nu_ : Nat → Int32) (sp_ : Nat → Int64) (wc : Nat → Int32) (w0 : Nat) (x0 : Nat) (x1 : Nat) (x2 : Nat) (f0 : Nat → Int32) (g0 : Nat → Int32) (n0 : Nat) (u0 : Nat) (hat : atn ≤ 400) (hwm : wm ≤ 32) (htk : ∀ j, j < 401 → so_ j = 3 → zz_nok (nu_ j)) (hlv : zz_lwv f0 g0 n0 u0) : zz_M l G mX4_readLaw 4 0 0 [.ref h1, .ref w0] [(h1, .inr (4, [.ref h0, .ref h2, .int (nI wm), .int (nI atn), .int ft, .int fq, .int lf, .int lq])), (h0, .inr (7, [.ref a1, .ref a2, .ref a3, .ref a4])), (a1, .inl (G.2 0, 401, .inl so_)), (a2, .inl (G.2 0, 401, .inl pl_)), (a3, .inl (G.2 0, 401, .inl nu_)), (a4, .inl (G.2 3, 401, .inr (.inl sp_))), (h2, .inl (G.2 0, 32, .inl wc)), (w0, .inr (2, [.ref x0, .ref x1, .ref x2, .int (nI n0), .int (nI u0)])), (x0, .inl (G.2 0, 400, .inl f0)), (x1, .inl (G.2 0, 14, .inl g0))] (fun rr u => ∃ (wm2 : Nat), ∃ (wc2 : Nat → Int32), ∃ (at2 : Nat), ∃ (ft2 : Int32), ∃ (fq2 : Int32), ∃ (lf2 : Int32), ∃ (lq2 : Int32), ∃ (ff : Nat → Int32), ∃ (gg : Nat → Int32), ∃ (nn : Nat), ∃ (uu : Nat), rr = none ∧ u = [(h1, .inr (4, [.ref h0, .ref h2, .int (nI wm2), .int (nI at2), .int ft2, .int fq2, .int lf2, .int lq2])), (h0, .inr (7, [.ref a1, .ref a2, .ref a3, .ref a4])), (a1, .inl (G.2 0, 401, .inl so_)), (a2, .inl (G.2 0, 401, .inl pl_)), (a3, .inl (G.2 0, 401, .inl nu_)), (a4, .inl (G.2 3, 401, .inr (.inl sp_))), (h2, .inl (G.2 0, 32, .inl wc2)), (w0, .inr (2, [.ref x0, .ref x1, .ref x2, .int (nI nn), .int (nI uu)])), (x0, .inl (G.2 0, 400, .inl ff)), (x1, .inl (G.2 0, 14, .inl gg))] ∧ (wm2 ≤ 32) ∧ (at2 ≤ 400) ∧ (zz_lwv ff gg nn uu ∧ nn ≤ 13 ∧ uu ≤ 400) ∧ (zs_law so_ pl_ (zs_of atn ft fq lf lq) = (zs_of at2 ft2 fq2 lf2 lq2)) ∧ (zl_E (ze_law so_ pl_ nu_ (zs_of atn ft fq lf lq)) ff gg nn uu ft2)) := by
  refine zz_enterv (by decide +kernel) (Nat.le_of_ble_eq_true rfl) ?_
  intro p e s m args below meth c A Q ls S hnm hret hw hl
  have hl : lv_has ls 3 [(0, .ref h1), (1, .ref w0)] := hl
  have hx := S.1
  have hb := S.2.1
  have hlv1 := hlv.1
  have hlv2 := hlv.2.1
  refine lv_aload_n hx hb dX4_readLaw_0 rfl (lv_at hl 0 rfl) ?_
  refine zz_callV (qb := 0) (As := []) (rest := []) (wr := [(w0, .inr (2, [.ref x0, .ref x1, .ref x2, .int (nI n0), .int (nI u0)])), (x0, .inl (G.2 0, 400, .inl f0)), (x1, .inl (G.2 0, 14, .inl g0))]) S hw hl.1 lX4_70 (c_gtake l G h1 h2 h0 a1 a2 a3 a4 wm atn ft fq lf lq so_ pl_ nu_ sp_ wc (by first | assumption | omega | (unfold zz_sok; decide) | decide) (by first | assumption | omega | (unfold zz_sok; decide) | decide) (by first | assumption | omega | (unfold zz_sok; decide) | decide)) ⟨Nat.le_of_ble_eq_true rfl, Nat.le_of_ble_eq_true rfl⟩ ⟨Nat.le_of_ble_eq_true rfl, Nat.le_of_ble_eq_true rfl⟩ [0, 1, 2, 3, 4, 5, 6] [7, 8, 9] (by decide) rfl rfl (by decide) (by decide) rfl rfl rfl rfl (Nat.le_of_ble_eq_true rfl) dX4_readLaw_1 ?_
  clear hw
  intro rr u H locs hp hw
  refine hp.elim fun at2_1 zg0 => zg0.elim fun ft2_2 zg1 => zg1.elim fun fq2_3 zg2 => zg2.elim fun lf2_4 zg3 => zg3.elim fun lq2_5 zg4 => zg4.elim fun zee1 zg5 => zg5.elim fun zee2 zg6 => zg6.elim fun hq1_0 hq1_1 => ?_
  clear hp zg0 zg1 zg2 zg3 zg4 zg5 zg6
  subst zee1
  subst zee2
  replace hw : zz_w G A s [(w0, .inr (2, [.ref x0, .ref x1, .ref x2, .int (nI n0), .int (nI u0)])), (x0, .inl (G.2 0, 400, .inl f0)), (x1, .inl (G.2 0, 14, .inl g0)), (h1, .inr (4, [.ref h0, .ref h2, .int (nI wm), .int (nI at2_1), .int ft2_2, .int fq2_3, .int lf2_4, .int lq2_5])), (h0, .inr (7, [.ref a1, .ref a2, .ref a3, .ref a4])), (a1, .inl (G.2 0, 401, .inl so_)), (a2, .inl (G.2 0, 401, .inl pl_)), (a3, .inl (G.2 0, 401, .inl nu_)), (a4, .inl (G.2 3, 401, .inr (.inl sp_))), (h2, .inl (G.2 0, 32, .inl wc))] H _ := hw
  refine W.eq (g2 := F0 m 4 ls []) rfl ?_
  refine lv_aload_n hx hb dX4_readLaw_4 rfl (lv_at hl 0 rfl) ?_
  refine lv_bipush (v := 61) hx hb dX4_readLaw_5 (by decide) ?_
  refine zz_callV (qb := 3) (As := [.int 61]) (rest := []) (wr := [(w0, .inr (2, [.ref x0, .ref x1, .ref x2, .int (nI n0), .int (nI u0)])), (x0, .inl (G.2 0, 400, .inl f0)), (x1, .inl (G.2 0, 14, .inl g0))]) S hw hl.1 lX4_92 (c_gexpect l G h1 h2 h0 a1 a2 a3 a4 wm at2_1 ft2_2 fq2_3 lf2_4 lq2_5 so_ pl_ nu_ sp_ wc 61 (by first | assumption | omega | (unfold zz_sok; decide) | decide) (by first | assumption | omega | (unfold zz_sok; decide) | decide) (by first | assumption | omega | (unfold zz_sok; decide) | decide)) ⟨Nat.le_of_ble_eq_true rfl, Nat.le_of_ble_eq_true rfl⟩ ⟨Nat.le_of_ble_eq_true rfl, Nat.le_of_ble_eq_true rfl⟩ [3, 4, 5, 6, 7, 8, 9] [0, 1, 2] (by decide) rfl rfl (by decide) (by decide) rfl rfl rfl rfl (Nat.le_of_ble_eq_true rfl) dX4_readLaw_7 ?_
  clear hw
  intro rr u H locs hp hw
  refine hp.elim fun at2_6 zg0 => zg0.elim fun ft2_7 zg1 => zg1.elim fun fq2_8 zg2 => zg2.elim fun lf2_9 zg3 => zg3.elim fun lq2_10 zg4 => zg4.elim fun zee1 zg5 => zg5.elim fun zee2 zg6 => zg6.elim fun hq7_0 hq7_1 => ?_
  clear hp zg0 zg1 zg2 zg3 zg4 zg5 zg6
  subst zee1
  subst zee2
  replace hw : zz_w G A s [(w0, .inr (2, [.ref x0, .ref x1, .ref x2, .int (nI n0), .int (nI u0)])), (x0, .inl (G.2 0, 400, .inl f0)), (x1, .inl (G.2 0, 14, .inl g0)), (h1, .inr (4, [.ref h0, .ref h2, .int (nI wm), .int (nI at2_6), .int ft2_7, .int fq2_8, .int lf2_9, .int lq2_10])), (h0, .inr (7, [.ref a1, .ref a2, .ref a3, .ref a4])), (a1, .inl (G.2 0, 401, .inl so_)), (a2, .inl (G.2 0, 401, .inl pl_)), (a3, .inl (G.2 0, 401, .inl nu_)), (a4, .inl (G.2 3, 401, .inr (.inl sp_))), (h2, .inl (G.2 0, 32, .inl wc))] H _ := hw
  refine W.eq (g2 := F0 m 10 ls []) rfl ?_
  refine lv_aload_n hx hb dX4_readLaw_10 rfl (lv_at hl 1 rfl) ?_
  refine zz_callV (qb := 0) (As := []) (rest := []) (wr := [(h1, .inr (4, [.ref h0, .ref h2, .int (nI wm), .int (nI at2_6), .int ft2_7, .int fq2_8, .int lf2_9, .int lq2_10])), (h0, .inr (7, [.ref a1, .ref a2, .ref a3, .ref a4])), (a1, .inl (G.2 0, 401, .inl so_)), (a2, .inl (G.2 0, 401, .inl pl_)), (a3, .inl (G.2 0, 401, .inl nu_)), (a4, .inl (G.2 3, 401, .inr (.inl sp_))), (h2, .inl (G.2 0, 32, .inl wc))]) S hw hl.1 lX4_129 (c_gLclear l G w0 x0 x1 x2 f0 g0 n0 u0 (by first | assumption | omega | (unfold zz_sok; decide) | decide)) ⟨Nat.le_of_ble_eq_true rfl, Nat.le_of_ble_eq_true rfl⟩ ⟨Nat.le_of_ble_eq_true rfl, Nat.le_of_ble_eq_true rfl⟩ [0, 1, 2] [3, 4, 5, 6, 7, 8, 9] (by decide) rfl rfl (by decide) (by decide) rfl rfl rfl rfl (Nat.le_of_ble_eq_true rfl) dX4_readLaw_11 ?_
  clear hw
  intro rr u H locs hp hw
  refine hp.elim fun zee1 zg0 => zg0.elim fun zee2 hq11_0 => ?_
  clear hp zg0
  subst zee1
  subst zee2
  replace hw : zz_w G A s [(h1, .inr (4, [.ref h0, .ref h2, .int (nI wm), .int (nI at2_6), .int ft2_7, .int fq2_8, .int lf2_9, .int lq2_10])), (h0, .inr (7, [.ref a1, .ref a2, .ref a3, .ref a4])), (a1, .inl (G.2 0, 401, .inl so_)), (a2, .inl (G.2 0, 401, .inl pl_)), (a3, .inl (G.2 0, 401, .inl nu_)), (a4, .inl (G.2 3, 401, .inr (.inl sp_))), (h2, .inl (G.2 0, 32, .inl wc)), (w0, .inr (2, [.ref x0, .ref x1, .ref x2, .int 0, .int 0])), (x0, .inl (G.2 0, 400, .inl f0)), (x1, .inl (G.2 0, 14, .inl g0))] H _ := hw
  refine W.eq (g2 := F0 m 14 ls []) rfl ?_
  refine lv_iconst (v := 0) hx hb dX4_readLaw_14 (by decide) ?_
  refine lv_istore_n (lv' := [(2, .int 0), (0, .ref h1), (1, .ref w0)]) hx hb dX4_readLaw_15 rfl hl (by decide) rfl (fun ls hl => ?_)
  have lp16_215 : ∀ (vn12 vi11 : Nat) (vt105 : Nat) (vt106 : Nat) (vy107 : Int32) (vy108 : Int32) (vy109 : Int32) (vy110 : Int32) (vF111 : Nat → Int32) (vt112 : Nat) (vt113 : Nat) (vF114 : Nat → Int32) (vF115 : Nat → Int32) (H : Heap) (locs : List Loc) (ls : Array Slot), vi11 ≤ 4 → 4 < vi11 + vn12 → vt112 ≤ 13 → vt113 ≤ 400 → vt105 ≤ 32 → vt106 ≤ 400 → zz_lwv vF114 vF115 vt112 vt113 → zs_must so_ pl_ 59 (zs_sum so_ pl_ (zs_ifs so_ pl_ (4 - vi11) (zs_of vt106 vy107 vy108 vy109 vy110))) = zs_law so_ pl_ (zs_of atn ft fq lf lq) → zl_R so_ pl_ nu_ (ze_law so_ pl_ nu_ (zs_of atn ft fq lf lq)) vF114 vF115 vt112 vt113 vt106 vi11 vy107 vy108 vy109 vy110 → zz_w G A s [(h1, .inr (4, [.ref h0, .ref h2, .int (nI vt105), .int (nI vt106), .int vy107, .int vy108, .int vy109, .int vy110])), (h0, .inr (7, [.ref a1, .ref a2, .ref a3, .ref a4])), (a1, .inl (G.2 0, 401, .inl so_)), (a2, .inl (G.2 0, 401, .inl pl_)), (a3, .inl (G.2 0, 401, .inl nu_)), (a4, .inl (G.2 3, 401, .inr (.inl sp_))), (h2, .inl (G.2 0, 32, .inl vF111)), (w0, .inr (2, [.ref x0, .ref x1, .ref x2, .int (nI vt112), .int (nI vt113)])), (x0, .inl (G.2 0, 400, .inl vF114)), (x1, .inl (G.2 0, 14, .inl vF115))] H locs → lv_has ls 3 [(2, .int (nI vi11)), (0, .ref h1), (1, .ref w0)] → W p l e (zz_rm 4 0 0) s m args below meth c H locs (0) (0) Q (F0 m 16 ls []) := by
    intro vn12
    induction vn12 with
    | zero => intro vi11 vt105 vt106 vy107 vy108 vy109 vy110 vF111 vt112 vt113 vF114 vF115 H locs ls hi1 hi2; exact absurd hi2 (by omega)
    | succ vn12 ih16 =>
      intro vi11 vt105 vt106 vy107 vy108 vy109 vy110 vF111 vt112 vt113 vF114 vF115 H locs ls hi16a hi16b hv16_208 hv16_209 hv16_210 hv16_211 hv16_212 hv16_213 hv16_214 hw hl
      refine lv_iload_n hx hb dX4_readLaw_16 rfl (lv_at hl 0 rfl) ?_
      refine lv_iconst (v := 4) hx hb dX4_readLaw_17 (by decide) ?_
      refine lv_icmp_gt (tgt := 94) hx hb dX4_readLaw_18 (by decide) (fun cc => absurd ((zz_lt (a := 4) (b := vi11) rfl rfl (by omega) (by omega)).mp cc) (by omega)) (fun _ => ?_)
      refine lv_aload_n hx hb dX4_readLaw_21 rfl (lv_at hl 1 rfl) ?_
      refine zz_get (v := .int vy107) S hw fgX4_31 0 rfl rfl dX4_readLaw_22 ?_
      refine W.eq (g2 := F0 m 25 ls [.int vy107]) rfl ?_
      refine lv_if_ne (tgt := 94) hx hb dX4_readLaw_25 (by decide) (fun c25_216 => ?_) (fun c25_216 => ?_)
      · skip
        refine lv_aload_n hx hb dX4_readLaw_94 rfl (lv_at hl 1 rfl) ?_
        refine lv_aload_n hx hb dX4_readLaw_95 rfl (lv_at hl 2 rfl) ?_
        refine zz_callV (qb := 0) (As := [.ref w0]) (rest := []) (wr := []) S hw hl.1 lX4_130 (c_greadSum l G h1 h2 h0 a1 a2 a3 a4 vt105 vt106 vy107 vy108 vy109 vy110 so_ pl_ nu_ sp_ vF111 w0 x0 x1 x2 vF114 vF115 vt112 vt113 (by first | assumption | omega | (unfold zz_sok; decide) | decide) (by first | assumption | omega | (unfold zz_sok; decide) | decide) (by first | assumption | omega | (unfold zz_sok; decide) | decide) (by first | assumption | omega | (unfold zz_sok; decide) | decide)) ⟨Nat.le_of_ble_eq_true rfl, Nat.le_of_ble_eq_true rfl⟩ ⟨Nat.le_of_ble_eq_true rfl, Nat.le_of_ble_eq_true rfl⟩ [0, 1, 2, 3, 4, 5, 6, 7, 8, 9] [] (by decide) rfl rfl (by decide) (by decide) rfl rfl rfl rfl (Nat.le_of_ble_eq_true rfl) dX4_readLaw_96 ?_
        clear hw
        intro rr u H locs hp hw
        refine hp.elim fun wm2_217 zg0 => zg0.elim fun wc2_218 zg1 => zg1.elim fun at2_219 zg2 => zg2.elim fun ft2_220 zg3 => zg3.elim fun fq2_221 zg4 => zg4.elim fun lf2_222 zg5 => zg5.elim fun lq2_223 zg6 => zg6.elim fun ff_224 zg7 => zg7.elim fun gg_225 zg8 => zg8.elim fun nn_226 zg9 => zg9.elim fun uu_227 zg10 => zg10.elim fun zee1 zg11 => zg11.elim fun zee2 zg12 => zg12.elim fun hq96_0 zg13 => zg13.elim fun hq96_1 zg14 => zg14.elim fun hq96_2 zg15 => zg15.elim fun hq96_3 zg16 => zg16.elim fun hq96_4 hq96_5 => ?_
        clear hp zg0 zg1 zg2 zg3 zg4 zg5 zg6 zg7 zg8 zg9 zg10 zg11 zg12 zg13 zg14 zg15 zg16
        subst zee1
        subst zee2
        replace hw : zz_w G A s [(h1, .inr (4, [.ref h0, .ref h2, .int (nI wm2_217), .int (nI at2_219), .int ft2_220, .int fq2_221, .int lf2_222, .int lq2_223])), (h0, .inr (7, [.ref a1, .ref a2, .ref a3, .ref a4])), (a1, .inl (G.2 0, 401, .inl so_)), (a2, .inl (G.2 0, 401, .inl pl_)), (a3, .inl (G.2 0, 401, .inl nu_)), (a4, .inl (G.2 3, 401, .inr (.inl sp_))), (h2, .inl (G.2 0, 32, .inl wc2_218)), (w0, .inr (2, [.ref x0, .ref x1, .ref x2, .int (nI nn_226), .int (nI uu_227)])), (x0, .inl (G.2 0, 400, .inl ff_224)), (x1, .inl (G.2 0, 14, .inl gg_225))] H _ := hw
        refine W.eq (g2 := F0 m 99 ls []) rfl ?_
        have hq96_2a := hq96_2.1; have hq96_2b := hq96_2.2.1; have hq96_2c := hq96_2.2.2
        refine lv_aload_n hx hb dX4_readLaw_99 rfl (lv_at hl 1 rfl) ?_
        refine lv_bipush (v := 59) hx hb dX4_readLaw_100 (by decide) ?_
        refine zz_callV (qb := 0) (As := [.int 59]) (rest := []) (wr := [(w0, .inr (2, [.ref x0, .ref x1, .ref x2, .int (nI nn_226), .int (nI uu_227)])), (x0, .inl (G.2 0, 400, .inl ff_224)), (x1, .inl (G.2 0, 14, .inl gg_225))]) S hw hl.1 lX4_92 (c_gexpect l G h1 h2 h0 a1 a2 a3 a4 wm2_217 at2_219 ft2_220 fq2_221 lf2_222 lq2_223 so_ pl_ nu_ sp_ wc2_218 59 (by first | assumption | omega | (unfold zz_sok; decide) | decide) (by first | assumption | omega | (unfold zz_sok; decide) | decide) (by first | assumption | omega | (unfold zz_sok; decide) | decide)) ⟨Nat.le_of_ble_eq_true rfl, Nat.le_of_ble_eq_true rfl⟩ ⟨Nat.le_of_ble_eq_true rfl, Nat.le_of_ble_eq_true rfl⟩ [0, 1, 2, 3, 4, 5, 6] [7, 8, 9] (by decide) rfl rfl (by decide) (by decide) rfl rfl rfl rfl (Nat.le_of_ble_eq_true rfl) dX4_readLaw_102 ?_
        clear hw
        intro rr u H locs hp hw
        refine hp.elim fun at2_228 zg0 => zg0.elim fun ft2_229 zg1 => zg1.elim fun fq2_230 zg2 => zg2.elim fun lf2_231 zg3 => zg3.elim fun lq2_232 zg4 => zg4.elim fun zee1 zg5 => zg5.elim fun zee2 zg6 => zg6.elim fun hq102_0 hq102_1 => ?_
        clear hp zg0 zg1 zg2 zg3 zg4 zg5 zg6
        subst zee1
        subst zee2
        replace hw : zz_w G A s [(w0, .inr (2, [.ref x0, .ref x1, .ref x2, .int (nI nn_226), .int (nI uu_227)])), (x0, .inl (G.2 0, 400, .inl ff_224)), (x1, .inl (G.2 0, 14, .inl gg_225)), (h1, .inr (4, [.ref h0, .ref h2, .int (nI wm2_217), .int (nI at2_228), .int ft2_229, .int fq2_230, .int lf2_231, .int lq2_232])), (h0, .inr (7, [.ref a1, .ref a2, .ref a3, .ref a4])), (a1, .inl (G.2 0, 401, .inl so_)), (a2, .inl (G.2 0, 401, .inl pl_)), (a3, .inl (G.2 0, 401, .inl nu_)), (a4, .inl (G.2 3, 401, .inr (.inl sp_))), (h2, .inl (G.2 0, 32, .inl wc2_218))] H _ := hw
        refine W.eq (g2 := F0 m 105 ls []) rfl ?_
        exact hret _ _ _ _ _ ⟨wm2_217, wc2_218, at2_228, ft2_229, fq2_230, lf2_231, lq2_232, ff_224, gg_225, nn_226, uu_227, rfl, rfl, (by first | assumption | omega | exact ⟨by assumption, by omega, by omega⟩ | exact ⟨by assumption, by omega⟩), (by first | assumption | omega | exact ⟨by assumption, by omega, by omega⟩ | exact ⟨by assumption, by omega⟩), (by first | assumption | omega | exact ⟨by assumption, by omega, by omega⟩ | exact ⟨by assumption, by omega⟩), (by first | exact zs_i_room hv16_213 (by assumption) (by assumption) (by omega) hq45_0 | exact zs_i_x hv16_213 (Or.inl (by assumption)) hq96_3 hq102_1 | exact zs_i_x hv16_213 (Or.inr (by assumption)) hq96_3 hq102_1), (by first | exact zl_Ed (zs_fail_d hq45_0) | exact zl_Rx hv16_214 (by omega) (Or.inl (by assumption)) hq96_3 hq102_1 hq96_4 hq96_5 | exact zl_Rx hv16_214 (by omega) (Or.inr (by assumption)) hq96_3 hq102_1 hq96_4 hq96_5)⟩ (hw.sub [3, 4, 5, 6, 7, 8, 9, 0, 1, 2] (by decide) rfl) dX4_readLaw_105
      · skip
        refine lv_aload_n hx hb dX4_readLaw_28 rfl (lv_at hl 1 rfl) ?_
        refine zz_callV (qb := 0) (As := []) (rest := []) (wr := [(w0, .inr (2, [.ref x0, .ref x1, .ref x2, .int (nI vt112), .int (nI vt113)])), (x0, .inl (G.2 0, 400, .inl vF114)), (x1, .inl (G.2 0, 14, .inl vF115))]) S hw hl.1 lX4_52 (c_gsort l G h1 h2 h0 a1 a2 a3 a4 vt105 vt106 vy107 vy108 vy109 vy110 so_ pl_ nu_ sp_ vF111 (by first | assumption | omega | (unfold zz_sok; decide) | decide) (by first | assumption | omega | (unfold zz_sok; decide) | decide) (by first | assumption | omega | (unfold zz_sok; decide) | decide)) ⟨Nat.le_of_ble_eq_true rfl, Nat.le_of_ble_eq_true rfl⟩ ⟨Nat.le_of_ble_eq_true rfl, Nat.le_of_ble_eq_true rfl⟩ [0, 1, 2, 3, 4, 5, 6] [7, 8, 9] (by decide) rfl rfl (by decide) (by decide) rfl rfl rfl rfl (Nat.le_of_ble_eq_true rfl) dX4_readLaw_29 ?_
        clear hw
        intro rr u H locs hp hw
        refine hp.elim fun zee1 zee2 => ?_
        clear hp
        subst zee1
        subst zee2
        replace hw : zz_w G A s [(w0, .inr (2, [.ref x0, .ref x1, .ref x2, .int (nI vt112), .int (nI vt113)])), (x0, .inl (G.2 0, 400, .inl vF114)), (x1, .inl (G.2 0, 14, .inl vF115)), (h1, .inr (4, [.ref h0, .ref h2, .int (nI vt105), .int (nI vt106), .int vy107, .int vy108, .int vy109, .int vy110])), (h0, .inr (7, [.ref a1, .ref a2, .ref a3, .ref a4])), (a1, .inl (G.2 0, 401, .inl so_)), (a2, .inl (G.2 0, 401, .inl pl_)), (a3, .inl (G.2 0, 401, .inl nu_)), (a4, .inl (G.2 3, 401, .inr (.inl sp_))), (h2, .inl (G.2 0, 32, .inl vF111))] H _ := hw
        refine W.eq (g2 := F0 m 32 ls [.int (so_ vt106)]) rfl ?_
        refine lv_sipush (v := 208) hx hb dX4_readLaw_32 (by decide) ?_
        refine lv_icmp_ne (tgt := 94) hx hb dX4_readLaw_35 (by decide) (fun c35_233 => ?_) (fun c35_233 => ?_)
        · skip
          refine lv_aload_n hx hb dX4_readLaw_94 rfl (lv_at hl 1 rfl) ?_
          refine lv_aload_n hx hb dX4_readLaw_95 rfl (lv_at hl 2 rfl) ?_
          refine zz_callV (qb := 3) (As := [.ref w0]) (rest := []) (wr := []) S hw hl.1 lX4_130 (c_greadSum l G h1 h2 h0 a1 a2 a3 a4 vt105 vt106 vy107 vy108 vy109 vy110 so_ pl_ nu_ sp_ vF111 w0 x0 x1 x2 vF114 vF115 vt112 vt113 (by first | assumption | omega | (unfold zz_sok; decide) | decide) (by first | assumption | omega | (unfold zz_sok; decide) | decide) (by first | assumption | omega | (unfold zz_sok; decide) | decide) (by first | assumption | omega | (unfold zz_sok; decide) | decide)) ⟨Nat.le_of_ble_eq_true rfl, Nat.le_of_ble_eq_true rfl⟩ ⟨Nat.le_of_ble_eq_true rfl, Nat.le_of_ble_eq_true rfl⟩ [3, 4, 5, 6, 7, 8, 9, 0, 1, 2] [] (by decide) rfl rfl (by decide) (by decide) rfl rfl rfl rfl (Nat.le_of_ble_eq_true rfl) dX4_readLaw_96 ?_
          clear hw
          intro rr u H locs hp hw
          refine hp.elim fun wm2_234 zg0 => zg0.elim fun wc2_235 zg1 => zg1.elim fun at2_236 zg2 => zg2.elim fun ft2_237 zg3 => zg3.elim fun fq2_238 zg4 => zg4.elim fun lf2_239 zg5 => zg5.elim fun lq2_240 zg6 => zg6.elim fun ff_241 zg7 => zg7.elim fun gg_242 zg8 => zg8.elim fun nn_243 zg9 => zg9.elim fun uu_244 zg10 => zg10.elim fun zee1 zg11 => zg11.elim fun zee2 zg12 => zg12.elim fun hq96_0 zg13 => zg13.elim fun hq96_1 zg14 => zg14.elim fun hq96_2 zg15 => zg15.elim fun hq96_3 zg16 => zg16.elim fun hq96_4 hq96_5 => ?_
          clear hp zg0 zg1 zg2 zg3 zg4 zg5 zg6 zg7 zg8 zg9 zg10 zg11 zg12 zg13 zg14 zg15 zg16
          subst zee1
          subst zee2
          replace hw : zz_w G A s [(h1, .inr (4, [.ref h0, .ref h2, .int (nI wm2_234), .int (nI at2_236), .int ft2_237, .int fq2_238, .int lf2_239, .int lq2_240])), (h0, .inr (7, [.ref a1, .ref a2, .ref a3, .ref a4])), (a1, .inl (G.2 0, 401, .inl so_)), (a2, .inl (G.2 0, 401, .inl pl_)), (a3, .inl (G.2 0, 401, .inl nu_)), (a4, .inl (G.2 3, 401, .inr (.inl sp_))), (h2, .inl (G.2 0, 32, .inl wc2_235)), (w0, .inr (2, [.ref x0, .ref x1, .ref x2, .int (nI nn_243), .int (nI uu_244)])), (x0, .inl (G.2 0, 400, .inl ff_241)), (x1, .inl (G.2 0, 14, .inl gg_242))] H _ := hw
          refine W.eq (g2 := F0 m 99 ls []) rfl ?_
          have hq96_2a := hq96_2.1; have hq96_2b := hq96_2.2.1; have hq96_2c := hq96_2.2.2
          refine lv_aload_n hx hb dX4_readLaw_99 rfl (lv_at hl 1 rfl) ?_
          refine lv_bipush (v := 59) hx hb dX4_readLaw_100 (by decide) ?_
          refine W.eq (g2 := F0 m 102 ls [.int 59, .ref h1]) rfl ?_
          refine zz_callV (qb := 0) (As := [.int 59]) (rest := []) (wr := [(w0, .inr (2, [.ref x0, .ref x1, .ref x2, .int (nI nn_243), .int (nI uu_244)])), (x0, .inl (G.2 0, 400, .inl ff_241)), (x1, .inl (G.2 0, 14, .inl gg_242))]) S hw hl.1 lX4_92 (c_gexpect l G h1 h2 h0 a1 a2 a3 a4 wm2_234 at2_236 ft2_237 fq2_238 lf2_239 lq2_240 so_ pl_ nu_ sp_ wc2_235 59 (by first | assumption | omega | (unfold zz_sok; decide) | decide) (by first | assumption | omega | (unfold zz_sok; decide) | decide) (by first | assumption | omega | (unfold zz_sok; decide) | decide)) ⟨Nat.le_of_ble_eq_true rfl, Nat.le_of_ble_eq_true rfl⟩ ⟨Nat.le_of_ble_eq_true rfl, Nat.le_of_ble_eq_true rfl⟩ [0, 1, 2, 3, 4, 5, 6] [7, 8, 9] (by decide) rfl rfl (by decide) (by decide) rfl rfl rfl rfl (Nat.le_of_ble_eq_true rfl) dX4_readLaw_102 ?_
          clear hw
          intro rr u H locs hp hw
          refine hp.elim fun at2_245 zg0 => zg0.elim fun ft2_246 zg1 => zg1.elim fun fq2_247 zg2 => zg2.elim fun lf2_248 zg3 => zg3.elim fun lq2_249 zg4 => zg4.elim fun zee1 zg5 => zg5.elim fun zee2 zg6 => zg6.elim fun hq102_0 hq102_1 => ?_
          clear hp zg0 zg1 zg2 zg3 zg4 zg5 zg6
          subst zee1
          subst zee2
          replace hw : zz_w G A s [(w0, .inr (2, [.ref x0, .ref x1, .ref x2, .int (nI nn_243), .int (nI uu_244)])), (x0, .inl (G.2 0, 400, .inl ff_241)), (x1, .inl (G.2 0, 14, .inl gg_242)), (h1, .inr (4, [.ref h0, .ref h2, .int (nI wm2_234), .int (nI at2_245), .int ft2_246, .int fq2_247, .int lf2_248, .int lq2_249])), (h0, .inr (7, [.ref a1, .ref a2, .ref a3, .ref a4])), (a1, .inl (G.2 0, 401, .inl so_)), (a2, .inl (G.2 0, 401, .inl pl_)), (a3, .inl (G.2 0, 401, .inl nu_)), (a4, .inl (G.2 3, 401, .inr (.inl sp_))), (h2, .inl (G.2 0, 32, .inl wc2_235))] H _ := hw
          refine W.eq (g2 := F0 m 105 ls []) rfl ?_
          exact hret _ _ _ _ _ ⟨wm2_234, wc2_235, at2_245, ft2_246, fq2_247, lf2_248, lq2_249, ff_241, gg_242, nn_243, uu_244, rfl, rfl, (by first | assumption | omega | exact ⟨by assumption, by omega, by omega⟩ | exact ⟨by assumption, by omega⟩), (by first | assumption | omega | exact ⟨by assumption, by omega, by omega⟩ | exact ⟨by assumption, by omega⟩), (by first | assumption | omega | exact ⟨by assumption, by omega, by omega⟩ | exact ⟨by assumption, by omega⟩), (by first | exact zs_i_room hv16_213 (by assumption) (by assumption) (by omega) hq45_0 | exact zs_i_x hv16_213 (Or.inl (by assumption)) hq96_3 hq102_1 | exact zs_i_x hv16_213 (Or.inr (by assumption)) hq96_3 hq102_1), (by first | exact zl_Ed (zs_fail_d hq45_0) | exact zl_Rx hv16_214 (by omega) (Or.inl (by assumption)) hq96_3 hq102_1 hq96_4 hq96_5 | exact zl_Rx hv16_214 (by omega) (Or.inr (by assumption)) hq96_3 hq102_1 hq96_4 hq96_5)⟩ (hw.sub [3, 4, 5, 6, 7, 8, 9, 0, 1, 2] (by decide) rfl) dX4_readLaw_105
        · skip
          refine lv_iload_n hx hb dX4_readLaw_38 rfl (lv_at hl 0 rfl) ?_
          refine lv_iconst (v := 4) hx hb dX4_readLaw_39 (by decide) ?_
          refine lv_icmp_ne (tgt := 49) hx hb dX4_readLaw_40 (by decide) (fun c40_250 => ?_) (fun c40_250 => ?_)
          · skip
            have c40_250n : ¬ (vi11 = 4) := fun z => c40_250 ((zz_eq (a := vi11) (b := 4) rfl rfl (by omega) (by omega)).mpr z)
            refine lv_aload_n hx hb dX4_readLaw_49 rfl (lv_at hl 1 rfl) ?_
            refine zz_callV (qb := 3) (As := []) (rest := []) (wr := [(w0, .inr (2, [.ref x0, .ref x1, .ref x2, .int (nI vt112), .int (nI vt113)])), (x0, .inl (G.2 0, 400, .inl vF114)), (x1, .inl (G.2 0, 14, .inl vF115))]) S hw hl.1 lX4_70 (c_gtake l G h1 h2 h0 a1 a2 a3 a4 vt105 vt106 vy107 vy108 vy109 vy110 so_ pl_ nu_ sp_ vF111 (by first | assumption | omega | (unfold zz_sok; decide) | decide) (by first | assumption | omega | (unfold zz_sok; decide) | decide) (by first | assumption | omega | (unfold zz_sok; decide) | decide)) ⟨Nat.le_of_ble_eq_true rfl, Nat.le_of_ble_eq_true rfl⟩ ⟨Nat.le_of_ble_eq_true rfl, Nat.le_of_ble_eq_true rfl⟩ [3, 4, 5, 6, 7, 8, 9] [0, 1, 2] (by decide) rfl rfl (by decide) (by decide) rfl rfl rfl rfl (Nat.le_of_ble_eq_true rfl) dX4_readLaw_50 ?_
            clear hw
            intro rr u H locs hp hw
            refine hp.elim fun at2_251 zg0 => zg0.elim fun ft2_252 zg1 => zg1.elim fun fq2_253 zg2 => zg2.elim fun lf2_254 zg3 => zg3.elim fun lq2_255 zg4 => zg4.elim fun zee1 zg5 => zg5.elim fun zee2 zg6 => zg6.elim fun hq50_0 hq50_1 => ?_
            clear hp zg0 zg1 zg2 zg3 zg4 zg5 zg6
            subst zee1
            subst zee2
            replace hw : zz_w G A s [(w0, .inr (2, [.ref x0, .ref x1, .ref x2, .int (nI vt112), .int (nI vt113)])), (x0, .inl (G.2 0, 400, .inl vF114)), (x1, .inl (G.2 0, 14, .inl vF115)), (h1, .inr (4, [.ref h0, .ref h2, .int (nI vt105), .int (nI at2_251), .int ft2_252, .int fq2_253, .int lf2_254, .int lq2_255])), (h0, .inr (7, [.ref a1, .ref a2, .ref a3, .ref a4])), (a1, .inl (G.2 0, 401, .inl so_)), (a2, .inl (G.2 0, 401, .inl pl_)), (a3, .inl (G.2 0, 401, .inl nu_)), (a4, .inl (G.2 3, 401, .inr (.inl sp_))), (h2, .inl (G.2 0, 32, .inl vF111))] H _ := hw
            refine W.eq (g2 := F0 m 53 ls []) rfl ?_
            refine lv_aload_n hx hb dX4_readLaw_53 rfl (lv_at hl 1 rfl) ?_
            refine lv_aload_n hx hb dX4_readLaw_54 rfl (lv_at hl 2 rfl) ?_
            refine zz_callV (qb := 3) (As := [.ref w0]) (rest := []) (wr := []) S hw hl.1 lX4_130 (c_greadSum l G h1 h2 h0 a1 a2 a3 a4 vt105 at2_251 ft2_252 fq2_253 lf2_254 lq2_255 so_ pl_ nu_ sp_ vF111 w0 x0 x1 x2 vF114 vF115 vt112 vt113 (by first | assumption | omega | (unfold zz_sok; decide) | decide) (by first | assumption | omega | (unfold zz_sok; decide) | decide) (by first | assumption | omega | (unfold zz_sok; decide) | decide) (by first | assumption | omega | (unfold zz_sok; decide) | decide)) ⟨Nat.le_of_ble_eq_true rfl, Nat.le_of_ble_eq_true rfl⟩ ⟨Nat.le_of_ble_eq_true rfl, Nat.le_of_ble_eq_true rfl⟩ [3, 4, 5, 6, 7, 8, 9, 0, 1, 2] [] (by decide) rfl rfl (by decide) (by decide) rfl rfl rfl rfl (Nat.le_of_ble_eq_true rfl) dX4_readLaw_55 ?_
            clear hw
            intro rr u H locs hp hw
            refine hp.elim fun wm2_256 zg0 => zg0.elim fun wc2_257 zg1 => zg1.elim fun at2_258 zg2 => zg2.elim fun ft2_259 zg3 => zg3.elim fun fq2_260 zg4 => zg4.elim fun lf2_261 zg5 => zg5.elim fun lq2_262 zg6 => zg6.elim fun ff_263 zg7 => zg7.elim fun gg_264 zg8 => zg8.elim fun nn_265 zg9 => zg9.elim fun uu_266 zg10 => zg10.elim fun zee1 zg11 => zg11.elim fun zee2 zg12 => zg12.elim fun hq55_0 zg13 => zg13.elim fun hq55_1 zg14 => zg14.elim fun hq55_2 zg15 => zg15.elim fun hq55_3 zg16 => zg16.elim fun hq55_4 hq55_5 => ?_
            clear hp zg0 zg1 zg2 zg3 zg4 zg5 zg6 zg7 zg8 zg9 zg10 zg11 zg12 zg13 zg14 zg15 zg16
            subst zee1
            subst zee2
            replace hw : zz_w G A s [(h1, .inr (4, [.ref h0, .ref h2, .int (nI wm2_256), .int (nI at2_258), .int ft2_259, .int fq2_260, .int lf2_261, .int lq2_262])), (h0, .inr (7, [.ref a1, .ref a2, .ref a3, .ref a4])), (a1, .inl (G.2 0, 401, .inl so_)), (a2, .inl (G.2 0, 401, .inl pl_)), (a3, .inl (G.2 0, 401, .inl nu_)), (a4, .inl (G.2 3, 401, .inr (.inl sp_))), (h2, .inl (G.2 0, 32, .inl wc2_257)), (w0, .inr (2, [.ref x0, .ref x1, .ref x2, .int (nI nn_265), .int (nI uu_266)])), (x0, .inl (G.2 0, 400, .inl ff_263)), (x1, .inl (G.2 0, 14, .inl gg_264))] H _ := hw
            refine W.eq (g2 := F0 m 58 ls []) rfl ?_
            have hq55_2a := hq55_2.1; have hq55_2b := hq55_2.2.1; have hq55_2c := hq55_2.2.2
            refine lv_aload_n hx hb dX4_readLaw_58 rfl (lv_at hl 1 rfl) ?_
            refine lv_bipush (v := 60) hx hb dX4_readLaw_59 (by decide) ?_
            refine zz_callV (qb := 0) (As := [.int 60]) (rest := []) (wr := [(w0, .inr (2, [.ref x0, .ref x1, .ref x2, .int (nI nn_265), .int (nI uu_266)])), (x0, .inl (G.2 0, 400, .inl ff_263)), (x1, .inl (G.2 0, 14, .inl gg_264))]) S hw hl.1 lX4_92 (c_gexpect l G h1 h2 h0 a1 a2 a3 a4 wm2_256 at2_258 ft2_259 fq2_260 lf2_261 lq2_262 so_ pl_ nu_ sp_ wc2_257 60 (by first | assumption | omega | (unfold zz_sok; decide) | decide) (by first | assumption | omega | (unfold zz_sok; decide) | decide) (by first | assumption | omega | (unfold zz_sok; decide) | decide)) ⟨Nat.le_of_ble_eq_true rfl, Nat.le_of_ble_eq_true rfl⟩ ⟨Nat.le_of_ble_eq_true rfl, Nat.le_of_ble_eq_true rfl⟩ [0, 1, 2, 3, 4, 5, 6] [7, 8, 9] (by decide) rfl rfl (by decide) (by decide) rfl rfl rfl rfl (Nat.le_of_ble_eq_true rfl) dX4_readLaw_61 ?_
            clear hw
            intro rr u H locs hp hw
            refine hp.elim fun at2_267 zg0 => zg0.elim fun ft2_268 zg1 => zg1.elim fun fq2_269 zg2 => zg2.elim fun lf2_270 zg3 => zg3.elim fun lq2_271 zg4 => zg4.elim fun zee1 zg5 => zg5.elim fun zee2 zg6 => zg6.elim fun hq61_0 hq61_1 => ?_
            clear hp zg0 zg1 zg2 zg3 zg4 zg5 zg6
            subst zee1
            subst zee2
            replace hw : zz_w G A s [(w0, .inr (2, [.ref x0, .ref x1, .ref x2, .int (nI nn_265), .int (nI uu_266)])), (x0, .inl (G.2 0, 400, .inl ff_263)), (x1, .inl (G.2 0, 14, .inl gg_264)), (h1, .inr (4, [.ref h0, .ref h2, .int (nI wm2_256), .int (nI at2_267), .int ft2_268, .int fq2_269, .int lf2_270, .int lq2_271])), (h0, .inr (7, [.ref a1, .ref a2, .ref a3, .ref a4])), (a1, .inl (G.2 0, 401, .inl so_)), (a2, .inl (G.2 0, 401, .inl pl_)), (a3, .inl (G.2 0, 401, .inl nu_)), (a4, .inl (G.2 3, 401, .inr (.inl sp_))), (h2, .inl (G.2 0, 32, .inl wc2_257))] H _ := hw
            refine W.eq (g2 := F0 m 64 ls []) rfl ?_
            refine lv_aload_n hx hb dX4_readLaw_64 rfl (lv_at hl 1 rfl) ?_
            refine lv_aload_n hx hb dX4_readLaw_65 rfl (lv_at hl 2 rfl) ?_
            refine zz_callV (qb := 3) (As := [.ref w0]) (rest := []) (wr := []) S hw hl.1 lX4_130 (c_greadSum l G h1 h2 h0 a1 a2 a3 a4 wm2_256 at2_267 ft2_268 fq2_269 lf2_270 lq2_271 so_ pl_ nu_ sp_ wc2_257 w0 x0 x1 x2 ff_263 gg_264 nn_265 uu_266 (by first | assumption | omega | (unfold zz_sok; decide) | decide) (by first | assumption | omega | (unfold zz_sok; decide) | decide) (by first | assumption | omega | (unfold zz_sok; decide) | decide) (by first | assumption | omega | (unfold zz_sok; decide) | decide)) ⟨Nat.le_of_ble_eq_true rfl, Nat.le_of_ble_eq_true rfl⟩ ⟨Nat.le_of_ble_eq_true rfl, Nat.le_of_ble_eq_true rfl⟩ [3, 4, 5, 6, 7, 8, 9, 0, 1, 2] [] (by decide) rfl rfl (by decide) (by decide) rfl rfl rfl rfl (Nat.le_of_ble_eq_true rfl) dX4_readLaw_66 ?_
            clear hw
            intro rr u H locs hp hw
            refine hp.elim fun wm2_272 zg0 => zg0.elim fun wc2_273 zg1 => zg1.elim fun at2_274 zg2 => zg2.elim fun ft2_275 zg3 => zg3.elim fun fq2_276 zg4 => zg4.elim fun lf2_277 zg5 => zg5.elim fun lq2_278 zg6 => zg6.elim fun ff_279 zg7 => zg7.elim fun gg_280 zg8 => zg8.elim fun nn_281 zg9 => zg9.elim fun uu_282 zg10 => zg10.elim fun zee1 zg11 => zg11.elim fun zee2 zg12 => zg12.elim fun hq66_0 zg13 => zg13.elim fun hq66_1 zg14 => zg14.elim fun hq66_2 zg15 => zg15.elim fun hq66_3 zg16 => zg16.elim fun hq66_4 hq66_5 => ?_
            clear hp zg0 zg1 zg2 zg3 zg4 zg5 zg6 zg7 zg8 zg9 zg10 zg11 zg12 zg13 zg14 zg15 zg16
            subst zee1
            subst zee2
            replace hw : zz_w G A s [(h1, .inr (4, [.ref h0, .ref h2, .int (nI wm2_272), .int (nI at2_274), .int ft2_275, .int fq2_276, .int lf2_277, .int lq2_278])), (h0, .inr (7, [.ref a1, .ref a2, .ref a3, .ref a4])), (a1, .inl (G.2 0, 401, .inl so_)), (a2, .inl (G.2 0, 401, .inl pl_)), (a3, .inl (G.2 0, 401, .inl nu_)), (a4, .inl (G.2 3, 401, .inr (.inl sp_))), (h2, .inl (G.2 0, 32, .inl wc2_273)), (w0, .inr (2, [.ref x0, .ref x1, .ref x2, .int (nI nn_281), .int (nI uu_282)])), (x0, .inl (G.2 0, 400, .inl ff_279)), (x1, .inl (G.2 0, 14, .inl gg_280))] H _ := hw
            refine W.eq (g2 := F0 m 69 ls []) rfl ?_
            have hq66_2a := hq66_2.1; have hq66_2b := hq66_2.2.1; have hq66_2c := hq66_2.2.2
            refine W.eq (g2 := F0 m 69 ls []) rfl ?_
            refine lv_aload_n hx hb dX4_readLaw_69 rfl (lv_at hl 1 rfl) ?_
            refine lv_sipush (v := 209) hx hb dX4_readLaw_70 (by decide) ?_
            refine zz_callV (qb := 0) (As := [.int 209]) (rest := []) (wr := [(w0, .inr (2, [.ref x0, .ref x1, .ref x2, .int (nI nn_281), .int (nI uu_282)])), (x0, .inl (G.2 0, 400, .inl ff_279)), (x1, .inl (G.2 0, 14, .inl gg_280))]) S hw hl.1 lX4_92 (c_gexpect l G h1 h2 h0 a1 a2 a3 a4 wm2_272 at2_274 ft2_275 fq2_276 lf2_277 lq2_278 so_ pl_ nu_ sp_ wc2_273 209 (by first | assumption | omega | (unfold zz_sok; decide) | decide) (by first | assumption | omega | (unfold zz_sok; decide) | decide) (by first | assumption | omega | (unfold zz_sok; decide) | decide)) ⟨Nat.le_of_ble_eq_true rfl, Nat.le_of_ble_eq_true rfl⟩ ⟨Nat.le_of_ble_eq_true rfl, Nat.le_of_ble_eq_true rfl⟩ [0, 1, 2, 3, 4, 5, 6] [7, 8, 9] (by decide) rfl rfl (by decide) (by decide) rfl rfl rfl rfl (Nat.le_of_ble_eq_true rfl) dX4_readLaw_73 ?_
            clear hw
            intro rr u H locs hp hw
            refine hp.elim fun at2_283 zg0 => zg0.elim fun ft2_284 zg1 => zg1.elim fun fq2_285 zg2 => zg2.elim fun lf2_286 zg3 => zg3.elim fun lq2_287 zg4 => zg4.elim fun zee1 zg5 => zg5.elim fun zee2 zg6 => zg6.elim fun hq73_0 hq73_1 => ?_
            clear hp zg0 zg1 zg2 zg3 zg4 zg5 zg6
            subst zee1
            subst zee2
            replace hw : zz_w G A s [(w0, .inr (2, [.ref x0, .ref x1, .ref x2, .int (nI nn_281), .int (nI uu_282)])), (x0, .inl (G.2 0, 400, .inl ff_279)), (x1, .inl (G.2 0, 14, .inl gg_280)), (h1, .inr (4, [.ref h0, .ref h2, .int (nI wm2_272), .int (nI at2_283), .int ft2_284, .int fq2_285, .int lf2_286, .int lq2_287])), (h0, .inr (7, [.ref a1, .ref a2, .ref a3, .ref a4])), (a1, .inl (G.2 0, 401, .inl so_)), (a2, .inl (G.2 0, 401, .inl pl_)), (a3, .inl (G.2 0, 401, .inl nu_)), (a4, .inl (G.2 3, 401, .inr (.inl sp_))), (h2, .inl (G.2 0, 32, .inl wc2_273))] H _ := hw
            refine W.eq (g2 := F0 m 76 ls []) rfl ?_
            refine lv_aload_n hx hb dX4_readLaw_76 rfl (lv_at hl 1 rfl) ?_
            refine lv_aload_n hx hb dX4_readLaw_77 rfl (lv_at hl 2 rfl) ?_
            refine zz_callV (qb := 3) (As := [.ref w0]) (rest := []) (wr := []) S hw hl.1 lX4_130 (c_greadSum l G h1 h2 h0 a1 a2 a3 a4 wm2_272 at2_283 ft2_284 fq2_285 lf2_286 lq2_287 so_ pl_ nu_ sp_ wc2_273 w0 x0 x1 x2 ff_279 gg_280 nn_281 uu_282 (by first | assumption | omega | (unfold zz_sok; decide) | decide) (by first | assumption | omega | (unfold zz_sok; decide) | decide) (by first | assumption | omega | (unfold zz_sok; decide) | decide) (by first | assumption | omega | (unfold zz_sok; decide) | decide)) ⟨Nat.le_of_ble_eq_true rfl, Nat.le_of_ble_eq_true rfl⟩ ⟨Nat.le_of_ble_eq_true rfl, Nat.le_of_ble_eq_true rfl⟩ [3, 4, 5, 6, 7, 8, 9, 0, 1, 2] [] (by decide) rfl rfl (by decide) (by decide) rfl rfl rfl rfl (Nat.le_of_ble_eq_true rfl) dX4_readLaw_78 ?_
            clear hw
            intro rr u H locs hp hw
            refine hp.elim fun wm2_288 zg0 => zg0.elim fun wc2_289 zg1 => zg1.elim fun at2_290 zg2 => zg2.elim fun ft2_291 zg3 => zg3.elim fun fq2_292 zg4 => zg4.elim fun lf2_293 zg5 => zg5.elim fun lq2_294 zg6 => zg6.elim fun ff_295 zg7 => zg7.elim fun gg_296 zg8 => zg8.elim fun nn_297 zg9 => zg9.elim fun uu_298 zg10 => zg10.elim fun zee1 zg11 => zg11.elim fun zee2 zg12 => zg12.elim fun hq78_0 zg13 => zg13.elim fun hq78_1 zg14 => zg14.elim fun hq78_2 zg15 => zg15.elim fun hq78_3 zg16 => zg16.elim fun hq78_4 hq78_5 => ?_
            clear hp zg0 zg1 zg2 zg3 zg4 zg5 zg6 zg7 zg8 zg9 zg10 zg11 zg12 zg13 zg14 zg15 zg16
            subst zee1
            subst zee2
            replace hw : zz_w G A s [(h1, .inr (4, [.ref h0, .ref h2, .int (nI wm2_288), .int (nI at2_290), .int ft2_291, .int fq2_292, .int lf2_293, .int lq2_294])), (h0, .inr (7, [.ref a1, .ref a2, .ref a3, .ref a4])), (a1, .inl (G.2 0, 401, .inl so_)), (a2, .inl (G.2 0, 401, .inl pl_)), (a3, .inl (G.2 0, 401, .inl nu_)), (a4, .inl (G.2 3, 401, .inr (.inl sp_))), (h2, .inl (G.2 0, 32, .inl wc2_289)), (w0, .inr (2, [.ref x0, .ref x1, .ref x2, .int (nI nn_297), .int (nI uu_298)])), (x0, .inl (G.2 0, 400, .inl ff_295)), (x1, .inl (G.2 0, 14, .inl gg_296))] H _ := hw
            refine W.eq (g2 := F0 m 81 ls []) rfl ?_
            have hq78_2a := hq78_2.1; have hq78_2b := hq78_2.2.1; have hq78_2c := hq78_2.2.2
            refine lv_aload_n hx hb dX4_readLaw_81 rfl (lv_at hl 1 rfl) ?_
            refine lv_sipush (v := 210) hx hb dX4_readLaw_82 (by decide) ?_
            refine zz_callV (qb := 0) (As := [.int 210]) (rest := []) (wr := [(w0, .inr (2, [.ref x0, .ref x1, .ref x2, .int (nI nn_297), .int (nI uu_298)])), (x0, .inl (G.2 0, 400, .inl ff_295)), (x1, .inl (G.2 0, 14, .inl gg_296))]) S hw hl.1 lX4_92 (c_gexpect l G h1 h2 h0 a1 a2 a3 a4 wm2_288 at2_290 ft2_291 fq2_292 lf2_293 lq2_294 so_ pl_ nu_ sp_ wc2_289 210 (by first | assumption | omega | (unfold zz_sok; decide) | decide) (by first | assumption | omega | (unfold zz_sok; decide) | decide) (by first | assumption | omega | (unfold zz_sok; decide) | decide)) ⟨Nat.le_of_ble_eq_true rfl, Nat.le_of_ble_eq_true rfl⟩ ⟨Nat.le_of_ble_eq_true rfl, Nat.le_of_ble_eq_true rfl⟩ [0, 1, 2, 3, 4, 5, 6] [7, 8, 9] (by decide) rfl rfl (by decide) (by decide) rfl rfl rfl rfl (Nat.le_of_ble_eq_true rfl) dX4_readLaw_85 ?_
            clear hw
            intro rr u H locs hp hw
            refine hp.elim fun at2_299 zg0 => zg0.elim fun ft2_300 zg1 => zg1.elim fun fq2_301 zg2 => zg2.elim fun lf2_302 zg3 => zg3.elim fun lq2_303 zg4 => zg4.elim fun zee1 zg5 => zg5.elim fun zee2 zg6 => zg6.elim fun hq85_0 hq85_1 => ?_
            clear hp zg0 zg1 zg2 zg3 zg4 zg5 zg6
            subst zee1
            subst zee2
            replace hw : zz_w G A s [(w0, .inr (2, [.ref x0, .ref x1, .ref x2, .int (nI nn_297), .int (nI uu_298)])), (x0, .inl (G.2 0, 400, .inl ff_295)), (x1, .inl (G.2 0, 14, .inl gg_296)), (h1, .inr (4, [.ref h0, .ref h2, .int (nI wm2_288), .int (nI at2_299), .int ft2_300, .int fq2_301, .int lf2_302, .int lq2_303])), (h0, .inr (7, [.ref a1, .ref a2, .ref a3, .ref a4])), (a1, .inl (G.2 0, 401, .inl so_)), (a2, .inl (G.2 0, 401, .inl pl_)), (a3, .inl (G.2 0, 401, .inl nu_)), (a4, .inl (G.2 3, 401, .inr (.inl sp_))), (h2, .inl (G.2 0, 32, .inl wc2_289))] H _ := hw
            refine W.eq (g2 := F0 m 88 ls []) rfl ?_
            refine lv_iinc (v := (nI (vi11 + 1))) (lv' := [(2, .int (nI (vi11 + 1))), (0, .ref h1), (1, .ref w0)]) hx hb dX4_readLaw_88 hl (k := 0) rfl (nI_add _ 1) (by decide) rfl (fun ls hl => ?_)
            refine lv_goto (tgt := 16) hx hb dX4_readLaw_91 (by decide) ?_
            exact ih16 (vi11 + 1) wm2_288 at2_299 ft2_300 fq2_301 lf2_302 lq2_303 wc2_289 nn_297 uu_298 ff_295 gg_296 _ _ _ (by omega) (by omega) (by omega) (by omega) (by omega) (by omega) (by first | assumption | omega) (zs_i_go hv16_213 (by assumption) (by assumption) (by omega) (zs_if1_y hq50_1 hq55_3 hq61_1 hq66_3 hq73_1 hq78_3 hq85_1)) (zl_Rb hv16_214 (by assumption) (by assumption) (by omega) hq50_1 hq55_3 hq61_1 hq66_3 hq73_1 hq78_3 hq85_1 hq55_4 hq55_5 hq66_4 hq66_5 hq78_4 hq78_5) (hw.sub [3, 4, 5, 6, 7, 8, 9, 0, 1, 2] (by decide) rfl) (lv_sub hl [0, 1, 2] rfl)
          · skip
            have c40_250n : vi11 = 4 := (zz_eq (a := vi11) (b := 4) rfl rfl (by omega) (by omega)).mp c40_250
            refine lv_aload_n hx hb dX4_readLaw_43 rfl (lv_at hl 1 rfl) ?_
            refine lv_iconst (v := 2) hx hb dX4_readLaw_44 (by decide) ?_
            refine zz_callV (qb := 3) (As := [.int 2]) (rest := []) (wr := [(w0, .inr (2, [.ref x0, .ref x1, .ref x2, .int (nI vt112), .int (nI vt113)])), (x0, .inl (G.2 0, 400, .inl vF114)), (x1, .inl (G.2 0, 14, .inl vF115))]) S hw hl.1 lX4_66 (c_gfail l G h1 h2 h0 a1 a2 a3 a4 vt105 vt106 vy107 vy108 vy109 vy110 so_ pl_ nu_ sp_ vF111 2 (by first | assumption | omega | (unfold zz_sok; decide) | decide) (by first | assumption | omega | (unfold zz_sok; decide) | decide) (by first | assumption | omega | (unfold zz_sok; decide) | decide) (by first | assumption | omega | (unfold zz_sok; decide) | decide)) ⟨Nat.le_of_ble_eq_true rfl, Nat.le_of_ble_eq_true rfl⟩ ⟨Nat.le_of_ble_eq_true rfl, Nat.le_of_ble_eq_true rfl⟩ [3, 4, 5, 6, 7, 8, 9] [0, 1, 2] (by decide) rfl rfl (by decide) (by decide) rfl rfl rfl rfl (Nat.le_of_ble_eq_true rfl) dX4_readLaw_45 ?_
            clear hw
            intro rr u H locs hp hw
            refine hp.elim fun ft2_304 zg0 => zg0.elim fun fq2_305 zg1 => zg1.elim fun lf2_306 zg2 => zg2.elim fun lq2_307 zg3 => zg3.elim fun zee1 zg4 => zg4.elim fun zee2 hq45_0 => ?_
            clear hp zg0 zg1 zg2 zg3 zg4
            subst zee1
            subst zee2
            replace hw : zz_w G A s [(w0, .inr (2, [.ref x0, .ref x1, .ref x2, .int (nI vt112), .int (nI vt113)])), (x0, .inl (G.2 0, 400, .inl vF114)), (x1, .inl (G.2 0, 14, .inl vF115)), (h1, .inr (4, [.ref h0, .ref h2, .int (nI vt105), .int (nI vt106), .int ft2_304, .int fq2_305, .int lf2_306, .int lq2_307])), (h0, .inr (7, [.ref a1, .ref a2, .ref a3, .ref a4])), (a1, .inl (G.2 0, 401, .inl so_)), (a2, .inl (G.2 0, 401, .inl pl_)), (a3, .inl (G.2 0, 401, .inl nu_)), (a4, .inl (G.2 3, 401, .inr (.inl sp_))), (h2, .inl (G.2 0, 32, .inl vF111))] H _ := hw
            refine W.eq (g2 := F0 m 48 ls []) rfl ?_
            refine W.eq (g2 := F0 m 48 ls []) rfl ?_
            exact hret _ _ _ _ _ ⟨vt105, vF111, vt106, ft2_304, fq2_305, lf2_306, lq2_307, vF114, vF115, vt112, vt113, rfl, rfl, (by first | assumption | omega | exact ⟨by assumption, by omega, by omega⟩ | exact ⟨by assumption, by omega⟩), (by first | assumption | omega | exact ⟨by assumption, by omega, by omega⟩ | exact ⟨by assumption, by omega⟩), (by first | assumption | omega | exact ⟨by assumption, by omega, by omega⟩ | exact ⟨by assumption, by omega⟩), (by first | exact zs_i_room hv16_213 (by assumption) (by assumption) (by omega) hq45_0 | exact zs_i_x hv16_213 (Or.inl (by assumption)) hq96_3 hq102_1 | exact zs_i_x hv16_213 (Or.inr (by assumption)) hq96_3 hq102_1), (by first | exact zl_Ed (zs_fail_d hq45_0) | exact zl_Rx hv16_214 (by omega) (Or.inl (by assumption)) hq96_3 hq102_1 hq96_4 hq96_5 | exact zl_Rx hv16_214 (by omega) (Or.inr (by assumption)) hq96_3 hq102_1 hq96_4 hq96_5)⟩ (hw.sub [3, 4, 5, 6, 7, 8, 9, 0, 1, 2] (by decide) rfl) dX4_readLaw_48
  exact lp16_215 (4 + 1 - 0) 0 wm at2_6 ft2_7 fq2_8 lf2_9 lq2_10 wc 0 0 f0 g0 _ _ _ (by omega) (by omega) (by omega) (by omega) (by omega) (by omega) (by first | assumption | omega | decide) (by rw [← hq7_1, ← hq1_1]; rfl) (zl_R0 hq1_1 hq7_1 hlv.2.2.1) hw (lv_sub hl [0, 1, 2] rfl)
