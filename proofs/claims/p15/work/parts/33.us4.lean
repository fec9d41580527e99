theorem kd_ncX6_begin : kd_ck 976938421094638022917661484653556010821600636150658817567734177316409122734330174811224211739115040448725153693419947734863972963108871727931213899421252729323229739594649124388506359003743216945816529097497062439695403 91 cX6_begin.data.toList 0 = true := by decide +kernel
theorem dX6_begin_0 : decode cX6_begin 0 = .ok (.aload_n 1, 1) := kd_dk0 kd_o43 kd_ncX6_begin rfl
theorem dX6_begin_1 : decode cX6_begin 1 = .ok (.getfield 34, 3) := kd_dk2 kd_o180 kd_ncX6_begin rfl
theorem dX6_begin_4 : decode cX6_begin 4 = .ok (.iconst 0, 1) := kd_dk0 kd_o3 kd_ncX6_begin rfl
theorem dX6_begin_5 : decode cX6_begin 5 = .ok (.aload_n 0, 1) := kd_dk0 kd_o42 kd_ncX6_begin rfl
theorem dX6_begin_6 : decode cX6_begin 6 = .ok (.getfield 9, 3) := kd_dk2 kd_o180 kd_ncX6_begin rfl
theorem dX6_begin_9 : decode cX6_begin 9 = .ok (.iconst 0, 1) := kd_dk0 kd_o3 kd_ncX6_begin rfl
theorem dX6_begin_10 : decode cX6_begin 10 = .ok (.bipush 7, 2) := kd_dj1 kd_o16 (w := 7) kd_ncX6_begin rfl rfl
theorem dX6_begin_12 : decode cX6_begin 12 = .ok (.invokestatic 37, 3) := kd_dk2 kd_o184 kd_ncX6_begin rfl
theorem dX6_begin_15 : decode cX6_begin 15 = .ok (.aload_n 1, 1) := kd_dk0 kd_o43 kd_ncX6_begin rfl
theorem dX6_begin_16 : decode cX6_begin 16 = .ok (.getfield 43, 3) := kd_dk2 kd_o180 kd_ncX6_begin rfl
theorem dX6_begin_19 : decode cX6_begin 19 = .ok (.iconst 0, 1) := kd_dk0 kd_o3 kd_ncX6_begin rfl
theorem dX6_begin_20 : decode cX6_begin 20 = .ok (.aload_n 0, 1) := kd_dk0 kd_o42 kd_ncX6_begin rfl
theorem dX6_begin_21 : decode cX6_begin 21 = .ok (.getfield 15, 3) := kd_dk2 kd_o180 kd_ncX6_begin rfl
theorem dX6_begin_24 : decode cX6_begin 24 = .ok (.iconst 0, 1) := kd_dk0 kd_o3 kd_ncX6_begin rfl
theorem dX6_begin_25 : decode cX6_begin 25 = .ok (.bipush 6, 2) := kd_dj1 kd_o16 (w := 6) kd_ncX6_begin rfl rfl
theorem dX6_begin_27 : decode cX6_begin 27 = .ok (.invokestatic 37, 3) := kd_dk2 kd_o184 kd_ncX6_begin rfl
theorem dX6_begin_30 : decode cX6_begin 30 = .ok (.iconst 0, 1) := kd_dk0 kd_o3 kd_ncX6_begin rfl
theorem dX6_begin_31 : decode cX6_begin 31 = .ok (.istore_n 2, 1) := kd_dk0 kd_o61 kd_ncX6_begin rfl
theorem dX6_begin_32 : decode cX6_begin 32 = .ok (.iload_n 2, 1) := kd_dk0 kd_o28 kd_ncX6_begin rfl
theorem dX6_begin_33 : decode cX6_begin 33 = .ok (.bipush 7, 2) := kd_dj1 kd_o16 (w := 7) kd_ncX6_begin rfl rfl
theorem dX6_begin_35 : decode cX6_begin 35 = .ok (.if_icmp .ge 16, 3) := kd_dj2 kd_o162 (w := 16) kd_ncX6_begin rfl rfl
theorem dX6_begin_38 : decode cX6_begin 38 = .ok (.aload_n 0, 1) := kd_dk0 kd_o42 kd_ncX6_begin rfl
theorem dX6_begin_39 : decode cX6_begin 39 = .ok (.getfield 18, 3) := kd_dk2 kd_o180 kd_ncX6_begin rfl
theorem dX6_begin_42 : decode cX6_begin 42 = .ok (.iload_n 2, 1) := kd_dk0 kd_o28 kd_ncX6_begin rfl
theorem dX6_begin_43 : decode cX6_begin 43 = .ok (.iconst 0, 1) := kd_dk0 kd_o3 kd_ncX6_begin rfl
theorem dX6_begin_44 : decode cX6_begin 44 = .ok (.iastore, 1) := kd_dk0 kd_o79 kd_ncX6_begin rfl
theorem dX6_begin_45 : decode cX6_begin 45 = .ok (.iinc 2 1, 3) := kd_dji kd_o132 (w := 1) kd_ncX6_begin rfl rfl
theorem dX6_begin_48 : decode cX6_begin 48 = .ok (.goto (-16), 3) := kd_dj2 kd_o167 (w := 65520) kd_ncX6_begin rfl rfl
theorem dX6_begin_51 : decode cX6_begin 51 = .ok (.iconst 0, 1) := kd_dk0 kd_o3 kd_ncX6_begin rfl
theorem dX6_begin_52 : decode cX6_begin 52 = .ok (.istore_n 2, 1) := kd_dk0 kd_o61 kd_ncX6_begin rfl
theorem dX6_begin_53 : decode cX6_begin 53 = .ok (.iload_n 2, 1) := kd_dk0 kd_o28 kd_ncX6_begin rfl
theorem dX6_begin_54 : decode cX6_begin 54 = .ok (.aload_n 0, 1) := kd_dk0 kd_o42 kd_ncX6_begin rfl
theorem dX6_begin_55 : decode cX6_begin 55 = .ok (.getfield 21, 3) := kd_dk2 kd_o180 kd_ncX6_begin rfl
theorem dX6_begin_58 : decode cX6_begin 58 = .ok (.arraylength, 1) := kd_dk0 kd_o190 kd_ncX6_begin rfl
theorem dX6_begin_59 : decode cX6_begin 59 = .ok (.if_icmp .ge 16, 3) := kd_dj2 kd_o162 (w := 16) kd_ncX6_begin rfl rfl
theorem dX6_begin_62 : decode cX6_begin 62 = .ok (.aload_n 0, 1) := kd_dk0 kd_o42 kd_ncX6_begin rfl
theorem dX6_begin_63 : decode cX6_begin 63 = .ok (.getfield 21, 3) := kd_dk2 kd_o180 kd_ncX6_begin rfl
theorem dX6_begin_66 : decode cX6_begin 66 = .ok (.iload_n 2, 1) := kd_dk0 kd_o28 kd_ncX6_begin rfl
theorem dX6_begin_67 : decode cX6_begin 67 = .ok (.iconst 0, 1) := kd_dk0 kd_o3 kd_ncX6_begin rfl
theorem dX6_begin_68 : decode cX6_begin 68 = .ok (.iastore, 1) := kd_dk0 kd_o79 kd_ncX6_begin rfl
theorem dX6_begin_69 : decode cX6_begin 69 = .ok (.iinc 2 1, 3) := kd_dji kd_o132 (w := 1) kd_ncX6_begin rfl rfl
theorem dX6_begin_72 : decode cX6_begin 72 = .ok (.goto (-19), 3) := kd_dj2 kd_o167 (w := 65517) kd_ncX6_begin rfl rfl
theorem dX6_begin_75 : decode cX6_begin 75 = .ok (.aload_n 0, 1) := kd_dk0 kd_o42 kd_ncX6_begin rfl
theorem dX6_begin_76 : decode cX6_begin 76 = .ok (.iconst 0, 1) := kd_dk0 kd_o3 kd_ncX6_begin rfl
theorem dX6_begin_77 : decode cX6_begin 77 = .ok (.putfield 24, 3) := kd_dk2 kd_o181 kd_ncX6_begin rfl
theorem dX6_begin_80 : decode cX6_begin 80 = .ok (.aload_n 0, 1) := kd_dk0 kd_o42 kd_ncX6_begin rfl
theorem dX6_begin_81 : decode cX6_begin 81 = .ok (.iconst 0, 1) := kd_dk0 kd_o3 kd_ncX6_begin rfl
theorem dX6_begin_82 : decode cX6_begin 82 = .ok (.putfield 28, 3) := kd_dk2 kd_o181 kd_ncX6_begin rfl
theorem dX6_begin_85 : decode cX6_begin 85 = .ok (.aload_n 0, 1) := kd_dk0 kd_o42 kd_ncX6_begin rfl
theorem dX6_begin_86 : decode cX6_begin 86 = .ok (.iconst 0, 1) := kd_dk0 kd_o3 kd_ncX6_begin rfl
theorem dX6_begin_87 : decode cX6_begin 87 = .ok (.putfield 31, 3) := kd_dk2 kd_o181 kd_ncX6_begin rfl
theorem dX6_begin_90 : decode cX6_begin 90 = .ok (.return_, 1) := kd_dk0 kd_o177 kd_ncX6_begin rfl
set_option maxHeartbeats 8000000 in
set_option maxRecDepth 100000 in
theorem c_gbegin (l : Launch) (G : zz_G) (k0 : Nat) (b1 : Nat) (b2 : Nat) (b3 : Nat) (b4 : Nat) (e1 : Nat → Int32) (e2 : Nat → Int32) (e3 : Nat → Int32) (e4 : Nat → Int32) (o1 : Int32) (o2 : Int32) (o3 : Int32) (dr0 : Nat) (dd1 : Nat) (dd2 : Nat) (dd3 : Nat) (dd4 : Nat) (dd5 : Nat) (dd6 : Nat) (dd7 : Nat) (dd8 : Nat) (dd9 : Nat) (di1 : Int32) (di2 : Int32) (di3 : Int32) (di4 : Int32) (dm2 : Nat → Int32) (dm5 : Nat → Int32) : zz_M l G mX6_begin 1 0 0 [.ref k0, .ref dr0] [(k0, .inr (6, [.ref b1, .ref b2, .ref b3, .ref b4, .int o1, .int o2, .int o3])), (b1, .inl (G.2 0, 7, .inl e1)), (b2, .inl (G.2 0, 6, .inl e2)), (b3, .inl (G.2 0, 7, .inl e3)), (b4, .inl (G.2 0, 42, .inl e4)), (dr0, .inr (5, [.ref dd1, .ref dd2, .ref dd3, .ref dd4, .ref dd5, .ref dd6, .ref dd7, .ref dd8, .ref dd9, .int di1, .int di2, .int di3, .int di4])), (dd2, .inl (G.2 0, 7, .inl dm2)), (dd5, .inl (G.2 0, 6, .inl dm5))] (fun rr u => ∃ (ee1 : Nat → Int32), ∃ (ee2 : Nat → Int32), ∃ (ee3 : Nat → Int32), ∃ (ee4 : Nat → Int32), ∃ (oo1 : Int32), ∃ (oo2 : Int32), ∃ (oo3 : Int32), rr = none ∧ u = [(k0, .inr (6, [.ref b1, .ref b2, .ref b3, .ref b4, .int oo1, .int oo2, .int oo3])), (b1, .inl (G.2 0, 7, .inl ee1)), (b2, .inl (G.2 0, 6, .inl ee2)), (b3, .inl (G.2 0, 7, .inl ee3)), (b4, .inl (G.2 0, 42, .inl ee4)), (dr0, .inr (5, [.ref dd1, .ref dd2, .ref dd3, .ref dd4, .ref dd5, .ref dd6, .ref dd7, .ref dd8, .ref dd9, .int di1, .int di2, .int di3, .int di4])), (dd2, .inl (G.2 0, 7, .inl dm2)), (dd5, .inl (G.2 0, 6, .inl dm5))] ∧ (zy_q 7 dm2 ee1) ∧ (zy_q 6 dm5 ee2) ∧ (zz_z0 ee3 7) ∧ (zz_z0 ee4 42) ∧ (oo1 = 0 ∧ oo2 = 0 ∧ oo3 = 0)) := by
  refine zz_enterv (by decide +kernel) (Nat.le_of_ble_eq_true rfl) ?_
  intro p e s m args below meth c A Q ls S hnm hret hw hl
  have hl : lv_has ls 3 [(0, .ref k0), (1, .ref dr0)] := hl
  have hx := S.1
  have hb := S.2.1
  refine lv_aload_n hx hb dX6_begin_0 rfl (lv_at hl 1 rfl) ?_
  refine zz_get (v := .ref dd2) S hw fgX6_34 5 rfl rfl dX6_begin_1 ?_
  refine lv_iconst (v := 0) hx hb dX6_begin_4 (by decide) ?_
  refine lv_aload_n hx hb dX6_begin_5 rfl (lv_at hl 0 rfl) ?_
  refine zz_get (v := .ref b1) S hw fgX6_9 0 rfl rfl dX6_begin_6 ?_
  refine lv_iconst (v := 0) hx hb dX6_begin_9 (by decide) ?_
  refine lv_bipush (v := 7) hx hb dX6_begin_10 (by decide) ?_
  refine zz_copyi (ws' := [(k0, .inr (6, [.ref b1, .ref b2, .ref b3, .ref b4, .int o1, .int o2, .int o3])), (b1, .inl (G.2 0, 7, .inl (va_cpy dm2 e1 0 0 7))), (b2, .inl (G.2 0, 6, .inl e2)), (b3, .inl (G.2 0, 7, .inl e3)), (b4, .inl (G.2 0, 42, .inl e4)), (dr0, .inr (5, [.ref dd1, .ref dd2, .ref dd3, .ref dd4, .ref dd5, .ref dd6, .ref dd7, .ref dd8, .ref dd9, .int di1, .int di2, .int di3, .int di4])), (dd2, .inl (G.2 0, 7, .inl dm2)), (dd5, .inl (G.2 0, 6, .inl dm5))]) (g' := (va_cpy dm2 e1 0 0 7)) S hw hl.1 (zz_c3 142 rfl rfl) 6 1 rfl rfl (by decide) (by decide) (by decide) (by decide) (by decide) (by rw [show (0 : Int32).toNatClampNeg = 0 from rfl, show (7 : Int32).toNatClampNeg = 7 from nI_clamp (n := 7) (by decide)]) rfl (Nat.le_of_ble_eq_true rfl) (Nat.le_of_ble_eq_true rfl) dX6_begin_12 ?_
  clear hw
  intro H locs hw
  refine lv_aload_n hx hb dX6_begin_15 rfl (lv_at hl 1 rfl) ?_
  refine zz_get (v := .ref dd5) S hw fgX6_43 5 rfl rfl dX6_begin_16 ?_
  refine lv_iconst (v := 0) hx hb dX6_begin_19 (by decide) ?_
  refine lv_aload_n hx hb dX6_begin_20 rfl (lv_at hl 0 rfl) ?_
  refine zz_get (v := .ref b2) S hw fgX6_15 0 rfl rfl dX6_begin_21 ?_
  refine lv_iconst (v := 0) hx hb dX6_begin_24 (by decide) ?_
  refine W.eq (g2 := F0 m 25 ls [.int 0, .ref b2, .int 0, .ref dd5]) rfl ?_
  refine lv_bipush (v := 6) hx hb dX6_begin_25 (by decide) ?_
  refine zz_copyi (ws' := [(k0, .inr (6, [.ref b1, .ref b2, .ref b3, .ref b4, .int o1, .int o2, .int o3])), (b1, .inl (G.2 0, 7, .inl (va_cpy dm2 e1 0 0 7))), (b2, .inl (G.2 0, 6, .inl (va_cpy dm5 e2 0 0 6))), (b3, .inl (G.2 0, 7, .inl e3)), (b4, .inl (G.2 0, 42, .inl e4)), (dr0, .inr (5, [.ref dd1, .ref dd2, .ref dd3, .ref dd4, .ref dd5, .ref dd6, .ref dd7, .ref dd8, .ref dd9, .int di1, .int di2, .int di3, .int di4])), (dd2, .inl (G.2 0, 7, .inl dm2)), (dd5, .inl (G.2 0, 6, .inl dm5))]) (g' := (va_cpy dm5 e2 0 0 6)) S hw hl.1 (zz_c3 142 rfl rfl) 7 2 rfl rfl (by decide) (by decide) (by decide) (by decide) (by decide) (by rw [show (0 : Int32).toNatClampNeg = 0 from rfl, show (6 : Int32).toNatClampNeg = 6 from nI_clamp (n := 6) (by decide)]) rfl (Nat.le_of_ble_eq_true rfl) (Nat.le_of_ble_eq_true rfl) dX6_begin_27 ?_
  clear hw
  intro H locs hw
  refine lv_iconst (v := 0) hx hb dX6_begin_30 (by decide) ?_
  refine lv_istore_n (lv' := [(2, .int 0), (0, .ref k0), (1, .ref dr0)]) hx hb dX6_begin_31 rfl hl (by decide) rfl (fun ls hl => ?_)
  have lp32_23 : ∀ (vn2 vi1 : Nat) (vF12 : Nat → Int32) (H : Heap) (locs : List Loc) (ls : Array Slot), vi1 ≤ 7 → 7 < vi1 + vn2 → zz_z0 vF12 vi1 → zz_w G A s [(k0, .inr (6, [.ref b1, .ref b2, .ref b3, .ref b4, .int o1, .int o2, .int o3])), (b1, .inl (G.2 0, 7, .inl (va_cpy dm2 e1 0 0 7))), (b2, .inl (G.2 0, 6, .inl (va_cpy dm5 e2 0 0 6))), (b3, .inl (G.2 0, 7, .inl vF12)), (b4, .inl (G.2 0, 42, .inl e4)), (dr0, .inr (5, [.ref dd1, .ref dd2, .ref dd3, .ref dd4, .ref dd5, .ref dd6, .ref dd7, .ref dd8, .ref dd9, .int di1, .int di2, .int di3, .int di4])), (dd2, .inl (G.2 0, 7, .inl dm2)), (dd5, .inl (G.2 0, 6, .inl dm5))] H locs → lv_has ls 3 [(2, .int (nI vi1)), (0, .ref k0), (1, .ref dr0)] → W p l e (zz_rm 1 0 0) s m args below meth c H locs (0) (0) Q (F0 m 32 ls []) := by
    intro vn2
    induction vn2 with
    | zero => intro vi1 vF12 H locs ls hi1 hi2; exact absurd hi2 (by omega)
    | succ vn2 ih32 =>
      intro vi1 vF12 H locs ls hi32a hi32b hv32_22 hw hl
      refine lv_iload_n hx hb dX6_begin_32 rfl (lv_at hl 0 rfl) ?_
      refine lv_bipush (v := 7) hx hb dX6_begin_33 (by decide) ?_
      refine lv_icmp_ge (tgt := 51) hx hb dX6_begin_35 (by decide) (fun c35_24 => ?_) (fun c35_24 => ?_)
      · skip
        have c35_24n : 7 ≤ vi1 := (zz_le (a := 7) (b := vi1) rfl rfl (by omega) (by omega)).mp c35_24
        refine lv_iconst (v := 0) hx hb dX6_begin_51 (by decide) ?_
        refine lv_istore_n (lv' := [(2, .int 0), (0, .ref k0), (1, .ref dr0)]) hx hb dX6_begin_52 rfl hl (by decide) rfl (fun ls hl => ?_)
        have lp53_31 : ∀ (vn26 vi25 : Nat) (vF28 : Nat → Int32) (H : Heap) (locs : List Loc) (ls : Array Slot), vi25 ≤ 42 → 42 < vi25 + vn26 → zz_z0 vF28 vi25 → zz_w G A s [(k0, .inr (6, [.ref b1, .ref b2, .ref b3, .ref b4, .int o1, .int o2, .int o3])), (b1, .inl (G.2 0, 7, .inl (va_cpy dm2 e1 0 0 7))), (b2, .inl (G.2 0, 6, .inl (va_cpy dm5 e2 0 0 6))), (b3, .inl (G.2 0, 7, .inl vF12)), (b4, .inl (G.2 0, 42, .inl vF28)), (dr0, .inr (5, [.ref dd1, .ref dd2, .ref dd3, .ref dd4, .ref dd5, .ref dd6, .ref dd7, .ref dd8, .ref dd9, .int di1, .int di2, .int di3, .int di4])), (dd2, .inl (G.2 0, 7, .inl dm2)), (dd5, .inl (G.2 0, 6, .inl dm5))] H locs → lv_has ls 3 [(2, .int (nI vi25)), (0, .ref k0), (1, .ref dr0)] → W p l e (zz_rm 1 0 0) s m args below meth c H locs (0) (0) Q (F0 m 53 ls []) := by
          intro vn26
          induction vn26 with
          | zero => intro vi25 vF28 H locs ls hi1 hi2; exact absurd hi2 (by omega)
          | succ vn26 ih53 =>
            intro vi25 vF28 H locs ls hi53a hi53b hv53_30 hw hl
            refine lv_iload_n hx hb dX6_begin_53 rfl (lv_at hl 0 rfl) ?_
            refine lv_aload_n hx hb dX6_begin_54 rfl (lv_at hl 1 rfl) ?_
            refine zz_get (v := .ref b4) S hw fgX6_21 0 rfl rfl dX6_begin_55 ?_
            refine zz_alen (v := 42) S hw 4 0 rfl rfl rfl dX6_begin_58 ?_
            refine lv_icmp_ge (tgt := 75) hx hb dX6_begin_59 (by decide) (fun c59_32 => ?_) (fun c59_32 => ?_)
            · skip
              have c59_32n : 42 ≤ vi25 := (zz_le (a := 42) (b := vi25) rfl rfl (by omega) (by omega)).mp c59_32
              refine lv_aload_n hx hb dX6_begin_75 rfl (lv_at hl 1 rfl) ?_
              refine lv_iconst (v := 0) hx hb dX6_begin_76 (by decide) ?_
              refine W.eq (g2 := F0 m 77 ls [.int 0, .ref k0]) rfl ?_
              refine zz_put (ws' := [(k0, .inr (6, [.ref b1, .ref b2, .ref b3, .ref b4, .int 0, .int o2, .int o3])), (b1, .inl (G.2 0, 7, .inl (va_cpy dm2 e1 0 0 7))), (b2, .inl (G.2 0, 6, .inl (va_cpy dm5 e2 0 0 6))), (b3, .inl (G.2 0, 7, .inl vF12)), (b4, .inl (G.2 0, 42, .inl vF28)), (dr0, .inr (5, [.ref dd1, .ref dd2, .ref dd3, .ref dd4, .ref dd5, .ref dd6, .ref dd7, .ref dd8, .ref dd9, .int di1, .int di2, .int di3, .int di4])), (dd2, .inl (G.2 0, 7, .inl dm2)), (dd5, .inl (G.2 0, 6, .inl dm5))]) (v := .int 0) S hw fpX6_24 0 rfl rfl rfl (Nat.le_of_ble_eq_true rfl) rfl dX6_begin_77 ?_
              clear hw
              intro H locs hw
              refine lv_aload_n hx hb dX6_begin_80 rfl (lv_at hl 1 rfl) ?_
              refine lv_iconst (v := 0) hx hb dX6_begin_81 (by decide) ?_
              refine zz_put (ws' := [(k0, .inr (6, [.ref b1, .ref b2, .ref b3, .ref b4, .int 0, .int 0, .int o3])), (b1, .inl (G.2 0, 7, .inl (va_cpy dm2 e1 0 0 7))), (b2, .inl (G.2 0, 6, .inl (va_cpy dm5 e2 0 0 6))), (b3, .inl (G.2 0, 7, .inl vF12)), (b4, .inl (G.2 0, 42, .inl vF28)), (dr0, .inr (5, [.ref dd1, .ref dd2, .ref dd3, .ref dd4, .ref dd5, .ref dd6, .ref dd7, .ref dd8, .ref dd9, .int di1, .int di2, .int di3, .int di4])), (dd2, .inl (G.2 0, 7, .inl dm2)), (dd5, .inl (G.2 0, 6, .inl dm5))]) (v := .int 0) S hw fpX6_28 0 rfl rfl rfl (Nat.le_of_ble_eq_true rfl) rfl dX6_begin_82 ?_
              clear hw
              intro H locs hw
              refine lv_aload_n hx hb dX6_begin_85 rfl (lv_at hl 1 rfl) ?_
              refine lv_iconst (v := 0) hx hb dX6_begin_86 (by decide) ?_
              refine zz_put (ws' := [(k0, .inr (6, [.ref b1, .ref b2, .ref b3, .ref b4, .int 0, .int 0, .int 0])), (b1, .inl (G.2 0, 7, .inl (va_cpy dm2 e1 0 0 7))), (b2, .inl (G.2 0, 6, .inl (va_cpy dm5 e2 0 0 6))), (b3, .inl (G.2 0, 7, .inl vF12)), (b4, .inl (G.2 0, 42, .inl vF28)), (dr0, .inr (5, [.ref dd1, .ref dd2, .ref dd3, .ref dd4, .ref dd5, .ref dd6, .ref dd7, .ref dd8, .ref dd9, .int di1, .int di2, .int di3, .int di4])), (dd2, .inl (G.2 0, 7, .inl dm2)), (dd5, .inl (G.2 0, 6, .inl dm5))]) (v := .int 0) S hw fpX6_31 0 rfl rfl rfl (Nat.le_of_ble_eq_true rfl) rfl dX6_begin_87 ?_
              clear hw
              intro H locs hw
              exact hret _ _ _ _ _ ⟨(va_cpy dm2 e1 0 0 7), (va_cpy dm5 e2 0 0 6), vF12, vF28, 0, 0, 0, rfl, rfl, zy_cpy, zy_cpy, (zz_z0e hv32_22 (by omega)), (zz_z0e hv53_30 (by omega)), ⟨rfl, rfl, rfl⟩⟩ hw dX6_begin_90
            · skip
              have c59_32n : ¬ (42 ≤ vi25) := fun z => c59_32 ((zz_le (a := 42) (b := vi25) rfl rfl (by omega) (by omega)).mpr z)
              refine lv_aload_n hx hb dX6_begin_62 rfl (lv_at hl 1 rfl) ?_
              refine zz_get (v := .ref b4) S hw fgX6_21 0 rfl rfl dX6_begin_63 ?_
              refine lv_iload_n hx hb dX6_begin_66 rfl (lv_at hl 0 rfl) ?_
              refine lv_iconst (v := 0) hx hb dX6_begin_67 (by decide) ?_
              refine zz_iast (ws' := [(k0, .inr (6, [.ref b1, .ref b2, .ref b3, .ref b4, .int o1, .int o2, .int o3])), (b1, .inl (G.2 0, 7, .inl (va_cpy dm2 e1 0 0 7))), (b2, .inl (G.2 0, 6, .inl (va_cpy dm5 e2 0 0 6))), (b3, .inl (G.2 0, 7, .inl vF12)), (b4, .inl (G.2 0, 42, .inl (upd vF28 vi25 0))), (dr0, .inr (5, [.ref dd1, .ref dd2, .ref dd3, .ref dd4, .ref dd5, .ref dd6, .ref dd7, .ref dd8, .ref dd9, .int di1, .int di2, .int di3, .int di4])), (dd2, .inl (G.2 0, 7, .inl dm2)), (dd5, .inl (G.2 0, 6, .inl dm5))]) (g := (upd vF28 vi25 0)) S hw 4 rfl (vp_in_nI (n := vi25) (by omega) (by decide)) (zz_upn (n := vi25) (by omega)) rfl dX6_begin_68 ?_
              clear hw
              intro H locs hw
              refine lv_iinc (v := (nI (vi25 + 1))) (lv' := [(2, .int (nI (vi25 + 1))), (0, .ref k0), (1, .ref dr0)]) hx hb dX6_begin_69 hl (k := 0) rfl (nI_add _ 1) (by decide) rfl (fun ls hl => ?_)
              refine lv_goto (tgt := 53) hx hb dX6_begin_72 (by decide) ?_
              refine W.eq (g2 := F0 m 53 ls []) rfl ?_
              exact ih53 (vi25 + 1) (upd vF28 vi25 0) _ _ _ (by omega) (by omega) (zz_z0i hv53_30) hw (lv_sub hl [0, 1, 2] rfl)
        exact lp53_31 (42 + 1 - 0) 0 e4 _ _ _ (by omega) (by omega) zz_z00 hw (lv_sub hl [0, 1, 2] rfl)
      · skip
        have c35_24n : ¬ (7 ≤ vi1) := fun z => c35_24 ((zz_le (a := 7) (b := vi1) rfl rfl (by omega) (by omega)).mpr z)
        refine lv_aload_n hx hb dX6_begin_38 rfl (lv_at hl 1 rfl) ?_
        refine zz_get (v := .ref b3) S hw fgX6_18 0 rfl rfl dX6_begin_39 ?_
        refine lv_iload_n hx hb dX6_begin_42 rfl (lv_at hl 0 rfl) ?_
        refine lv_iconst (v := 0) hx hb dX6_begin_43 (by decide) ?_
        refine zz_iast (ws' := [(k0, .inr (6, [.ref b1, .ref b2, .ref b3, .ref b4, .int o1, .int o2, .int o3])), (b1, .inl (G.2 0, 7, .inl (va_cpy dm2 e1 0 0 7))), (b2, .inl (G.2 0, 6, .inl (va_cpy dm5 e2 0 0 6))), (b3, .inl (G.2 0, 7, .inl (upd vF12 vi1 0))), (b4, .inl (G.2 0, 42, .inl e4)), (dr0, .inr (5, [.ref dd1, .ref dd2, .ref dd3, .ref dd4, .ref dd5, .ref dd6, .ref dd7, .ref dd8, .ref dd9, .int di1, .int di2, .int di3, .int di4])), (dd2, .inl (G.2 0, 7, .inl dm2)), (dd5, .inl (G.2 0, 6, .inl dm5))]) (g := (upd vF12 vi1 0)) S hw 3 rfl (vp_in_nI (n := vi1) (by omega) (by decide)) (zz_upn (n := vi1) (by omega)) rfl dX6_begin_44 ?_
        clear hw
        intro H locs hw
        refine lv_iinc (v := (nI (vi1 + 1))) (lv' := [(2, .int (nI (vi1 + 1))), (0, .ref k0), (1, .ref dr0)]) hx hb dX6_begin_45 hl (k := 0) rfl (nI_add _ 1) (by decide) rfl (fun ls hl => ?_)
        refine lv_goto (tgt := 32) hx hb dX6_begin_48 (by decide) ?_
        exact ih32 (vi1 + 1) (upd vF12 vi1 0) _ _ _ (by omega) (by omega) (zz_z0i hv32_22) hw (lv_sub hl [0, 1, 2] rfl)
  exact lp32_23 (7 + 1 - 0) 0 e3 _ _ _ (by omega) (by omega) zz_z00 hw (lv_sub hl [0, 1, 2] rfl)
theorem kd_ncX3_clear : kd_ck 194695174357802 6 cX3_clear.data.toList 0 = true := by decide +kernel
theorem dX3_clear_0 : decode cX3_clear 0 = .ok (.aload_n 0, 1) := kd_dk0 kd_o42 kd_ncX3_clear rfl
theorem dX3_clear_1 : decode cX3_clear 1 = .ok (.iconst 0, 1) := kd_dk0 kd_o3 kd_ncX3_clear rfl
theorem dX3_clear_2 : decode cX3_clear 2 = .ok (.putfield 19, 3) := kd_dk2 kd_o181 kd_ncX3_clear rfl
theorem dX3_clear_5 : decode cX3_clear 5 = .ok (.return_, 1) := kd_dk0 kd_o177 kd_ncX3_clear rfl
set_option maxHeartbeats 8000000 in
set_option maxRecDepth 100000 in
theorem c_gPclear (l : Launch) (G : zz_G) (pa0 : Nat) (pl0 : Nat) (pn : Nat) (pm : Nat) : zz_M l G mX3_clear 0 0 0 [.ref pa0] [(pa0, .inr (3, [.ref pl0, .int (nI pn), .int (nI pm)]))] (fun rr u => rr = none ∧ u = [(pa0, .inr (3, [.ref pl0, .int (nI pn), .int 0]))]) := by
  refine zz_enterv (by decide +kernel) (Nat.le_of_ble_eq_true rfl) ?_
  intro p e s m args below meth c A Q ls S hnm hret hw hl
  have hl : lv_has ls 1 [(0, .ref pa0)] := hl
  have hx := S.1
  have hb := S.2.1
  refine lv_aload_n hx hb dX3_clear_0 rfl (lv_at hl 0 rfl) ?_
  refine lv_iconst (v := 0) hx hb dX3_clear_1 (by decide) ?_
  refine zz_put (ws' := [(pa0, .inr (3, [.ref pl0, .int (nI pn), .int 0]))]) (v := .int 0) S hw fpX3_19 0 rfl rfl rfl (Nat.le_of_ble_eq_true rfl) rfl dX3_clear_2 ?_
  clear hw
  intro H locs hw
  exact hret _ _ _ _ _ ⟨rfl, rfl⟩ hw dX3_clear_5
def zz_bk (tl : Nat) (n : Int32) : Nat := if n < 0 ∨ nI tl < n then tl else tl - n.toNatClampNeg
def zz_bkr (tl : Nat) (n : Int32) : Int32 := if n < 0 ∨ nI tl < n then -1 else nI (zz_bk tl n)
theorem zz_bk_no {tl : Nat} {n : Int32} (h : n < 0 ∨ nI tl < n) : tl = zz_bk tl n ∧ (-1 : Int32) = zz_bkr tl n := by
  unfold zz_bkr zz_bk
  rw [if_pos h, if_pos h]
  exact ⟨rfl, rfl⟩
theorem zz_bk_ok {tl k : Nat} (h : k ≤ tl) (ht : tl ≤ 2000) : tl - k = zz_bk tl (nI k) ∧ nI (tl - k) = zz_bkr tl (nI k) := by
  have hn : ¬ (nI k < 0 ∨ nI tl < nI k) := by
    intro q
    rcases q with q | q
    · exact nI_pos (by omega) q
    · exact nI_nlt (by omega) (by omega) q
  have e : tl - k = zz_bk tl (nI k) := by
    unfold zz_bk
    rw [if_neg hn, nI_clamp (by omega)]
  refine ⟨e, ?_⟩
  unfold zz_bkr
  rw [if_neg hn, ← e]
theorem zz_bk_le {tl : Nat} {n : Int32} (ht : tl ≤ 2000) : zz_bk tl n ≤ 2000 := by
  unfold zz_bk
  by_cases h : n < 0 ∨ nI tl < n
  · rw [if_pos h]; exact ht
  · rw [if_neg h]; omega
theorem kd_ncX9_putFourBytes : kd_ck 106926792096430759359285247975398377674196164526002274999102547782254278563330263133331237801608354402253158553616 47 cX9_putFourBytes.data.toList 0 = true := by decide +kernel
theorem dX9_putFourBytes_0 : decode cX9_putFourBytes 0 = .ok (.bipush 24, 2) := kd_dj1 kd_o16 (w := 24) kd_ncX9_putFourBytes rfl rfl
theorem dX9_putFourBytes_2 : decode cX9_putFourBytes 2 = .ok (.istore_n 2, 1) := kd_dk0 kd_o61 kd_ncX9_putFourBytes rfl
theorem dX9_putFourBytes_3 : decode cX9_putFourBytes 3 = .ok (.iload_n 2, 1) := kd_dk0 kd_o28 kd_ncX9_putFourBytes rfl
theorem dX9_putFourBytes_4 : decode cX9_putFourBytes 4 = .ok (.ifCond .lt 42, 3) := kd_dj2 kd_o155 (w := 42) kd_ncX9_putFourBytes rfl rfl
theorem dX9_putFourBytes_7 : decode cX9_putFourBytes 7 = .ok (.aload_n 0, 1) := kd_dk0 kd_o42 kd_ncX9_putFourBytes rfl
theorem dX9_putFourBytes_8 : decode cX9_putFourBytes 8 = .ok (.getfield 13, 3) := kd_dk2 kd_o180 kd_ncX9_putFourBytes rfl
theorem dX9_putFourBytes_11 : decode cX9_putFourBytes 11 = .ok (.sipush 2000, 3) := kd_dj2 kd_o17 (w := 2000) kd_ncX9_putFourBytes rfl rfl
theorem dX9_putFourBytes_14 : decode cX9_putFourBytes 14 = .ok (.if_icmp .ge 32, 3) := kd_dj2 kd_o162 (w := 32) kd_ncX9_putFourBytes rfl rfl
theorem dX9_putFourBytes_17 : decode cX9_putFourBytes 17 = .ok (.aload_n 0, 1) := kd_dk0 kd_o42 kd_ncX9_putFourBytes rfl
theorem dX9_putFourBytes_18 : decode cX9_putFourBytes 18 = .ok (.getfield 9, 3) := kd_dk2 kd_o180 kd_ncX9_putFourBytes rfl
theorem dX9_putFourBytes_21 : decode cX9_putFourBytes 21 = .ok (.aload_n 0, 1) := kd_dk0 kd_o42 kd_ncX9_putFourBytes rfl
theorem dX9_putFourBytes_22 : decode cX9_putFourBytes 22 = .ok (.getfield 13, 3) := kd_dk2 kd_o180 kd_ncX9_putFourBytes rfl
theorem dX9_putFourBytes_25 : decode cX9_putFourBytes 25 = .ok (.iload_n 1, 1) := kd_dk0 kd_o27 kd_ncX9_putFourBytes rfl
theorem dX9_putFourBytes_26 : decode cX9_putFourBytes 26 = .ok (.iload_n 2, 1) := kd_dk0 kd_o28 kd_ncX9_putFourBytes rfl
theorem dX9_putFourBytes_27 : decode cX9_putFourBytes 27 = .ok (.iushr, 1) := kd_dk0 kd_o124 kd_ncX9_putFourBytes rfl
theorem dX9_putFourBytes_28 : decode cX9_putFourBytes 28 = .ok (.i2b, 1) := kd_dk0 kd_o145 kd_ncX9_putFourBytes rfl
theorem dX9_putFourBytes_29 : decode cX9_putFourBytes 29 = .ok (.bastore, 1) := kd_dk0 kd_o84 kd_ncX9_putFourBytes rfl
theorem dX9_putFourBytes_30 : decode cX9_putFourBytes 30 = .ok (.aload_n 0, 1) := kd_dk0 kd_o42 kd_ncX9_putFourBytes rfl
theorem dX9_putFourBytes_31 : decode cX9_putFourBytes 31 = .ok (.dup, 1) := kd_dk0 kd_o89 kd_ncX9_putFourBytes rfl
theorem dX9_putFourBytes_32 : decode cX9_putFourBytes 32 = .ok (.getfield 13, 3) := kd_dk2 kd_o180 kd_ncX9_putFourBytes rfl
theorem dX9_putFourBytes_35 : decode cX9_putFourBytes 35 = .ok (.iconst 1, 1) := kd_dk0 kd_o4 kd_ncX9_putFourBytes rfl
theorem dX9_putFourBytes_36 : decode cX9_putFourBytes 36 = .ok (.iadd, 1) := kd_dk0 kd_o96 kd_ncX9_putFourBytes rfl
theorem dX9_putFourBytes_37 : decode cX9_putFourBytes 37 = .ok (.putfield 13, 3) := kd_dk2 kd_o181 kd_ncX9_putFourBytes rfl
theorem dX9_putFourBytes_40 : decode cX9_putFourBytes 40 = .ok (.iinc 2 (-8), 3) := kd_dji kd_o132 (w := 248) kd_ncX9_putFourBytes rfl rfl
theorem dX9_putFourBytes_43 : decode cX9_putFourBytes 43 = .ok (.goto (-40), 3) := kd_dj2 kd_o167 (w := 65496) kd_ncX9_putFourBytes rfl rfl
theorem dX9_putFourBytes_46 : decode cX9_putFourBytes 46 = .ok (.return_, 1) := kd_dk0 kd_o177 kd_ncX9_putFourBytes rfl
set_option maxHeartbeats 8000000 in
set_option maxRecDepth 100000 in
theorem c_g_put4 (l : Launch) (G : zz_G) (ob0 : Nat) (ut : Nat) (h1 : Nat) (uf3 : Int32) (sc : Nat) (dr0 : Nat) (k0 : Nat) (my0 : Nat) (c0 : Nat) (ga : Nat) (pa0 : Nat) (t0 : Nat) (sl0 : Nat) (hd0 : Nat) (tl : Nat) (tf : Nat → Int32) (ar1 : Int32) (htl : tl + 4 ≤ 2000) : zz_M l G mX9_putFourBytes 0 0 0 [.ref ob0, .int ar1] [(ob0, .inr (9, [.ref ut, .int (nI tl), .ref h1, .int uf3, .ref sc, .ref dr0, .ref k0, .ref my0, .ref c0, .ref ga, .ref pa0, .ref t0, .ref sl0, .ref hd0])), (ut, .inl (G.2 1, 2000, .inl tf))] (fun rr u => ∃ (tf2 : Nat → Int32), rr = none ∧ u = [(ob0, .inr (9, [.ref ut, .int (nI (tl + 4)), .ref h1, .int uf3, .ref sc, .ref dr0, .ref k0, .ref my0, .ref c0, .ref ga, .ref pa0, .ref t0, .ref sl0, .ref hd0])), (ut, .inl (G.2 1, 2000, .inl tf2))] ∧ ((fun j => tf2 j &&& 255) = zz_p4 (fun j => tf j &&& 255) tl ar1)) := by
  refine zz_enterv (by decide +kernel) (Nat.le_of_ble_eq_true rfl) ?_
  intro p e s m args below meth c A Q ls S hnm hret hw hl
  have hl : lv_has ls 3 [(0, .ref ob0), (1, .int ar1)] := hl
  have hx := S.1
  have hb := S.2.1
  refine lv_bipush (v := 24) hx hb dX9_putFourBytes_0 (by decide) ?_
  refine lv_istore_n (lv' := [(2, .int 24), (0, .ref ob0), (1, .int ar1)]) hx hb dX9_putFourBytes_2 rfl hl (by decide) rfl (fun ls hl => ?_)
  refine lv_iload_n hx hb dX9_putFourBytes_3 rfl (lv_at hl 0 rfl) ?_
  refine lv_if_lt (tgt := 46) hx hb dX9_putFourBytes_4 (by decide) (fun cc => absurd cc (by decide)) (fun _ => ?_)
  refine lv_aload_n hx hb dX9_putFourBytes_7 rfl (lv_at hl 1 rfl) ?_
  refine zz_get (v := .int (nI tl)) S hw fgX9_13 0 rfl rfl dX9_putFourBytes_8 ?_
  refine lv_sipush (v := 2000) hx hb dX9_putFourBytes_11 (by decide) ?_
  refine lv_icmp_ge (tgt := 46) hx hb dX9_putFourBytes_14 (by decide) (fun cc => absurd ((zz_le (a := 2000) (b := tl) rfl rfl (by omega) (by omega)).mp cc) (by omega)) (fun _ => ?_)
  refine lv_aload_n hx hb dX9_putFourBytes_17 rfl (lv_at hl 1 rfl) ?_
  refine zz_get (v := .ref ut) S hw fgX9_9 0 rfl rfl dX9_putFourBytes_18 ?_
  refine lv_aload_n hx hb dX9_putFourBytes_21 rfl (lv_at hl 1 rfl) ?_
  refine zz_get (v := .int (nI tl)) S hw fgX9_13 0 rfl rfl dX9_putFourBytes_22 ?_
  refine lv_iload_n hx hb dX9_putFourBytes_25 rfl (lv_at hl 2 rfl) ?_
  refine lv_iload_n hx hb dX9_putFourBytes_26 rfl (lv_at hl 0 rfl) ?_
  refine W.eq (g2 := F0 m 27 ls [.int 24, .int ar1, .int (nI tl), .ref ut]) rfl ?_
  obtain ⟨z1, ez1⟩ : ∃ z : Int32, (ar1.toUInt32 >>> ((24 : Int32).toUInt32 &&& Int32.toUInt32 31)).toInt32 = z := ⟨_, rfl⟩
  refine lv_iushr (v := z1) hx hb dX9_putFourBytes_27 ez1 ?_
  obtain ⟨z2, ez2⟩ : ∃ z : Int32, z1.toInt8.toInt32 = z := ⟨_, rfl⟩
  refine lv_i2b (v := z2) hx hb dX9_putFourBytes_28 ez2 ?_
  refine zz_bast (ws' := [(ob0, .inr (9, [.ref ut, .int (nI tl), .ref h1, .int uf3, .ref sc, .ref dr0, .ref k0, .ref my0, .ref c0, .ref ga, .ref pa0, .ref t0, .ref sl0, .ref hd0])), (ut, .inl (G.2 1, 2000, .inl (upd tf tl (vp_nar .byte z2))))]) (g := (upd tf tl (vp_nar .byte z2))) S hw 1 rfl (vp_in_nI (n := tl) (by omega) (by decide)) (by rw [show ((nI tl) : Int32).toNatClampNeg = tl from nI_clamp (n := tl) (by omega)]) rfl dX9_putFourBytes_29 ?_
  clear hw
  intro H locs hw
  refine lv_aload_n hx hb dX9_putFourBytes_30 rfl (lv_at hl 1 rfl) ?_
  refine lv_dup hx hb dX9_putFourBytes_31 rfl ?_
  refine zz_get (v := .int (nI tl)) S hw fgX9_13 0 rfl rfl dX9_putFourBytes_32 ?_
  refine lv_iconst (v := 1) hx hb dX9_putFourBytes_35 (by decide) ?_
  refine lv_iadd hx hb dX9_putFourBytes_36 ?_
  refine zz_topi (y := (nI (tl + 1))) (nI_add _ _) ?_
  refine zz_put (ws' := [(ob0, .inr (9, [.ref ut, .int (nI (tl + 1)), .ref h1, .int uf3, .ref sc, .ref dr0, .ref k0, .ref my0, .ref c0, .ref ga, .ref pa0, .ref t0, .ref sl0, .ref hd0])), (ut, .inl (G.2 1, 2000, .inl (upd tf tl (vp_nar .byte z2))))]) (v := .int (nI (tl + 1))) S hw fpX9_13 0 rfl rfl rfl (Nat.le_of_ble_eq_true rfl) rfl dX9_putFourBytes_37 ?_
  clear hw
  intro H locs hw
  refine lv_iinc (v := 16) (lv' := [(2, .int 16), (0, .ref ob0), (1, .int ar1)]) hx hb dX9_putFourBytes_40 hl (k := 0) rfl (by decide) (by decide) rfl (fun ls hl => ?_)
  refine lv_goto (tgt := 3) hx hb dX9_putFourBytes_43 (by decide) ?_
  refine lv_iload_n hx hb dX9_putFourBytes_3 rfl (lv_at hl 0 rfl) ?_
  refine lv_if_lt (tgt := 46) hx hb dX9_putFourBytes_4 (by decide) (fun cc => absurd cc (by decide)) (fun _ => ?_)
  refine lv_aload_n hx hb dX9_putFourBytes_7 rfl (lv_at hl 1 rfl) ?_
  refine W.eq (g2 := F0 m 8 ls [.ref ob0]) rfl ?_
  refine zz_get (v := .int (nI (tl + 1))) S hw fgX9_13 0 rfl rfl dX9_putFourBytes_8 ?_
  refine lv_sipush (v := 2000) hx hb dX9_putFourBytes_11 (by decide) ?_
  refine lv_icmp_ge (tgt := 46) hx hb dX9_putFourBytes_14 (by decide) (fun cc => absurd ((zz_le (a := 2000) (b := (tl + 1)) rfl rfl (by omega) (by omega)).mp cc) (by omega)) (fun _ => ?_)
  refine lv_aload_n hx hb dX9_putFourBytes_17 rfl (lv_at hl 1 rfl) ?_
  refine zz_get (v := .ref ut) S hw fgX9_9 0 rfl rfl dX9_putFourBytes_18 ?_
  refine lv_aload_n hx hb dX9_putFourBytes_21 rfl (lv_at hl 1 rfl) ?_
  refine zz_get (v := .int (nI (tl + 1))) S hw fgX9_13 0 rfl rfl dX9_putFourBytes_22 ?_
  refine lv_iload_n hx hb dX9_putFourBytes_25 rfl (lv_at hl 2 rfl) ?_
  refine lv_iload_n hx hb dX9_putFourBytes_26 rfl (lv_at hl 0 rfl) ?_
  obtain ⟨z3, ez3⟩ : ∃ z : Int32, (ar1.toUInt32 >>> ((16 : Int32).toUInt32 &&& Int32.toUInt32 31)).toInt32 = z := ⟨_, rfl⟩
  refine lv_iushr (v := z3) hx hb dX9_putFourBytes_27 ez3 ?_
  obtain ⟨z4, ez4⟩ : ∃ z : Int32, z3.toInt8.toInt32 = z := ⟨_, rfl⟩
  refine lv_i2b (v := z4) hx hb dX9_putFourBytes_28 ez4 ?_
  refine zz_bast (ws' := [(ob0, .inr (9, [.ref ut, .int (nI (tl + 1)), .ref h1, .int uf3, .ref sc, .ref dr0, .ref k0, .ref my0, .ref c0, .ref ga, .ref pa0, .ref t0, .ref sl0, .ref hd0])), (ut, .inl (G.2 1, 2000, .inl (upd (upd tf tl (vp_nar .byte z2)) (tl + 1) (vp_nar .byte z4))))]) (g := (upd (upd tf tl (vp_nar .byte z2)) (tl + 1) (vp_nar .byte z4))) S hw 1 rfl (vp_in_nI (n := (tl + 1)) (by omega) (by decide)) (by rw [show ((nI (tl + 1)) : Int32).toNatClampNeg = (tl + 1) from nI_clamp (n := (tl + 1)) (by omega)]) rfl dX9_putFourBytes_29 ?_
  clear hw
  intro H locs hw
  refine lv_aload_n hx hb dX9_putFourBytes_30 rfl (lv_at hl 1 rfl) ?_
  refine lv_dup hx hb dX9_putFourBytes_31 rfl ?_
  refine W.eq (g2 := F0 m 32 ls [.ref ob0, .ref ob0]) rfl ?_
  refine zz_get (v := .int (nI (tl + 1))) S hw fgX9_13 0 rfl rfl dX9_putFourBytes_32 ?_
  refine lv_iconst (v := 1) hx hb dX9_putFourBytes_35 (by decide) ?_
  refine lv_iadd hx hb dX9_putFourBytes_36 ?_
  refine zz_topi (y := (nI (tl + 2))) (nI_add _ _) ?_
  refine zz_put (ws' := [(ob0, .inr (9, [.ref ut, .int (nI (tl + 2)), .ref h1, .int uf3, .ref sc, .ref dr0, .ref k0, .ref my0, .ref c0, .ref ga, .ref pa0, .ref t0, .ref sl0, .ref hd0])), (ut, .inl (G.2 1, 2000, .inl (upd (upd tf tl (vp_nar .byte z2)) (tl + 1) (vp_nar .byte z4))))]) (v := .int (nI (tl + 2))) S hw fpX9_13 0 rfl rfl rfl (Nat.le_of_ble_eq_true rfl) rfl dX9_putFourBytes_37 ?_
  clear hw
  intro H locs hw
  refine lv_iinc (v := 8) (lv' := [(2, .int 8), (0, .ref ob0), (1, .int ar1)]) hx hb dX9_putFourBytes_40 hl (k := 0) rfl (by decide) (by decide) rfl (fun ls hl => ?_)
  refine lv_goto (tgt := 3) hx hb dX9_putFourBytes_43 (by decide) ?_
  refine lv_iload_n hx hb dX9_putFourBytes_3 rfl (lv_at hl 0 rfl) ?_
  refine lv_if_lt (tgt := 46) hx hb dX9_putFourBytes_4 (by decide) (fun cc => absurd cc (by decide)) (fun _ => ?_)
  refine lv_aload_n hx hb dX9_putFourBytes_7 rfl (lv_at hl 1 rfl) ?_
  refine zz_get (v := .int (nI (tl + 2))) S hw fgX9_13 0 rfl rfl dX9_putFourBytes_8 ?_
  refine lv_sipush (v := 2000) hx hb dX9_putFourBytes_11 (by decide) ?_
  refine lv_icmp_ge (tgt := 46) hx hb dX9_putFourBytes_14 (by decide) (fun cc => absurd ((zz_le (a := 2000) (b := (tl + 2)) rfl rfl (by omega) (by omega)).mp cc) (by omega)) (fun _ => ?_)
  refine lv_aload_n hx hb dX9_putFourBytes_17 rfl (lv_at hl 1 rfl) ?_
  refine zz_get (v := .ref ut) S hw fgX9_9 0 rfl rfl dX9_putFourBytes_18 ?_
  refine W.eq (g2 := F0 m 21 ls [.ref ut]) rfl ?_
  refine lv_aload_n hx hb dX9_putFourBytes_21 rfl (lv_at hl 1 rfl) ?_
  refine zz_get (v := .int (nI (tl + 2))) S hw fgX9_13 0 rfl rfl dX9_putFourBytes_22 ?_
  refine lv_iload_n hx hb dX9_putFourBytes_25 rfl (lv_at hl 2 rfl) ?_
  refine lv_iload_n hx hb dX9_putFourBytes_26 rfl (lv_at hl 0 rfl) ?_
  obtain ⟨z5, ez5⟩ : ∃ z : Int32, (ar1.toUInt32 >>> ((8 : Int32).toUInt32 &&& Int32.toUInt32 31)).toInt32 = z := ⟨_, rfl⟩
  refine lv_iushr (v := z5) hx hb dX9_putFourBytes_27 ez5 ?_
  obtain ⟨z6, ez6⟩ : ∃ z : Int32, z5.toInt8.toInt32 = z := ⟨_, rfl⟩
  refine lv_i2b (v := z6) hx hb dX9_putFourBytes_28 ez6 ?_
  refine zz_bast (ws' := [(ob0, .inr (9, [.ref ut, .int (nI (tl + 2)), .ref h1, .int uf3, .ref sc, .ref dr0, .ref k0, .ref my0, .ref c0, .ref ga, .ref pa0, .ref t0, .ref sl0, .ref hd0])), (ut, .inl (G.2 1, 2000, .inl (upd (upd (upd tf tl (vp_nar .byte z2)) (tl + 1) (vp_nar .byte z4)) (tl + 2) (vp_nar .byte z6))))]) (g := (upd (upd (upd tf tl (vp_nar .byte z2)) (tl + 1) (vp_nar .byte z4)) (tl + 2) (vp_nar .byte z6))) S hw 1 rfl (vp_in_nI (n := (tl + 2)) (by omega) (by decide)) (by rw [show ((nI (tl + 2)) : Int32).toNatClampNeg = (tl + 2) from nI_clamp (n := (tl + 2)) (by omega)]) rfl dX9_putFourBytes_29 ?_
  clear hw
  intro H locs hw
  refine lv_aload_n hx hb dX9_putFourBytes_30 rfl (lv_at hl 1 rfl) ?_
  refine lv_dup hx hb dX9_putFourBytes_31 rfl ?_
  refine zz_get (v := .int (nI (tl + 2))) S hw fgX9_13 0 rfl rfl dX9_putFourBytes_32 ?_
  refine lv_iconst (v := 1) hx hb dX9_putFourBytes_35 (by decide) ?_
  refine lv_iadd hx hb dX9_putFourBytes_36 ?_
  refine zz_topi (y := (nI (tl + 3))) (nI_add _ _) ?_
  refine zz_put (ws' := [(ob0, .inr (9, [.ref ut, .int (nI (tl + 3)), .ref h1, .int uf3, .ref sc, .ref dr0, .ref k0, .ref my0, .ref c0, .ref ga, .ref pa0, .ref t0, .ref sl0, .ref hd0])), (ut, .inl (G.2 1, 2000, .inl (upd (upd (upd tf tl (vp_nar .byte z2)) (tl + 1) (vp_nar .byte z4)) (tl + 2) (vp_nar .byte z6))))]) (v := .int (nI (tl + 3))) S hw fpX9_13 0 rfl rfl rfl (Nat.le_of_ble_eq_true rfl) rfl dX9_putFourBytes_37 ?_
  clear hw
  intro H locs hw
  refine lv_iinc (v := 0) (lv' := [(2, .int 0), (0, .ref ob0), (1, .int ar1)]) hx hb dX9_putFourBytes_40 hl (k := 0) rfl (by decide) (by decide) rfl (fun ls hl => ?_)
  refine W.eq (g2 := F0 m 43 ls []) rfl ?_
  refine lv_goto (tgt := 3) hx hb dX9_putFourBytes_43 (by decide) ?_
  refine lv_iload_n hx hb dX9_putFourBytes_3 rfl (lv_at hl 0 rfl) ?_
  refine lv_if_lt (tgt := 46) hx hb dX9_putFourBytes_4 (by decide) (fun cc => absurd cc (by decide)) (fun _ => ?_)
  refine lv_aload_n hx hb dX9_putFourBytes_7 rfl (lv_at hl 1 rfl) ?_
  refine zz_get (v := .int (nI (tl + 3))) S hw fgX9_13 0 rfl rfl dX9_putFourBytes_8 ?_
  refine lv_sipush (v := 2000) hx hb dX9_putFourBytes_11 (by decide) ?_
  refine lv_icmp_ge (tgt := 46) hx hb dX9_putFourBytes_14 (by decide) (fun cc => absurd ((zz_le (a := 2000) (b := (tl + 3)) rfl rfl (by omega) (by omega)).mp cc) (by omega)) (fun _ => ?_)
  refine lv_aload_n hx hb dX9_putFourBytes_17 rfl (lv_at hl 1 rfl) ?_
  refine zz_get (v := .ref ut) S hw fgX9_9 0 rfl rfl dX9_putFourBytes_18 ?_
  refine lv_aload_n hx hb dX9_putFourBytes_21 rfl (lv_at hl 1 rfl) ?_
  refine zz_get (v := .int (nI (tl + 3))) S hw fgX9_13 0 rfl rfl dX9_putFourBytes_22 ?_
  refine lv_iload_n hx hb dX9_putFourBytes_25 rfl (lv_at hl 2 rfl) ?_
  refine lv_iload_n hx hb dX9_putFourBytes_26 rfl (lv_at hl 0 rfl) ?_
  obtain ⟨z7, ez7⟩ : ∃ z : Int32, (ar1.toUInt32 >>> ((0 : Int32).toUInt32 &&& Int32.toUInt32 31)).toInt32 = z := ⟨_, rfl⟩
  refine lv_iushr (v := z7) hx hb dX9_putFourBytes_27 ez7 ?_
  refine W.eq (g2 := F0 m 28 ls [.int z7, .int (nI (tl + 3)), .ref ut]) rfl ?_
  obtain ⟨z8, ez8⟩ : ∃ z : Int32, z7.toInt8.toInt32 = z := ⟨_, rfl⟩
  refine lv_i2b (v := z8) hx hb dX9_putFourBytes_28 ez8 ?_
  refine zz_bast (ws' := [(ob0, .inr (9, [.ref ut, .int (nI (tl + 3)), .ref h1, .int uf3, .ref sc, .ref dr0, .ref k0, .ref my0, .ref c0, .ref ga, .ref pa0, .ref t0, .ref sl0, .ref hd0])), (ut, .inl (G.2 1, 2000, .inl (upd (upd (upd (upd tf tl (vp_nar .byte z2)) (tl + 1) (vp_nar .byte z4)) (tl + 2) (vp_nar .byte z6)) (tl + 3) (vp_nar .byte z8))))]) (g := (upd (upd (upd (upd tf tl (vp_nar .byte z2)) (tl + 1) (vp_nar .byte z4)) (tl + 2) (vp_nar .byte z6)) (tl + 3) (vp_nar .byte z8))) S hw 1 rfl (vp_in_nI (n := (tl + 3)) (by omega) (by decide)) (by rw [show ((nI (tl + 3)) : Int32).toNatClampNeg = (tl + 3) from nI_clamp (n := (tl + 3)) (by omega)]) rfl dX9_putFourBytes_29 ?_
  clear hw
  intro H locs hw
  refine lv_aload_n hx hb dX9_putFourBytes_30 rfl (lv_at hl 1 rfl) ?_
  refine lv_dup hx hb dX9_putFourBytes_31 rfl ?_
  refine zz_get (v := .int (nI (tl + 3))) S hw fgX9_13 0 rfl rfl dX9_putFourBytes_32 ?_
  refine lv_iconst (v := 1) hx hb dX9_putFourBytes_35 (by decide) ?_
  refine lv_iadd hx hb dX9_putFourBytes_36 ?_
  refine zz_topi (y := (nI (tl + 4))) (nI_add _ _) ?_
  refine zz_put (ws' := [(ob0, .inr (9, [.ref ut, .int (nI (tl + 4)), .ref h1, .int uf3, .ref sc, .ref dr0, .ref k0, .ref my0, .ref c0, .ref ga, .ref pa0, .ref t0, .ref sl0, .ref hd0])), (ut, .inl (G.2 1, 2000, .inl (upd (upd (upd (upd tf tl (vp_nar .byte z2)) (tl + 1) (vp_nar .byte z4)) (tl + 2) (vp_nar .byte z6)) (tl + 3) (vp_nar .byte z8))))]) (v := .int (nI (tl + 4))) S hw fpX9_13 0 rfl rfl rfl (Nat.le_of_ble_eq_true rfl) rfl dX9_putFourBytes_37 ?_
  clear hw
  intro H locs hw
  refine lv_iinc (v := (-8)) (lv' := [(2, .int (-8)), (0, .ref ob0), (1, .int ar1)]) hx hb dX9_putFourBytes_40 hl (k := 0) rfl (by decide) (by decide) rfl (fun ls hl => ?_)
  refine lv_goto (tgt := 3) hx hb dX9_putFourBytes_43 (by decide) ?_
  refine lv_iload_n hx hb dX9_putFourBytes_3 rfl (lv_at hl 0 rfl) ?_
  refine lv_if_lt (tgt := 46) hx hb dX9_putFourBytes_4 (by decide) (fun _ => ?_) (fun cc => absurd cc (by decide))
  exact hret _ _ _ _ _ ⟨(upd (upd (upd (upd tf tl (vp_nar .byte z2)) (tl + 1) (vp_nar .byte z4)) (tl + 2) (vp_nar .byte z6)) (tl + 3) (vp_nar .byte z8)), rfl, rfl, (by subst_vars; exact zz_p4C)⟩ hw dX9_putFourBytes_46
theorem kd_ncX9_feed : kd_ck 6165597707907143766519023402204196759565156615332826646516337274023937259174994569389799646801601369257002 44 cX9_feed.data.toList 0 = true := by decide +kernel
theorem dX9_feed_0 : decode cX9_feed 0 = .ok (.aload_n 0, 1) := kd_dk0 kd_o42 kd_ncX9_feed rfl
theorem dX9_feed_1 : decode cX9_feed 1 = .ok (.getfield 13, 3) := kd_dk2 kd_o180 kd_ncX9_feed rfl
theorem dX9_feed_4 : decode cX9_feed 4 = .ok (.sipush 1980, 3) := kd_dj2 kd_o17 (w := 1980) kd_ncX9_feed rfl rfl
theorem dX9_feed_7 : decode cX9_feed 7 = .ok (.if_icmp .le 5, 3) := kd_dj2 kd_o164 (w := 5) kd_ncX9_feed rfl rfl
theorem dX9_feed_10 : decode cX9_feed 10 = .ok (.iconst (-1), 1) := kd_dk0 kd_o2 kd_ncX9_feed rfl
theorem dX9_feed_11 : decode cX9_feed 11 = .ok (.ireturn, 1) := kd_dk0 kd_o172 kd_ncX9_feed rfl
theorem dX9_feed_12 : decode cX9_feed 12 = .ok (.aload_n 0, 1) := kd_dk0 kd_o42 kd_ncX9_feed rfl
theorem dX9_feed_13 : decode cX9_feed 13 = .ok (.iload_n 1, 1) := kd_dk0 kd_o27 kd_ncX9_feed rfl
theorem dX9_feed_14 : decode cX9_feed 14 = .ok (.invokevirtual 83, 3) := kd_dk2 kd_o182 kd_ncX9_feed rfl
theorem dX9_feed_17 : decode cX9_feed 17 = .ok (.aload_n 0, 1) := kd_dk0 kd_o42 kd_ncX9_feed rfl
theorem dX9_feed_18 : decode cX9_feed 18 = .ok (.iload_n 2, 1) := kd_dk0 kd_o28 kd_ncX9_feed rfl
theorem dX9_feed_19 : decode cX9_feed 19 = .ok (.invokevirtual 83, 3) := kd_dk2 kd_o182 kd_ncX9_feed rfl
theorem dX9_feed_22 : decode cX9_feed 22 = .ok (.aload_n 0, 1) := kd_dk0 kd_o42 kd_ncX9_feed rfl
theorem dX9_feed_23 : decode cX9_feed 23 = .ok (.iload_n 3, 1) := kd_dk0 kd_o29 kd_ncX9_feed rfl
theorem dX9_feed_24 : decode cX9_feed 24 = .ok (.invokevirtual 83, 3) := kd_dk2 kd_o182 kd_ncX9_feed rfl
theorem dX9_feed_27 : decode cX9_feed 27 = .ok (.aload_n 0, 1) := kd_dk0 kd_o42 kd_ncX9_feed rfl
theorem dX9_feed_28 : decode cX9_feed 28 = .ok (.iload 4, 2) := kd_dk1 kd_o21 kd_ncX9_feed rfl
theorem dX9_feed_30 : decode cX9_feed 30 = .ok (.invokevirtual 83, 3) := kd_dk2 kd_o182 kd_ncX9_feed rfl
theorem dX9_feed_33 : decode cX9_feed 33 = .ok (.aload_n 0, 1) := kd_dk0 kd_o42 kd_ncX9_feed rfl
theorem dX9_feed_34 : decode cX9_feed 34 = .ok (.iload 5, 2) := kd_dk1 kd_o21 kd_ncX9_feed rfl
theorem dX9_feed_36 : decode cX9_feed 36 = .ok (.invokevirtual 83, 3) := kd_dk2 kd_o182 kd_ncX9_feed rfl
theorem dX9_feed_39 : decode cX9_feed 39 = .ok (.aload_n 0, 1) := kd_dk0 kd_o42 kd_ncX9_feed rfl
theorem dX9_feed_40 : decode cX9_feed 40 = .ok (.getfield 13, 3) := kd_dk2 kd_o180 kd_ncX9_feed rfl
theorem dX9_feed_43 : decode cX9_feed 43 = .ok (.ireturn, 1) := kd_dk0 kd_o172 kd_ncX9_feed rfl
set_option maxHeartbeats 8000000 in
set_option maxRecDepth 100000 in
theorem c_g_feed (l : Launch) (G : zz_G) (ob0 : Nat) (ut : Nat) (h1 : Nat) (uf3 : Int32) (sc : Nat) (dr0 : Nat) (k0 : Nat) (my0 : Nat) (c0 : Nat) (ga : Nat) (pa0 : Nat) (t0 : Nat) (sl0 : Nat) (hd0 : Nat) (tl : Nat) (tf : Nat → Int32) (ar1 : Int32) (ar2 : Int32) (ar3 : Int32) (ar4 : Int32) (ar5 : Int32) (htl : tl ≤ 2000) : zz_M l G mX9_feed 1 0 0 [.ref ob0, .int ar1, .int ar2, .int ar3, .int ar4, .int ar5] [(ob0, .inr (9, [.ref ut, .int (nI tl), .ref h1, .int uf3, .ref sc, .ref dr0, .ref k0, .ref my0, .ref c0, .ref ga, .ref pa0, .ref t0, .ref sl0, .ref hd0])), (ut, .inl (G.2 1, 2000, .inl tf))] (fun rr u => ∃ (rv : Int32), ∃ (tl2 : Nat), ∃ (tf2 : Nat → Int32), rr = some (.int rv) ∧ u = [(ob0, .inr (9, [.ref ut, .int (nI tl2), .ref h1, .int uf3, .ref sc, .ref dr0, .ref k0, .ref my0, .ref c0, .ref ga, .ref pa0, .ref t0, .ref sl0, .ref hd0])), (ut, .inl (G.2 1, 2000, .inl tf2))] ∧ ((tl ≤ 1980 ∧ tl2 = tl + 20 ∧ rv = nI (tl + 20) ∧ (fun j => tf2 j &&& 255) = zz_p20 (fun j => tf j &&& 255) tl ar1 ar2 ar3 ar4 ar5) ∨ (1980 < tl ∧ tl2 = tl ∧ rv = -1 ∧ tf2 = tf))) := by
  refine zz_enteri (by decide +kernel) (Nat.le_of_ble_eq_true rfl) ?_
  intro p e s m args below meth c A Q ls S hnm hret hw hl
  have hl : lv_has ls 6 [(0, .ref ob0), (1, .int ar1), (2, .int ar2), (3, .int ar3), (4, .int ar4), (5, .int ar5)] := hl
  have hx := S.1
  have hb := S.2.1
  refine lv_aload_n hx hb dX9_feed_0 rfl (lv_at hl 0 rfl) ?_
  refine zz_get (v := .int (nI tl)) S hw fgX9_13 0 rfl rfl dX9_feed_1 ?_
  refine lv_sipush (v := 1980) hx hb dX9_feed_4 (by decide) ?_
  refine lv_icmp_le (tgt := 12) hx hb dX9_feed_7 (by decide) (fun c7_1 => ?_) (fun c7_1 => ?_)
  · skip
    have c7_1n : tl ≤ 1980 := (zz_le (a := tl) (b := 1980) rfl rfl (by omega) (by omega)).mp c7_1
    refine lv_aload_n hx hb dX9_feed_12 rfl (lv_at hl 0 rfl) ?_
    refine lv_iload_n hx hb dX9_feed_13 rfl (lv_at hl 1 rfl) ?_
    refine zz_callV (qb := 0) (As := [.int ar1]) (rest := []) (wr := []) S hw hl.1 lX9_83 (c_g_put4 l G ob0 ut h1 uf3 sc dr0 k0 my0 c0 ga pa0 t0 sl0 hd0 tl tf ar1 (by first | assumption | omega | exact Or.inr ⟨_, by omega, rfl⟩ | (unfold zz_sok; decide) | decide | exact (fun j hj => (hv7 j hj).1))) ⟨Nat.le_of_ble_eq_true rfl, Nat.le_of_ble_eq_true rfl⟩ ⟨Nat.le_of_ble_eq_true rfl, Nat.le_of_ble_eq_true rfl⟩ [0, 1] [] (by decide) rfl rfl (by decide) (by decide) rfl rfl rfl rfl (Nat.le_of_ble_eq_true rfl) dX9_feed_14 ?_
    clear hw
    intro rr u H locs hp hw
    refine hp.elim fun tf2_2 zg0 => zg0.elim fun zee1 zg1 => zg1.elim fun zee2 hq14_0 => ?_
    clear hp zg0 zg1
    subst zee1
    subst zee2
    replace hw : zz_w G A s [(ob0, .inr (9, [.ref ut, .int (nI (tl + 4)), .ref h1, .int uf3, .ref sc, .ref dr0, .ref k0, .ref my0, .ref c0, .ref ga, .ref pa0, .ref t0, .ref sl0, .ref hd0])), (ut, .inl (G.2 1, 2000, .inl tf2_2))] H _ := hw
    refine W.eq (g2 := F0 m 17 ls []) rfl ?_
    refine lv_aload_n hx hb dX9_feed_17 rfl (lv_at hl 0 rfl) ?_
    refine lv_iload_n hx hb dX9_feed_18 rfl (lv_at hl 2 rfl) ?_
    refine zz_callV (qb := 0) (As := [.int ar2]) (rest := []) (wr := []) S hw hl.1 lX9_83 (c_g_put4 l G ob0 ut h1 uf3 sc dr0 k0 my0 c0 ga pa0 t0 sl0 hd0 (tl + 4) tf2_2 ar2 (by first | assumption | omega | exact Or.inr ⟨_, by omega, rfl⟩ | (unfold zz_sok; decide) | decide | exact (fun j hj => (hv7 j hj).1))) ⟨Nat.le_of_ble_eq_true rfl, Nat.le_of_ble_eq_true rfl⟩ ⟨Nat.le_of_ble_eq_true rfl, Nat.le_of_ble_eq_true rfl⟩ [0, 1] [] (by decide) rfl rfl (by decide) (by decide) rfl rfl rfl rfl (Nat.le_of_ble_eq_true rfl) dX9_feed_19 ?_
    clear hw
    intro rr u H locs hp hw
    refine hp.elim fun tf2_3 zg0 => zg0.elim fun zee1 zg1 => zg1.elim fun zee2 hq19_0 => ?_
    clear hp zg0 zg1
    subst zee1
    subst zee2
    replace hw : zz_w G A s [(ob0, .inr (9, [.ref ut, .int (nI ((tl + 4) + 4)), .ref h1, .int uf3, .ref sc, .ref dr0, .ref k0, .ref my0, .ref c0, .ref ga, .ref pa0, .ref t0, .ref sl0, .ref hd0])), (ut, .inl (G.2 1, 2000, .inl tf2_3))] H _ := hw
    refine W.eq (g2 := F0 m 22 ls []) rfl ?_
    refine lv_aload_n hx hb dX9_feed_22 rfl (lv_at hl 0 rfl) ?_
    refine lv_iload_n hx hb dX9_feed_23 rfl (lv_at hl 3 rfl) ?_
    refine zz_callV (qb := 0) (As := [.int ar3]) (rest := []) (wr := []) S hw hl.1 lX9_83 (c_g_put4 l G ob0 ut h1 uf3 sc dr0 k0 my0 c0 ga pa0 t0 sl0 hd0 ((tl + 4) + 4) tf2_3 ar3 (by first | assumption | omega | exact Or.inr ⟨_, by omega, rfl⟩ | (unfold zz_sok; decide) | decide | exact (fun j hj => (hv7 j hj).1))) ⟨Nat.le_of_ble_eq_true rfl, Nat.le_of_ble_eq_true rfl⟩ ⟨Nat.le_of_ble_eq_true rfl, Nat.le_of_ble_eq_true rfl⟩ [0, 1] [] (by decide) rfl rfl (by decide) (by decide) rfl rfl rfl rfl (Nat.le_of_ble_eq_true rfl) dX9_feed_24 ?_
    clear hw
    intro rr u H locs hp hw
    refine hp.elim fun tf2_4 zg0 => zg0.elim fun zee1 zg1 => zg1.elim fun zee2 hq24_0 => ?_
    clear hp zg0 zg1
    subst zee1
    subst zee2
    replace hw : zz_w G A s [(ob0, .inr (9, [.ref ut, .int (nI (((tl + 4) + 4) + 4)), .ref h1, .int uf3, .ref sc, .ref dr0, .ref k0, .ref my0, .ref c0, .ref ga, .ref pa0, .ref t0, .ref sl0, .ref hd0])), (ut, .inl (G.2 1, 2000, .inl tf2_4))] H _ := hw
    refine W.eq (g2 := F0 m 27 ls []) rfl ?_
    refine lv_aload_n hx hb dX9_feed_27 rfl (lv_at hl 0 rfl) ?_
    refine lv_iload hx hb dX9_feed_28 (lv_at hl 4 rfl) ?_
    refine W.eq (g2 := F0 m 30 ls [.int ar4, .ref ob0]) rfl ?_
    refine zz_callV (qb := 0) (As := [.int ar4]) (rest := []) (wr := []) S hw hl.1 lX9_83 (c_g_put4 l G ob0 ut h1 uf3 sc dr0 k0 my0 c0 ga pa0 t0 sl0 hd0 (((tl + 4) + 4) + 4) tf2_4 ar4 (by first | assumption | omega | exact Or.inr ⟨_, by omega, rfl⟩ | (unfold zz_sok; decide) | decide | exact (fun j hj => (hv7 j hj).1))) ⟨Nat.le_of_ble_eq_true rfl, Nat.le_of_ble_eq_true rfl⟩ ⟨Nat.le_of_ble_eq_true rfl, Nat.le_of_ble_eq_true rfl⟩ [0, 1] [] (by decide) rfl rfl (by decide) (by decide) rfl rfl rfl rfl (Nat.le_of_ble_eq_true rfl) dX9_feed_30 ?_
    clear hw
    intro rr u H locs hp hw
    refine hp.elim fun tf2_5 zg0 => zg0.elim fun zee1 zg1 => zg1.elim fun zee2 hq30_0 => ?_
    clear hp zg0 zg1
    subst zee1
    subst zee2
    replace hw : zz_w G A s [(ob0, .inr (9, [.ref ut, .int (nI ((((tl + 4) + 4) + 4) + 4)), .ref h1, .int uf3, .ref sc, .ref dr0, .ref k0, .ref my0, .ref c0, .ref ga, .ref pa0, .ref t0, .ref sl0, .ref hd0])), (ut, .inl (G.2 1, 2000, .inl tf2_5))] H _ := hw
    refine W.eq (g2 := F0 m 33 ls []) rfl ?_
    refine lv_aload_n hx hb dX9_feed_33 rfl (lv_at hl 0 rfl) ?_
    refine lv_iload hx hb dX9_feed_34 (lv_at hl 5 rfl) ?_
    refine zz_callV (qb := 0) (As := [.int ar5]) (rest := []) (wr := []) S hw hl.1 lX9_83 (c_g_put4 l G ob0 ut h1 uf3 sc dr0 k0 my0 c0 ga pa0 t0 sl0 hd0 ((((tl + 4) + 4) + 4) + 4) tf2_5 ar5 (by first | assumption | omega | exact Or.inr ⟨_, by omega, rfl⟩ | (unfold zz_sok; decide) | decide | exact (fun j hj => (hv7 j hj).1))) ⟨Nat.le_of_ble_eq_true rfl, Nat.le_of_ble_eq_true rfl⟩ ⟨Nat.le_of_ble_eq_true rfl, Nat.le_of_ble_eq_true rfl⟩ [0, 1] [] (by decide) rfl rfl (by decide) (by decide) rfl rfl rfl rfl (Nat.le_of_ble_eq_true rfl) dX9_feed_36 ?_
    clear hw
    intro rr u H locs hp hw
    refine hp.elim fun tf2_6 zg0 => zg0.elim fun zee1 zg1 => zg1.elim fun zee2 hq36_0 => ?_
    clear hp zg0 zg1
    subst zee1
    subst zee2
    replace hw : zz_w G A s [(ob0, .inr (9, [.ref ut, .int (nI (((((tl + 4) + 4) + 4) + 4) + 4)), .ref h1, .int uf3, .ref sc, .ref dr0, .ref k0, .ref my0, .ref c0, .ref ga, .ref pa0, .ref t0, .ref sl0, .ref hd0])), (ut, .inl (G.2 1, 2000, .inl tf2_6))] H _ := hw
    refine W.eq (g2 := F0 m 39 ls []) rfl ?_
    refine lv_aload_n hx hb dX9_feed_39 rfl (lv_at hl 0 rfl) ?_
    refine zz_get (v := .int (nI (((((tl + 4) + 4) + 4) + 4) + 4))) S hw fgX9_13 0 rfl rfl dX9_feed_40 ?_
    exact hret _ _ _ _ _ _ ⟨(nI (((((tl + 4) + 4) + 4) + 4) + 4)), (((((tl + 4) + 4) + 4) + 4) + 4), tf2_6, rfl, rfl, (by first | exact Or.inl ⟨by omega, by omega, rfl, by rw [hq36_0, hq30_0, hq24_0, hq19_0, hq14_0]; rfl⟩ | exact Or.inr ⟨by omega, rfl, rfl, rfl⟩)⟩ hw rfl dX9_feed_43
  · skip
    have c7_1n : ¬ (tl ≤ 1980) := fun z => c7_1 ((zz_le (a := tl) (b := 1980) rfl rfl (by omega) (by omega)).mpr z)
    refine lv_iconst (v := (-1)) hx hb dX9_feed_10 (by decide) ?_
    exact hret _ _ _ _ _ _ ⟨(-1), tl, tf, rfl, rfl, (by first | exact Or.inl ⟨by omega, by omega, rfl, by rw [hq36_0, hq30_0, hq24_0, hq19_0, hq14_0]; rfl⟩ | exact Or.inr ⟨by omega, rfl, rfl, rfl⟩)⟩ hw rfl dX9_feed_11
theorem kd_ncX9_back : kd_ck 4638480176054406354553234287663759588025532507314301679491811951811355 29 cX9_back.data.toList 0 = true := by decide +kernel
theorem dX9_back_0 : decode cX9_back 0 = .ok (.iload_n 1, 1) := kd_dk0 kd_o27 kd_ncX9_back rfl
theorem dX9_back_1 : decode cX9_back 1 = .ok (.ifCond .lt 11, 3) := kd_dj2 kd_o155 (w := 11) kd_ncX9_back rfl rfl
theorem dX9_back_4 : decode cX9_back 4 = .ok (.iload_n 1, 1) := kd_dk0 kd_o27 kd_ncX9_back rfl
theorem dX9_back_5 : decode cX9_back 5 = .ok (.aload_n 0, 1) := kd_dk0 kd_o42 kd_ncX9_back rfl
theorem dX9_back_6 : decode cX9_back 6 = .ok (.getfield 13, 3) := kd_dk2 kd_o180 kd_ncX9_back rfl
theorem dX9_back_9 : decode cX9_back 9 = .ok (.if_icmp .le 5, 3) := kd_dj2 kd_o164 (w := 5) kd_ncX9_back rfl rfl
theorem dX9_back_12 : decode cX9_back 12 = .ok (.iconst (-1), 1) := kd_dk0 kd_o2 kd_ncX9_back rfl
theorem dX9_back_13 : decode cX9_back 13 = .ok (.ireturn, 1) := kd_dk0 kd_o172 kd_ncX9_back rfl
theorem dX9_back_14 : decode cX9_back 14 = .ok (.aload_n 0, 1) := kd_dk0 kd_o42 kd_ncX9_back rfl
theorem dX9_back_15 : decode cX9_back 15 = .ok (.dup, 1) := kd_dk0 kd_o89 kd_ncX9_back rfl
theorem dX9_back_16 : decode cX9_back 16 = .ok (.getfield 13, 3) := kd_dk2 kd_o180 kd_ncX9_back rfl
theorem dX9_back_19 : decode cX9_back 19 = .ok (.iload_n 1, 1) := kd_dk0 kd_o27 kd_ncX9_back rfl
theorem dX9_back_20 : decode cX9_back 20 = .ok (.isub, 1) := kd_dk0 kd_o100 kd_ncX9_back rfl
theorem dX9_back_21 : decode cX9_back 21 = .ok (.putfield 13, 3) := kd_dk2 kd_o181 kd_ncX9_back rfl
theorem dX9_back_24 : decode cX9_back 24 = .ok (.aload_n 0, 1) := kd_dk0 kd_o42 kd_ncX9_back rfl
theorem dX9_back_25 : decode cX9_back 25 = .ok (.getfield 13, 3) := kd_dk2 kd_o180 kd_ncX9_back rfl
theorem dX9_back_28 : decode cX9_back 28 = .ok (.ireturn, 1) := kd_dk0 kd_o172 kd_ncX9_back rfl
set_option maxHeartbeats 8000000 in
set_option maxRecDepth 100000 in
theorem c_g_back (l : Launch) (G : zz_G) (ob0 : Nat) (ut : Nat) (h1 : Nat) (uf3 : Int32) (sc : Nat) (dr0 : Nat) (k0 : Nat) (my0 : Nat) (c0 : Nat) (ga : Nat) (pa0 : Nat) (t0 : Nat) (sl0 : Nat) (hd0 : Nat) (tl : Nat) (ar1 : Int32) (htl : tl ≤ 2000) : zz_M l G mX9_back 0 0 0 [.ref ob0, .int ar1] [(ob0, .inr (9, [.ref ut, .int (nI tl), .ref h1, .int uf3, .ref sc, .ref dr0, .ref k0, .ref my0, .ref c0, .ref ga, .ref pa0, .ref t0, .ref sl0, .ref hd0]))] (fun rr u => ∃ (rv : Int32), ∃ (tl2 : Nat), rr = some (.int rv) ∧ u = [(ob0, .inr (9, [.ref ut, .int (nI tl2), .ref h1, .int uf3, .ref sc, .ref dr0, .ref k0, .ref my0, .ref c0, .ref ga, .ref pa0, .ref t0, .ref sl0, .ref hd0]))] ∧ (tl2 = zz_bk tl ar1 ∧ rv = zz_bkr tl ar1)) := by
  refine zz_enteri (by decide +kernel) (Nat.le_of_ble_eq_true rfl) ?_
  intro p e s m args below meth c A Q ls S hnm hret hw hl
  have hl : lv_has ls 2 [(0, .ref ob0), (1, .int ar1)] := hl
  have hx := S.1
  have hb := S.2.1
  refine lv_iload_n hx hb dX9_back_0 rfl (lv_at hl 1 rfl) ?_
  refine lv_if_lt (tgt := 12) hx hb dX9_back_1 (by decide) (fun c1_1 => ?_) (fun c1_1 => ?_)
  · skip
    refine lv_iconst (v := (-1)) hx hb dX9_back_12 (by decide) ?_
    exact hret _ _ _ _ _ _ ⟨(-1), tl, rfl, rfl, (by first | exact zz_bk_ok (by omega) htl | exact zz_bk_no (Or.inl (by assumption)) | exact zz_bk_no (Or.inr (Int32.not_le.mp (by assumption))) | exact zz_bk_no (Or.inr (by assumption)))⟩ hw rfl dX9_back_13
  · skip
    have hlo2 : ¬ ar1 < 0 := zz_lo0 c1_1
    refine lv_iload_n hx hb dX9_back_4 rfl (lv_at hl 1 rfl) ?_
    refine lv_aload_n hx hb dX9_back_5 rfl (lv_at hl 0 rfl) ?_
    refine zz_get (v := .int (nI tl)) S hw fgX9_13 0 rfl rfl dX9_back_6 ?_
    refine lv_icmp_le (tgt := 14) hx hb dX9_back_9 (by decide) (fun c9_3 => ?_) (fun c9_3 => ?_)
    · skip
      obtain ⟨vq4, hvq4, rfl⟩ : ∃ k : Nat, k ≤ tl ∧ ar1 = nI k := zz_rng c1_1 (Int32.not_lt.mpr c9_3) (by omega)
      refine lv_aload_n hx hb dX9_back_14 rfl (lv_at hl 0 rfl) ?_
      refine lv_dup hx hb dX9_back_15 rfl ?_
      refine zz_get (v := .int (nI tl)) S hw fgX9_13 0 rfl rfl dX9_back_16 ?_
      refine lv_iload_n hx hb dX9_back_19 rfl (lv_at hl 1 rfl) ?_
      refine lv_isub hx hb dX9_back_20 ?_
      refine zz_topi (y := (nI (tl - vq4))) (pk_sub (a := tl) (b := vq4) (by omega)) ?_
      refine zz_put (ws' := [(ob0, .inr (9, [.ref ut, .int (nI (tl - vq4)), .ref h1, .int uf3, .ref sc, .ref dr0, .ref k0, .ref my0, .ref c0, .ref ga, .ref pa0, .ref t0, .ref sl0, .ref hd0]))]) (v := .int (nI (tl - vq4))) S hw fpX9_13 0 rfl rfl rfl (Nat.le_of_ble_eq_true rfl) rfl dX9_back_21 ?_
      clear hw
      intro H locs hw
      refine lv_aload_n hx hb dX9_back_24 rfl (lv_at hl 0 rfl) ?_
      refine zz_get (v := .int (nI (tl - vq4))) S hw fgX9_13 0 rfl rfl dX9_back_25 ?_
      exact hret _ _ _ _ _ _ ⟨(nI (tl - vq4)), (tl - vq4), rfl, rfl, (by first | exact zz_bk_ok (by omega) htl | exact zz_bk_no (Or.inl (by assumption)) | exact zz_bk_no (Or.inr (Int32.not_le.mp (by assumption))) | exact zz_bk_no (Or.inr (by assumption)))⟩ hw rfl dX9_back_28
    · skip
      refine lv_iconst (v := (-1)) hx hb dX9_back_12 (by decide) ?_
      refine W.eq (g2 := F0 m 13 ls [.int (-1)]) rfl ?_
      exact hret _ _ _ _ _ _ ⟨(-1), tl, rfl, rfl, (by first | exact zz_bk_ok (by omega) htl | exact zz_bk_no (Or.inl (by assumption)) | exact zz_bk_no (Or.inr (Int32.not_le.mp (by assumption))) | exact zz_bk_no (Or.inr (by assumption)))⟩ hw rfl dX9_back_13
theorem kd_ncX9_hold : kd_ck 303927567195272582556564259755219889445258999695290080080326323584865777691 31 cX9_hold.data.toList 0 = true := by decide +kernel
theorem dX9_hold_0 : decode cX9_hold 0 = .ok (.iload_n 1, 1) := kd_dk0 kd_o27 kd_ncX9_hold rfl
theorem dX9_hold_1 : decode cX9_hold 1 = .ok (.invokestatic 297, 3) := kd_dk2 kd_o184 kd_ncX9_hold rfl
theorem dX9_hold_4 : decode cX9_hold 4 = .ok (.ifCond .ne 5, 3) := kd_dj2 kd_o154 (w := 5) kd_ncX9_hold rfl rfl
theorem dX9_hold_7 : decode cX9_hold 7 = .ok (.iconst 0, 1) := kd_dk0 kd_o3 kd_ncX9_hold rfl
theorem dX9_hold_8 : decode cX9_hold 8 = .ok (.ireturn, 1) := kd_dk0 kd_o172 kd_ncX9_hold rfl
theorem dX9_hold_9 : decode cX9_hold 9 = .ok (.aload_n 0, 1) := kd_dk0 kd_o42 kd_ncX9_hold rfl
theorem dX9_hold_10 : decode cX9_hold 10 = .ok (.getfield 75, 3) := kd_dk2 kd_o180 kd_ncX9_hold rfl
theorem dX9_hold_13 : decode cX9_hold 13 = .ok (.iload_n 1, 1) := kd_dk0 kd_o27 kd_ncX9_hold rfl
theorem dX9_hold_14 : decode cX9_hold 14 = .ok (.aaload, 1) := kd_dk0 kd_o50 kd_ncX9_hold rfl
theorem dX9_hold_15 : decode cX9_hold 15 = .ok (.aload_n 0, 1) := kd_dk0 kd_o42 kd_ncX9_hold rfl
theorem dX9_hold_16 : decode cX9_hold 16 = .ok (.getfield 40, 3) := kd_dk2 kd_o180 kd_ncX9_hold rfl
theorem dX9_hold_19 : decode cX9_hold 19 = .ok (.invokevirtual 244, 3) := kd_dk2 kd_o182 kd_ncX9_hold rfl
theorem dX9_hold_22 : decode cX9_hold 22 = .ok (.aload_n 0, 1) := kd_dk0 kd_o42 kd_ncX9_hold rfl
theorem dX9_hold_23 : decode cX9_hold 23 = .ok (.getfield 79, 3) := kd_dk2 kd_o180 kd_ncX9_hold rfl
theorem dX9_hold_26 : decode cX9_hold 26 = .ok (.iload_n 1, 1) := kd_dk0 kd_o27 kd_ncX9_hold rfl
theorem dX9_hold_27 : decode cX9_hold 27 = .ok (.iconst 1, 1) := kd_dk0 kd_o4 kd_ncX9_hold rfl
theorem dX9_hold_28 : decode cX9_hold 28 = .ok (.bastore, 1) := kd_dk0 kd_o84 kd_ncX9_hold rfl
theorem dX9_hold_29 : decode cX9_hold 29 = .ok (.iconst 1, 1) := kd_dk0 kd_o4 kd_ncX9_hold rfl
theorem dX9_hold_30 : decode cX9_hold 30 = .ok (.ireturn, 1) := kd_dk0 kd_o172 kd_ncX9_hold rfl
set_option maxHeartbeats 8000000 in
set_option maxRecDepth 100000 in
theorem c_g_hold (l : Launch) (G : zz_G) (ob0 : Nat) (ut : Nat) (uf1 : Int32) (h1 : Nat) (uf3 : Int32) (sc : Nat) (dr0 : Nat) (k0 : Nat) (my0 : Nat) (c0 : Nat) (ga : Nat) (pa0 : Nat) (t0 : Nat) (sl0 : Nat) (hd0 : Nat) (b1 : Nat) (b2 : Nat) (b3 : Nat) (b4 : Nat) (e1 : Nat → Int32) (e2 : Nat → Int32) (e3 : Nat → Int32) (e4 : Nat → Int32) (o1 : Int32) (o2 : Int32) (o3 : Int32) (y00 : Nat) (y01 : Nat) (y02 : Nat) (y03 : Nat) (y04 : Nat) (y10 : Nat) (y11 : Nat) (y12 : Nat) (y13 : Nat) (y14 : Nat) (y20 : Nat) (y21 : Nat) (y22 : Nat) (y23 : Nat) (y24 : Nat) (yf01 : Nat → Int32) (yf02 : Nat → Int32) (yf03 : Nat → Int32) (yf04 : Nat → Int32) (yf11 : Nat → Int32) (yf12 : Nat → Int32) (yf13 : Nat → Int32) (yf14 : Nat → Int32) (yf21 : Nat → Int32) (yf22 : Nat → Int32) (yf23 : Nat → Int32) (yf24 : Nat → Int32) (yi01 : Int32) (yi02 : Int32) (yi03 : Int32) (yi11 : Int32) (yi12 : Int32) (yi13 : Int32) (yi21 : Int32) (yi22 : Int32) (yi23 : Int32) (hf : Nat → Int32) (ar1 : Int32) : zz_M l G mX9_hold 2 0 0 [.ref ob0, .int ar1] [(ob0, .inr (9, [.ref ut, .int uf1, .ref h1, .int uf3, .ref sc, .ref dr0, .ref k0, .ref my0, .ref c0, .ref ga, .ref pa0, .ref t0, .ref sl0, .ref hd0])), (k0, .inr (6, [.ref b1, .ref b2, .ref b3, .ref b4, .int o1, .int o2, .int o3])), (b1, .inl (G.2 0, 7, .inl e1)), (b2, .inl (G.2 0, 6, .inl e2)), (b3, .inl (G.2 0, 7, .inl e3)), (b4, .inl (G.2 0, 42, .inl e4)), (sl0, .inl (G.2 5, 3, .inr (.inr (.inr (.inr (va_up (va_up (va_up (fun _ => none) 0 (some y00)) 1 (some y10)) 2 (some y20))))))), (y00, .inr (6, [.ref y01, .ref y02, .ref y03, .ref y04, .int yi01, .int yi02, .int yi03])), (y01, .inl (G.2 0, 7, .inl yf01)), (y02, .inl (G.2 0, 6, .inl yf02)), (y03, .inl (G.2 0, 7, .inl yf03)), (y04, .inl (G.2 0, 42, .inl yf04)), (y10, .inr (6, [.ref y11, .ref y12, .ref y13, .ref y14, .int yi11, .int yi12, .int yi13])), (y11, .inl (G.2 0, 7, .inl yf11)), (y12, .inl (G.2 0, 6, .inl yf12)), (y13, .inl (G.2 0, 7, .inl yf13)), (y14, .inl (G.2 0, 42, .inl yf14)), (y20, .inr (6, [.ref y21, .ref y22, .ref y23, .ref y24, .int yi21, .int yi22, .int yi23])), (y21, .inl (G.2 0, 7, .inl yf21)), (y22, .inl (G.2 0, 6, .inl yf22)), (y23, .inl (G.2 0, 7, .inl yf23)), (y24, .inl (G.2 0, 42, .inl yf24)), (hd0, .inl (G.2 2, 3, .inl hf))] (fun rr u => ∃ (rv : Int32), ∃ (yg01 : Nat → Int32), ∃ (yg02 : Nat → Int32), ∃ (yg03 : Nat → Int32), ∃ (yg04 : Nat → Int32), ∃ (yg11 : Nat → Int32), ∃ (yg12 : Nat → Int32), ∃ (yg13 : Nat → Int32), ∃ (yg14 : Nat → Int32), ∃ (yg21 : Nat → Int32), ∃ (yg22 : Nat → Int32), ∃ (yg23 : Nat → Int32), ∃ (yg24 : Nat → Int32), ∃ (yj01 : Int32), ∃ (yj02 : Int32), ∃ (yj03 : Int32), ∃ (yj11 : Int32), ∃ (yj12 : Int32), ∃ (yj13 : Int32), ∃ (yj21 : Int32), ∃ (yj22 : Int32), ∃ (yj23 : Int32), ∃ (hf2 : Nat → Int32), rr = some (.int rv) ∧ u = [(ob0, .inr (9, [.ref ut, .int uf1, .ref h1, .int uf3, .ref sc, .ref dr0, .ref k0, .ref my0, .ref c0, .ref ga, .ref pa0, .ref t0, .ref sl0, .ref hd0])), (k0, .inr (6, [.ref b1, .ref b2, .ref b3, .ref b4, .int o1, .int o2, .int o3])), (b1, .inl (G.2 0, 7, .inl e1)), (b2, .inl (G.2 0, 6, .inl e2)), (b3, .inl (G.2 0, 7, .inl e3)), (b4, .inl (G.2 0, 42, .inl e4)), (sl0, .inl (G.2 5, 3, .inr (.inr (.inr (.inr (va_up (va_up (va_up (fun _ => none) 0 (some y00)) 1 (some y10)) 2 (some y20))))))), (y00, .inr (6, [.ref y01, .ref y02, .ref y03, .ref y04, .int yj01, .int yj02, .int yj03])), (y01, .inl (G.2 0, 7, .inl yg01)), (y02, .inl (G.2 0, 6, .inl yg02)), (y03, .inl (G.2 0, 7, .inl yg03)), (y04, .inl (G.2 0, 42, .inl yg04)), (y10, .inr (6, [.ref y11, .ref y12, .ref y13, .ref y14, .int yj11, .int yj12, .int yj13])), (y11, .inl (G.2 0, 7, .inl yg11)), (y12, .inl (G.2 0, 6, .inl yg12)), (y13, .inl (G.2 0, 7, .inl yg13)), (y14, .inl (G.2 0, 42, .inl yg14)), (y20, .inr (6, [.ref y21, .ref y22, .ref y23, .ref y24, .int yj21, .int yj22, .int yj23])), (y21, .inl (G.2 0, 7, .inl yg21)), (y22, .inl (G.2 0, 6, .inl yg22)), (y23, .inl (G.2 0, 7, .inl yg23)), (y24, .inl (G.2 0, 42, .inl yg24)), (hd0, .inl (G.2 2, 3, .inl hf2))] ∧ (rv = zz_inn ar1 0 2) ∧ (zz_hle ar1 hf hf2) ∧ (zy_hs (ar1 = nI 0) e1 e2 e3 e4 o1 o2 o3 yf01 yf02 yf03 yf04 yi01 yi02 yi03 yg01 yg02 yg03 yg04 yj01 yj02 yj03) ∧ (zy_hs (ar1 = nI 1) e1 e2 e3 e4 o1 o2 o3 yf11 yf12 yf13 yf14 yi11 yi12 yi13 yg11 yg12 yg13 yg14 yj11 yj12 yj13) ∧ (zy_hs (ar1 = nI 2) e1 e2 e3 e4 o1 o2 o3 yf21 yf22 yf23 yf24 yi21 yi22 yi23 yg21 yg22 yg23 yg24 yj21 yj22 yj23)) := by
  refine zz_enteri (by decide +kernel) (Nat.le_of_ble_eq_true rfl) ?_
  intro p e s m args below meth c A Q ls S hnm hret hw hl
  have hl : lv_has ls 2 [(0, .ref ob0), (1, .int ar1)] := hl
  have hx := S.1
  have hb := S.2.1
  refine lv_iload_n hx hb dX9_hold_0 rfl (lv_at hl 1 rfl) ?_
  refine zz_callS (As := [.int ar1]) (rest := []) (wr := [(ob0, .inr (9, [.ref ut, .int uf1, .ref h1, .int uf3, .ref sc, .ref dr0, .ref k0, .ref my0, .ref c0, .ref ga, .ref pa0, .ref t0, .ref sl0, .ref hd0])), (k0, .inr (6, [.ref b1, .ref b2, .ref b3, .ref b4, .int o1, .int o2, .int o3])), (b1, .inl (G.2 0, 7, .inl e1)), (b2, .inl (G.2 0, 6, .inl e2)), (b3, .inl (G.2 0, 7, .inl e3)), (b4, .inl (G.2 0, 42, .inl e4)), (sl0, .inl (G.2 5, 3, .inr (.inr (.inr (.inr (va_up (va_up (va_up (fun _ => none) 0 (some y00)) 1 (some y10)) 2 (some y20))))))), (y00, .inr (6, [.ref y01, .ref y02, .ref y03, .ref y04, .int yi01, .int yi02, .int yi03])), (y01, .inl (G.2 0, 7, .inl yf01)), (y02, .inl (G.2 0, 6, .inl yf02)), (y03, .inl (G.2 0, 7, .inl yf03)), (y04, .inl (G.2 0, 42, .inl yf04)), (y10, .inr (6, [.ref y11, .ref y12, .ref y13, .ref y14, .int yi11, .int yi12, .int yi13])), (y11, .inl (G.2 0, 7, .inl yf11)), (y12, .inl (G.2 0, 6, .inl yf12)), (y13, .inl (G.2 0, 7, .inl yf13)), (y14, .inl (G.2 0, 42, .inl yf14)), (y20, .inr (6, [.ref y21, .ref y22, .ref y23, .ref y24, .int yi21, .int yi22, .int yi23])), (y21, .inl (G.2 0, 7, .inl yf21)), (y22, .inl (G.2 0, 6, .inl yf22)), (y23, .inl (G.2 0, 7, .inl yf23)), (y24, .inl (G.2 0, 42, .inl yf24)), (hd0, .inl (G.2 2, 3, .inl hf))]) S hw hl.1 lX9_297 (c_g_isSlot l G ar1) ⟨Nat.le_of_ble_eq_true rfl, Nat.le_of_ble_eq_true rfl⟩ ⟨Nat.le_of_ble_eq_true rfl, Nat.le_of_ble_eq_true rfl⟩ [] [0, 1, 2, 3, 4, 5, 6, 7, 8, 9, 10, 11, 12, 13, 14, 15, 16, 17, 18, 19, 20, 21, 22] (by decide +kernel) rfl rfl (by decide +kernel) (by decide +kernel) rfl rfl (Nat.le_of_ble_eq_true rfl) dX9_hold_1 ?_
  clear hw
  intro rr u H locs hp hw
  refine hp.elim fun rv_1 zg0 => zg0.elim fun zee1 zg1 => zg1.elim fun zee2 zg2 => zg2.elim fun hq1_0 hq1_1 => ?_
  clear hp zg0 zg1 zg2
  subst zee1
  subst zee2
  replace hw : zz_w G A s [(ob0, .inr (9, [.ref ut, .int uf1, .ref h1, .int uf3, .ref sc, .ref dr0, .ref k0, .ref my0, .ref c0, .ref ga, .ref pa0, .ref t0, .ref sl0, .ref hd0])), (k0, .inr (6, [.ref b1, .ref b2, .ref b3, .ref b4, .int o1, .int o2, .int o3])), (b1, .inl (G.2 0, 7, .inl e1)), (b2, .inl (G.2 0, 6, .inl e2)), (b3, .inl (G.2 0, 7, .inl e3)), (b4, .inl (G.2 0, 42, .inl e4)), (sl0, .inl (G.2 5, 3, .inr (.inr (.inr (.inr (va_up (va_up (va_up (fun _ => none) 0 (some y00)) 1 (some y10)) 2 (some y20))))))), (y00, .inr (6, [.ref y01, .ref y02, .ref y03, .ref y04, .int yi01, .int yi02, .int yi03])), (y01, .inl (G.2 0, 7, .inl yf01)), (y02, .inl (G.2 0, 6, .inl yf02)), (y03, .inl (G.2 0, 7, .inl yf03)), (y04, .inl (G.2 0, 42, .inl yf04)), (y10, .inr (6, [.ref y11, .ref y12, .ref y13, .ref y14, .int yi11, .int yi12, .int yi13])), (y11, .inl (G.2 0, 7, .inl yf11)), (y12, .inl (G.2 0, 6, .inl yf12)), (y13, .inl (G.2 0, 7, .inl yf13)), (y14, .inl (G.2 0, 42, .inl yf14)), (y20, .inr (6, [.ref y21, .ref y22, .ref y23, .ref y24, .int yi21, .int yi22, .int yi23])), (y21, .inl (G.2 0, 7, .inl yf21)), (y22, .inl (G.2 0, 6, .inl yf22)), (y23, .inl (G.2 0, 7, .inl yf23)), (y24, .inl (G.2 0, 42, .inl yf24)), (hd0, .inl (G.2 2, 3, .inl hf))] H _ := hw
  refine W.eq (g2 := F0 m 4 ls [.int rv_1]) rfl ?_
  refine lv_if_ne (tgt := 9) hx hb dX9_hold_4 (by decide) (fun c4_2 => ?_) (fun c4_2 => ?_)
  · skip
    obtain ⟨vq3, hvq3, rfl⟩ := hq1_0.resolve_left c4_2
    refine lv_aload_n hx hb dX9_hold_9 rfl (lv_at hl 0 rfl) ?_
    refine zz_get (v := .ref sl0) S hw fgX9_75 0 rfl rfl dX9_hold_10 ?_
    refine lv_iload_n hx hb dX9_hold_13 rfl (lv_at hl 1 rfl) ?_
    rcases (show vq3 = 0 ∨ vq3 = 1 ∨ vq3 = 2 by omega) with rfl | rfl | rfl
    · skip
      refine zz_topi (y := 0) (by decide) ?_
      have hl : lv_has ls 2 [(0, .ref ob0), (1, .int 0)] := hl
      refine zz_aldS (v := y00) S hw 6 rfl (vp_in_nI (n := 0) (by decide) (by decide)) (by rw [show (0 : Int32).toNatClampNeg = 0 from nI_clamp (n := 0) (by decide)]; rfl) dX9_hold_14 ?_
      refine lv_aload_n hx hb dX9_hold_15 rfl (lv_at hl 0 rfl) ?_
      refine zz_get (v := .ref k0) S hw fgX9_40 0 rfl rfl dX9_hold_16 ?_
      refine zz_callV (qb := 7) (As := [.ref k0]) (rest := []) (wr := [(ob0, .inr (9, [.ref ut, .int uf1, .ref h1, .int uf3, .ref sc, .ref dr0, .ref k0, .ref my0, .ref c0, .ref ga, .ref pa0, .ref t0, .ref sl0, .ref hd0])), (sl0, .inl (G.2 5, 3, .inr (.inr (.inr (.inr (va_up (va_up (va_up (fun _ => none) 0 (some y00)) 1 (some y10)) 2 (some y20))))))), (y10, .inr (6, [.ref y11, .ref y12, .ref y13, .ref y14, .int yi11, .int yi12, .int yi13])), (y11, .inl (G.2 0, 7, .inl yf11)), (y12, .inl (G.2 0, 6, .inl yf12)), (y13, .inl (G.2 0, 7, .inl yf13)), (y14, .inl (G.2 0, 42, .inl yf14)), (y20, .inr (6, [.ref y21, .ref y22, .ref y23, .ref y24, .int yi21, .int yi22, .int yi23])), (y21, .inl (G.2 0, 7, .inl yf21)), (y22, .inl (G.2 0, 6, .inl yf22)), (y23, .inl (G.2 0, 7, .inl yf23)), (y24, .inl (G.2 0, 42, .inl yf24)), (hd0, .inl (G.2 2, 3, .inl hf))]) S hw hl.1 lX9_244 (c_gcopyFrom l G y00 y01 y02 y03 y04 yf01 yf02 yf03 yf04 yi01 yi02 yi03 k0 b1 b2 b3 b4 e1 e2 e3 e4 o1 o2 o3) ⟨Nat.le_of_ble_eq_true rfl, Nat.le_of_ble_eq_true rfl⟩ ⟨Nat.le_of_ble_eq_true rfl, Nat.le_of_ble_eq_true rfl⟩ [7, 8, 9, 10, 11, 1, 2, 3, 4, 5] [0, 6, 12, 13, 14, 15, 16, 17, 18, 19, 20, 21, 22] (by decide) rfl rfl (by decide) (by decide) rfl rfl rfl rfl (Nat.le_of_ble_eq_true rfl) dX9_hold_19 ?_
      clear hw
      intro rr u H locs hp hw
      refine hp.elim fun hh1_4 zg0 => zg0.elim fun hh2_5 zg1 => zg1.elim fun hh3_6 zg2 => zg2.elim fun hh4_7 zg3 => zg3.elim fun zee1 zg4 => zg4.elim fun zee2 hq19_0 => ?_
      clear hp zg0 zg1 zg2 zg3 zg4
      subst zee1
      subst zee2
      replace hw : zz_w G A s [(ob0, .inr (9, [.ref ut, .int uf1, .ref h1, .int uf3, .ref sc, .ref dr0, .ref k0, .ref my0, .ref c0, .ref ga, .ref pa0, .ref t0, .ref sl0, .ref hd0])), (sl0, .inl (G.2 5, 3, .inr (.inr (.inr (.inr (va_up (va_up (va_up (fun _ => none) 0 (some y00)) 1 (some y10)) 2 (some y20))))))), (y10, .inr (6, [.ref y11, .ref y12, .ref y13, .ref y14, .int yi11, .int yi12, .int yi13])), (y11, .inl (G.2 0, 7, .inl yf11)), (y12, .inl (G.2 0, 6, .inl yf12)), (y13, .inl (G.2 0, 7, .inl yf13)), (y14, .inl (G.2 0, 42, .inl yf14)), (y20, .inr (6, [.ref y21, .ref y22, .ref y23, .ref y24, .int yi21, .int yi22, .int yi23])), (y21, .inl (G.2 0, 7, .inl yf21)), (y22, .inl (G.2 0, 6, .inl yf22)), (y23, .inl (G.2 0, 7, .inl yf23)), (y24, .inl (G.2 0, 42, .inl yf24)), (hd0, .inl (G.2 2, 3, .inl hf)), (y00, .inr (6, [.ref y01, .ref y02, .ref y03, .ref y04, .int o1, .int o2, .int o3])), (y01, .inl (G.2 0, 7, .inl hh1_4)), (y02, .inl (G.2 0, 6, .inl hh2_5)), (y03, .inl (G.2 0, 7, .inl hh3_6)), (y04, .inl (G.2 0, 42, .inl hh4_7)), (k0, .inr (6, [.ref b1, .ref b2, .ref b3, .ref b4, .int o1, .int o2, .int o3])), (b1, .inl (G.2 0, 7, .inl e1)), (b2, .inl (G.2 0, 6, .inl e2)), (b3, .inl (G.2 0, 7, .inl e3)), (b4, .inl (G.2 0, 42, .inl e4))] H _ := hw
      refine W.eq (g2 := F0 m 22 ls []) rfl ?_
      refine lv_aload_n hx hb dX9_hold_22 rfl (lv_at hl 0 rfl) ?_
      refine zz_get (v := .ref hd0) S hw fgX9_79 0 rfl rfl dX9_hold_23 ?_
      refine lv_iload_n hx hb dX9_hold_26 rfl (lv_at hl 1 rfl) ?_
      refine lv_iconst (v := 1) hx hb dX9_hold_27 (by decide) ?_
      obtain ⟨vF8, evF8⟩ : ∃ z : Nat → Int32, upd hf (0 : Int32).toNatClampNeg (vp_nar .boolean 1) = z := ⟨_, rfl⟩
      refine zz_zast (ws' := [(ob0, .inr (9, [.ref ut, .int uf1, .ref h1, .int uf3, .ref sc, .ref dr0, .ref k0, .ref my0, .ref c0, .ref ga, .ref pa0, .ref t0, .ref sl0, .ref hd0])), (sl0, .inl (G.2 5, 3, .inr (.inr (.inr (.inr (va_up (va_up (va_up (fun _ => none) 0 (some y00)) 1 (some y10)) 2 (some y20))))))), (y10, .inr (6, [.ref y11, .ref y12, .ref y13, .ref y14, .int yi11, .int yi12, .int yi13])), (y11, .inl (G.2 0, 7, .inl yf11)), (y12, .inl (G.2 0, 6, .inl yf12)), (y13, .inl (G.2 0, 7, .inl yf13)), (y14, .inl (G.2 0, 42, .inl yf14)), (y20, .inr (6, [.ref y21, .ref y22, .ref y23, .ref y24, .int yi21, .int yi22, .int yi23])), (y21, .inl (G.2 0, 7, .inl yf21)), (y22, .inl (G.2 0, 6, .inl yf22)), (y23, .inl (G.2 0, 7, .inl yf23)), (y24, .inl (G.2 0, 42, .inl yf24)), (hd0, .inl (G.2 2, 3, .inl vF8)), (y00, .inr (6, [.ref y01, .ref y02, .ref y03, .ref y04, .int o1, .int o2, .int o3])), (y01, .inl (G.2 0, 7, .inl hh1_4)), (y02, .inl (G.2 0, 6, .inl hh2_5)), (y03, .inl (G.2 0, 7, .inl hh3_6)), (y04, .inl (G.2 0, 42, .inl hh4_7)), (k0, .inr (6, [.ref b1, .ref b2, .ref b3, .ref b4, .int o1, .int o2, .int o3])), (b1, .inl (G.2 0, 7, .inl e1)), (b2, .inl (G.2 0, 6, .inl e2)), (b3, .inl (G.2 0, 7, .inl e3)), (b4, .inl (G.2 0, 42, .inl e4))]) (g := vF8) S hw 12 rfl (vp_in_nI (n := 0) (by decide) (by decide)) (evF8) rfl dX9_hold_28 ?_
      clear hw
      intro H locs hw
      refine W.eq (g2 := F0 m 29 ls []) rfl ?_
      refine lv_iconst (v := 1) hx hb dX9_hold_29 (by decide) ?_
      exact hret _ _ _ _ _ _ ⟨1, hh1_4, hh2_5, hh3_6, hh4_7, yf11, yf12, yf13, yf14, yf21, yf22, yf23, yf24, o1, o2, o3, yi11, yi12, yi13, yi21, yi22, yi23, vF8, rfl, rfl, (by first | exact zz_inn0 (by assumption) (by assumption) | exact zz_inn1 (by assumption) (by assumption)), (by first | exact zz_hl0 (by assumption) (by assumption) | exact zz_hl_0 (by assumption) | exact zz_hl_1 (by assumption) | exact zz_hl_2 (by assumption) | exact zz_hl_k (by omega) (by assumption)), (by first | exact zy_hs1 rfl hq19_0 | exact zy_hs0 (zy_Inn (by omega) (by omega) (by omega)) | exact zy_hs0 (fun z => (zz_innI (n := 2) (by omega) (show _ = zz_inn _ 0 2 by assumption) (by assumption)) ⟨_, by decide, z⟩)), (by first | exact zy_hs1 rfl hq19_0 | exact zy_hs0 (zy_Inn (by omega) (by omega) (by omega)) | exact zy_hs0 (fun z => (zz_innI (n := 2) (by omega) (show _ = zz_inn _ 0 2 by assumption) (by assumption)) ⟨_, by decide, z⟩)), (by first | exact zy_hs1 rfl hq19_0 | exact zy_hs0 (zy_Inn (by omega) (by omega) (by omega)) | exact zy_hs0 (fun z => (zz_innI (n := 2) (by omega) (show _ = zz_inn _ 0 2 by assumption) (by assumption)) ⟨_, by decide, z⟩))⟩ (hw.sub [0, 18, 19, 20, 21, 22, 1, 13, 14, 15, 16, 17, 2, 3, 4, 5, 6, 7, 8, 9, 10, 11, 12] (by decide +kernel) rfl) rfl dX9_hold_30
    · skip
      refine zz_topi (y := 1) (by decide) ?_
      have hl : lv_has ls 2 [(0, .ref ob0), (1, .int 1)] := hl
      refine zz_aldS (v := y10) S hw 6 rfl (vp_in_nI (n := 1) (by decide) (by decide)) (by rw [show (1 : Int32).toNatClampNeg = 1 from nI_clamp (n := 1) (by decide)]; rfl) dX9_hold_14 ?_
      refine lv_aload_n hx hb dX9_hold_15 rfl (lv_at hl 0 rfl) ?_
      refine zz_get (v := .ref k0) S hw fgX9_40 0 rfl rfl dX9_hold_16 ?_
      refine zz_callV (qb := 12) (As := [.ref k0]) (rest := []) (wr := [(ob0, .inr (9, [.ref ut, .int uf1, .ref h1, .int uf3, .ref sc, .ref dr0, .ref k0, .ref my0, .ref c0, .ref ga, .ref pa0, .ref t0, .ref sl0, .ref hd0])), (sl0, .inl (G.2 5, 3, .inr (.inr (.inr (.inr (va_up (va_up (va_up (fun _ => none) 0 (some y00)) 1 (some y10)) 2 (some y20))))))), (y00, .inr (6, [.ref y01, .ref y02, .ref y03, .ref y04, .int yi01, .int yi02, .int yi03])), (y01, .inl (G.2 0, 7, .inl yf01)), (y02, .inl (G.2 0, 6, .inl yf02)), (y03, .inl (G.2 0, 7, .inl yf03)), (y04, .inl (G.2 0, 42, .inl yf04)), (y20, .inr (6, [.ref y21, .ref y22, .ref y23, .ref y24, .int yi21, .int yi22, .int yi23])), (y21, .inl (G.2 0, 7, .inl yf21)), (y22, .inl (G.2 0, 6, .inl yf22)), (y23, .inl (G.2 0, 7, .inl yf23)), (y24, .inl (G.2 0, 42, .inl yf24)), (hd0, .inl (G.2 2, 3, .inl hf))]) S hw hl.1 lX9_244 (c_gcopyFrom l G y10 y11 y12 y13 y14 yf11 yf12 yf13 yf14 yi11 yi12 yi13 k0 b1 b2 b3 b4 e1 e2 e3 e4 o1 o2 o3) ⟨Nat.le_of_ble_eq_true rfl, Nat.le_of_ble_eq_true rfl⟩ ⟨Nat.le_of_ble_eq_true rfl, Nat.le_of_ble_eq_true rfl⟩ [12, 13, 14, 15, 16, 1, 2, 3, 4, 5] [0, 6, 7, 8, 9, 10, 11, 17, 18, 19, 20, 21, 22] (by decide) rfl rfl (by decide) (by decide) rfl rfl rfl rfl (Nat.le_of_ble_eq_true rfl) dX9_hold_19 ?_
      clear hw
      intro rr u H locs hp hw
      refine hp.elim fun hh1_9 zg0 => zg0.elim fun hh2_10 zg1 => zg1.elim fun hh3_11 zg2 => zg2.elim fun hh4_12 zg3 => zg3.elim fun zee1 zg4 => zg4.elim fun zee2 hq19_0 => ?_
      clear hp zg0 zg1 zg2 zg3 zg4
      subst zee1
      subst zee2
      replace hw : zz_w G A s [(ob0, .inr (9, [.ref ut, .int uf1, .ref h1, .int uf3, .ref sc, .ref dr0, .ref k0, .ref my0, .ref c0, .ref ga, .ref pa0, .ref t0, .ref sl0, .ref hd0])), (sl0, .inl (G.2 5, 3, .inr (.inr (.inr (.inr (va_up (va_up (va_up (fun _ => none) 0 (some y00)) 1 (some y10)) 2 (some y20))))))), (y00, .inr (6, [.ref y01, .ref y02, .ref y03, .ref y04, .int yi01, .int yi02, .int yi03])), (y01, .inl (G.2 0, 7, .inl yf01)), (y02, .inl (G.2 0, 6, .inl yf02)), (y03, .inl (G.2 0, 7, .inl yf03)), (y04, .inl (G.2 0, 42, .inl yf04)), (y20, .inr (6, [.ref y21, .ref y22, .ref y23, .ref y24, .int yi21, .int yi22, .int yi23])), (y21, .inl (G.2 0, 7, .inl yf21)), (y22, .inl (G.2 0, 6, .inl yf22)), (y23, .inl (G.2 0, 7, .inl yf23)), (y24, .inl (G.2 0, 42, .inl yf24)), (hd0, .inl (G.2 2, 3, .inl hf)), (y10, .inr (6, [.ref y11, .ref y12, .ref y13, .ref y14, .int o1, .int o2, .int o3])), (y11, .inl (G.2 0, 7, .inl hh1_9)), (y12, .inl (G.2 0, 6, .inl hh2_10)), (y13, .inl (G.2 0, 7, .inl hh3_11)), (y14, .inl (G.2 0, 42, .inl hh4_12)), (k0, .inr (6, [.ref b1, .ref b2, .ref b3, .ref b4, .int o1, .int o2, .int o3])), (b1, .inl (G.2 0, 7, .inl e1)), (b2, .inl (G.2 0, 6, .inl e2)), (b3, .inl (G.2 0, 7, .inl e3)), (b4, .inl (G.2 0, 42, .inl e4))] H _ := hw
      refine W.eq (g2 := F0 m 22 ls []) rfl ?_
      refine lv_aload_n hx hb dX9_hold_22 rfl (lv_at hl 0 rfl) ?_
      refine zz_get (v := .ref hd0) S hw fgX9_79 0 rfl rfl dX9_hold_23 ?_
      refine lv_iload_n hx hb dX9_hold_26 rfl (lv_at hl 1 rfl) ?_
      refine lv_iconst (v := 1) hx hb dX9_hold_27 (by decide) ?_
      obtain ⟨vF13, evF13⟩ : ∃ z : Nat → Int32, upd hf (1 : Int32).toNatClampNeg (vp_nar .boolean 1) = z := ⟨_, rfl⟩
      refine zz_zast (ws' := [(ob0, .inr (9, [.ref ut, .int uf1, .ref h1, .int uf3, .ref sc, .ref dr0, .ref k0, .ref my0, .ref c0, .ref ga, .ref pa0, .ref t0, .ref sl0, .ref hd0])), (sl0, .inl (G.2 5, 3, .inr (.inr (.inr (.inr (va_up (va_up (va_up (fun _ => none) 0 (some y00)) 1 (some y10)) 2 (some y20))))))), (y00, .inr (6, [.ref y01, .ref y02, .ref y03, .ref y04, .int yi01, .int yi02, .int yi03])), (y01, .inl (G.2 0, 7, .inl yf01)), (y02, .inl (G.2 0, 6, .inl yf02)), (y03, .inl (G.2 0, 7, .inl yf03)), (y04, .inl (G.2 0, 42, .inl yf04)), (y20, .inr (6, [.ref y21, .ref y22, .ref y23, .ref y24, .int yi21, .int yi22, .int yi23])), (y21, .inl (G.2 0, 7, .inl yf21)), (y22, .inl (G.2 0, 6, .inl yf22)), (y23, .inl (G.2 0, 7, .inl yf23)), (y24, .inl (G.2 0, 42, .inl yf24)), (hd0, .inl (G.2 2, 3, .inl vF13)), (y10, .inr (6, [.ref y11, .ref y12, .ref y13, .ref y14, .int o1, .int o2, .int o3])), (y11, .inl (G.2 0, 7, .inl hh1_9)), (y12, .inl (G.2 0, 6, .inl hh2_10)), (y13, .inl (G.2 0, 7, .inl hh3_11)), (y14, .inl (G.2 0, 42, .inl hh4_12)), (k0, .inr (6, [.ref b1, .ref b2, .ref b3, .ref b4, .int o1, .int o2, .int o3])), (b1, .inl (G.2 0, 7, .inl e1)), (b2, .inl (G.2 0, 6, .inl e2)), (b3, .inl (G.2 0, 7, .inl e3)), (b4, .inl (G.2 0, 42, .inl e4))]) (g := vF13) S hw 12 rfl (vp_in_nI (n := 1) (by decide) (by decide)) (evF13) rfl dX9_hold_28 ?_
      clear hw
      intro H locs hw
      refine lv_iconst (v := 1) hx hb dX9_hold_29 (by decide) ?_
      exact hret _ _ _ _ _ _ ⟨1, yf01, yf02, yf03, yf04, hh1_9, hh2_10, hh3_11, hh4_12, yf21, yf22, yf23, yf24, yi01, yi02, yi03, o1, o2, o3, yi21, yi22, yi23, vF13, rfl, rfl, (by first | exact zz_inn0 (by assumption) (by assumption) | exact zz_inn1 (by assumption) (by assumption)), (by first | exact zz_hl0 (by assumption) (by assumption) | exact zz_hl_0 (by assumption) | exact zz_hl_1 (by assumption) | exact zz_hl_2 (by assumption) | exact zz_hl_k (by omega) (by assumption)), (by first | exact zy_hs1 rfl hq19_0 | exact zy_hs0 (zy_Inn (by omega) (by omega) (by omega)) | exact zy_hs0 (fun z => (zz_innI (n := 2) (by omega) (show _ = zz_inn _ 0 2 by assumption) (by assumption)) ⟨_, by decide, z⟩)), (by first | exact zy_hs1 rfl hq19_0 | exact zy_hs0 (zy_Inn (by omega) (by omega) (by omega)) | exact zy_hs0 (fun z => (zz_innI (n := 2) (by omega) (show _ = zz_inn _ 0 2 by assumption) (by assumption)) ⟨_, by decide, z⟩)), (by first | exact zy_hs1 rfl hq19_0 | exact zy_hs0 (zy_Inn (by omega) (by omega) (by omega)) | exact zy_hs0 (fun z => (zz_innI (n := 2) (by omega) (show _ = zz_inn _ 0 2 by assumption) (by assumption)) ⟨_, by decide, z⟩))⟩ (hw.sub [0, 18, 19, 20, 21, 22, 1, 2, 3, 4, 5, 6, 13, 14, 15, 16, 17, 7, 8, 9, 10, 11, 12] (by decide +kernel) rfl) rfl dX9_hold_30
    · skip
      refine zz_topi (y := 2) (by decide) ?_
      have hl : lv_has ls 2 [(0, .ref ob0), (1, .int 2)] := hl
      refine zz_aldS (v := y20) S hw 6 rfl (vp_in_nI (n := 2) (by decide) (by decide)) (by rw [show (2 : Int32).toNatClampNeg = 2 from nI_clamp (n := 2) (by decide)]; rfl) dX9_hold_14 ?_
      refine lv_aload_n hx hb dX9_hold_15 rfl (lv_at hl 0 rfl) ?_
      refine zz_get (v := .ref k0) S hw fgX9_40 0 rfl rfl dX9_hold_16 ?_
      refine W.eq (g2 := F0 m 19 ls [.ref k0, .ref y20]) rfl ?_
      refine zz_callV (qb := 17) (As := [.ref k0]) (rest := []) (wr := [(ob0, .inr (9, [.ref ut, .int uf1, .ref h1, .int uf3, .ref sc, .ref dr0, .ref k0, .ref my0, .ref c0, .ref ga, .ref pa0, .ref t0, .ref sl0, .ref hd0])), (sl0, .inl (G.2 5, 3, .inr (.inr (.inr (.inr (va_up (va_up (va_up (fun _ => none) 0 (some y00)) 1 (some y10)) 2 (some y20))))))), (y00, .inr (6, [.ref y01, .ref y02, .ref y03, .ref y04, .int yi01, .int yi02, .int yi03])), (y01, .inl (G.2 0, 7, .inl yf01)), (y02, .inl (G.2 0, 6, .inl yf02)), (y03, .inl (G.2 0, 7, .inl yf03)), (y04, .inl (G.2 0, 42, .inl yf04)), (y10, .inr (6, [.ref y11, .ref y12, .ref y13, .ref y14, .int yi11, .int yi12, .int yi13])), (y11, .inl (G.2 0, 7, .inl yf11)), (y12, .inl (G.2 0, 6, .inl yf12)), (y13, .inl (G.2 0, 7, .inl yf13)), (y14, .inl (G.2 0, 42, .inl yf14)), (hd0, .inl (G.2 2, 3, .inl hf))]) S hw hl.1 lX9_244 (c_gcopyFrom l G y20 y21 y22 y23 y24 yf21 yf22 yf23 yf24 yi21 yi22 yi23 k0 b1 b2 b3 b4 e1 e2 e3 e4 o1 o2 o3) ⟨Nat.le_of_ble_eq_true rfl, Nat.le_of_ble_eq_true rfl⟩ ⟨Nat.le_of_ble_eq_true rfl, Nat.le_of_ble_eq_true rfl⟩ [17, 18, 19, 20, 21, 1, 2, 3, 4, 5] [0, 6, 7, 8, 9, 10, 11, 12, 13, 14, 15, 16, 22] (by decide) rfl rfl (by decide) (by decide) rfl rfl rfl rfl (Nat.le_of_ble_eq_true rfl) dX9_hold_19 ?_
      clear hw
      intro rr u H locs hp hw
      refine hp.elim fun hh1_14 zg0 => zg0.elim fun hh2_15 zg1 => zg1.elim fun hh3_16 zg2 => zg2.elim fun hh4_17 zg3 => zg3.elim fun zee1 zg4 => zg4.elim fun zee2 hq19_0 => ?_
      clear hp zg0 zg1 zg2 zg3 zg4
      subst zee1
      subst zee2
      replace hw : zz_w G A s [(ob0, .inr (9, [.ref ut, .int uf1, .ref h1, .int uf3, .ref sc, .ref dr0, .ref k0, .ref my0, .ref c0, .ref ga, .ref pa0, .ref t0, .ref sl0, .ref hd0])), (sl0, .inl (G.2 5, 3, .inr (.inr (.inr (.inr (va_up (va_up (va_up (fun _ => none) 0 (some y00)) 1 (some y10)) 2 (some y20))))))), (y00, .inr (6, [.ref y01, .ref y02, .ref y03, .ref y04, .int yi01, .int yi02, .int yi03])), (y01, .inl (G.2 0, 7, .inl yf01)), (y02, .inl (G.2 0, 6, .inl yf02)), (y03, .inl (G.2 0, 7, .inl yf03)), (y04, .inl (G.2 0, 42, .inl yf04)), (y10, .inr (6, [.ref y11, .ref y12, .ref y13, .ref y14, .int yi11, .int yi12, .int yi13])), (y11, .inl (G.2 0, 7, .inl yf11)), (y12, .inl (G.2 0, 6, .inl yf12)), (y13, .inl (G.2 0, 7, .inl yf13)), (y14, .inl (G.2 0, 42, .inl yf14)), (hd0, .inl (G.2 2, 3, .inl hf)), (y20, .inr (6, [.ref y21, .ref y22, .ref y23, .ref y24, .int o1, .int o2, .int o3])), (y21, .inl (G.2 0, 7, .inl hh1_14)), (y22, .inl (G.2 0, 6, .inl hh2_15)), (y23, .inl (G.2 0, 7, .inl hh3_16)), (y24, .inl (G.2 0, 42, .inl hh4_17)), (k0, .inr (6, [.ref b1, .ref b2, .ref b3, .ref b4, .int o1, .int o2, .int o3])), (b1, .inl (G.2 0, 7, .inl e1)), (b2, .inl (G.2 0, 6, .inl e2)), (b3, .inl (G.2 0, 7, .inl e3)), (b4, .inl (G.2 0, 42, .inl e4))] H _ := hw
      refine W.eq (g2 := F0 m 22 ls []) rfl ?_
      refine lv_aload_n hx hb dX9_hold_22 rfl (lv_at hl 0 rfl) ?_
      refine zz_get (v := .ref hd0) S hw fgX9_79 0 rfl rfl dX9_hold_23 ?_
      refine lv_iload_n hx hb dX9_hold_26 rfl (lv_at hl 1 rfl) ?_
      refine lv_iconst (v := 1) hx hb dX9_hold_27 (by decide) ?_
      obtain ⟨vF18, evF18⟩ : ∃ z : Nat → Int32, upd hf (2 : Int32).toNatClampNeg (vp_nar .boolean 1) = z := ⟨_, rfl⟩
      refine zz_zast (ws' := [(ob0, .inr (9, [.ref ut, .int uf1, .ref h1, .int uf3, .ref sc, .ref dr0, .ref k0, .ref my0, .ref c0, .ref ga, .ref pa0, .ref t0, .ref sl0, .ref hd0])), (sl0, .inl (G.2 5, 3, .inr (.inr (.inr (.inr (va_up (va_up (va_up (fun _ => none) 0 (some y00)) 1 (some y10)) 2 (some y20))))))), (y00, .inr (6, [.ref y01, .ref y02, .ref y03, .ref y04, .int yi01, .int yi02, .int yi03])), (y01, .inl (G.2 0, 7, .inl yf01)), (y02, .inl (G.2 0, 6, .inl yf02)), (y03, .inl (G.2 0, 7, .inl yf03)), (y04, .inl (G.2 0, 42, .inl yf04)), (y10, .inr (6, [.ref y11, .ref y12, .ref y13, .ref y14, .int yi11, .int yi12, .int yi13])), (y11, .inl (G.2 0, 7, .inl yf11)), (y12, .inl (G.2 0, 6, .inl yf12)), (y13, .inl (G.2 0, 7, .inl yf13)), (y14, .inl (G.2 0, 42, .inl yf14)), (hd0, .inl (G.2 2, 3, .inl vF18)), (y20, .inr (6, [.ref y21, .ref y22, .ref y23, .ref y24, .int o1, .int o2, .int o3])), (y21, .inl (G.2 0, 7, .inl hh1_14)), (y22, .inl (G.2 0, 6, .inl hh2_15)), (y23, .inl (G.2 0, 7, .inl hh3_16)), (y24, .inl (G.2 0, 42, .inl hh4_17)), (k0, .inr (6, [.ref b1, .ref b2, .ref b3, .ref b4, .int o1, .int o2, .int o3])), (b1, .inl (G.2 0, 7, .inl e1)), (b2, .inl (G.2 0, 6, .inl e2)), (b3, .inl (G.2 0, 7, .inl e3)), (b4, .inl (G.2 0, 42, .inl e4))]) (g := vF18) S hw 12 rfl (vp_in_nI (n := 2) (by decide) (by decide)) (evF18) rfl dX9_hold_28 ?_
      clear hw
      intro H locs hw
      refine lv_iconst (v := 1) hx hb dX9_hold_29 (by decide) ?_
      exact hret _ _ _ _ _ _ ⟨1, yf01, yf02, yf03, yf04, yf11, yf12, yf13, yf14, hh1_14, hh2_15, hh3_16, hh4_17, yi01, yi02, yi03, yi11, yi12, yi13, o1, o2, o3, vF18, rfl, rfl, (by first | exact zz_inn0 (by assumption) (by assumption) | exact zz_inn1 (by assumption) (by assumption)), (by first | exact zz_hl0 (by assumption) (by assumption) | exact zz_hl_0 (by assumption) | exact zz_hl_1 (by assumption) | exact zz_hl_2 (by assumption) | exact zz_hl_k (by omega) (by assumption)), (by first | exact zy_hs1 rfl hq19_0 | exact zy_hs0 (zy_Inn (by omega) (by omega) (by omega)) | exact zy_hs0 (fun z => (zz_innI (n := 2) (by omega) (show _ = zz_inn _ 0 2 by assumption) (by assumption)) ⟨_, by decide, z⟩)), (by first | exact zy_hs1 rfl hq19_0 | exact zy_hs0 (zy_Inn (by omega) (by omega) (by omega)) | exact zy_hs0 (fun z => (zz_innI (n := 2) (by omega) (show _ = zz_inn _ 0 2 by assumption) (by assumption)) ⟨_, by decide, z⟩)), (by first | exact zy_hs1 rfl hq19_0 | exact zy_hs0 (zy_Inn (by omega) (by omega) (by omega)) | exact zy_hs0 (fun z => (zz_innI (n := 2) (by omega) (show _ = zz_inn _ 0 2 by assumption) (by assumption)) ⟨_, by decide, z⟩))⟩ (hw.sub [0, 18, 19, 20, 21, 22, 1, 2, 3, 4, 5, 6, 7, 8, 9, 10, 11, 13, 14, 15, 16, 17, 12] (by decide +kernel) rfl) rfl dX9_hold_30
  · skip
    refine lv_iconst (v := 0) hx hb dX9_hold_7 (by decide) ?_
    exact hret _ _ _ _ _ _ ⟨0, yf01, yf02, yf03, yf04, yf11, yf12, yf13, yf14, yf21, yf22, yf23, yf24, yi01, yi02, yi03, yi11, yi12, yi13, yi21, yi22, yi23, hf, rfl, rfl, (by first | exact zz_inn0 (by assumption) (by assumption) | exact zz_inn1 (by assumption) (by assumption)), (by first | exact zz_hl0 (by assumption) (by assumption) | exact zz_hl_0 (by assumption) | exact zz_hl_1 (by assumption) | exact zz_hl_2 (by assumption) | exact zz_hl_k (by omega) (by assumption)), (by first | exact zy_hs1 rfl hq19_0 | exact zy_hs0 (zy_Inn (by omega) (by omega) (by omega)) | exact zy_hs0 (fun z => (zz_innI (n := 2) (by omega) (show _ = zz_inn _ 0 2 by assumption) (by assumption)) ⟨_, by decide, z⟩)), (by first | exact zy_hs1 rfl hq19_0 | exact zy_hs0 (zy_Inn (by omega) (by omega) (by omega)) | exact zy_hs0 (fun z => (zz_innI (n := 2) (by omega) (show _ = zz_inn _ 0 2 by assumption) (by assumption)) ⟨_, by decide, z⟩)), (by first | exact zy_hs1 rfl hq19_0 | exact zy_hs0 (zy_Inn (by omega) (by omega) (by omega)) | exact zy_hs0 (fun z => (zz_innI (n := 2) (by omega) (show _ = zz_inn _ 0 2 by assumption) (by assumption)) ⟨_, by decide, z⟩))⟩ hw rfl dX9_hold_8
theorem kd_ncX9_restore : kd_ck 1435259519205498906632239400048411469935479758402018635960734024831846702806238926118080097663003 40 cX9_restore.data.toList 0 = true := by decide +kernel
theorem dX9_restore_0 : decode cX9_restore 0 = .ok (.iload_n 1, 1) := kd_dk0 kd_o27 kd_ncX9_restore rfl
theorem dX9_restore_1 : decode cX9_restore 1 = .ok (.invokestatic 297, 3) := kd_dk2 kd_o184 kd_ncX9_restore rfl
theorem dX9_restore_4 : decode cX9_restore 4 = .ok (.ifCond .eq 12, 3) := kd_dj2 kd_o153 (w := 12) kd_ncX9_restore rfl rfl
theorem dX9_restore_7 : decode cX9_restore 7 = .ok (.aload_n 0, 1) := kd_dk0 kd_o42 kd_ncX9_restore rfl
theorem dX9_restore_8 : decode cX9_restore 8 = .ok (.getfield 79, 3) := kd_dk2 kd_o180 kd_ncX9_restore rfl
theorem dX9_restore_11 : decode cX9_restore 11 = .ok (.iload_n 1, 1) := kd_dk0 kd_o27 kd_ncX9_restore rfl
theorem dX9_restore_12 : decode cX9_restore 12 = .ok (.baload, 1) := kd_dk0 kd_o51 kd_ncX9_restore rfl
theorem dX9_restore_13 : decode cX9_restore 13 = .ok (.ifCond .ne 5, 3) := kd_dj2 kd_o154 (w := 5) kd_ncX9_restore rfl rfl
theorem dX9_restore_16 : decode cX9_restore 16 = .ok (.iconst 0, 1) := kd_dk0 kd_o3 kd_ncX9_restore rfl
theorem dX9_restore_17 : decode cX9_restore 17 = .ok (.ireturn, 1) := kd_dk0 kd_o172 kd_ncX9_restore rfl
theorem dX9_restore_18 : decode cX9_restore 18 = .ok (.aload_n 0, 1) := kd_dk0 kd_o42 kd_ncX9_restore rfl
theorem dX9_restore_19 : decode cX9_restore 19 = .ok (.getfield 40, 3) := kd_dk2 kd_o180 kd_ncX9_restore rfl
theorem dX9_restore_22 : decode cX9_restore 22 = .ok (.aload_n 0, 1) := kd_dk0 kd_o42 kd_ncX9_restore rfl
theorem dX9_restore_23 : decode cX9_restore 23 = .ok (.getfield 75, 3) := kd_dk2 kd_o180 kd_ncX9_restore rfl
theorem dX9_restore_26 : decode cX9_restore 26 = .ok (.iload_n 1, 1) := kd_dk0 kd_o27 kd_ncX9_restore rfl
theorem dX9_restore_27 : decode cX9_restore 27 = .ok (.aaload, 1) := kd_dk0 kd_o50 kd_ncX9_restore rfl
theorem dX9_restore_28 : decode cX9_restore 28 = .ok (.invokevirtual 244, 3) := kd_dk2 kd_o182 kd_ncX9_restore rfl
theorem dX9_restore_31 : decode cX9_restore 31 = .ok (.aload_n 0, 1) := kd_dk0 kd_o42 kd_ncX9_restore rfl
theorem dX9_restore_32 : decode cX9_restore 32 = .ok (.getfield 64, 3) := kd_dk2 kd_o180 kd_ncX9_restore rfl
theorem dX9_restore_35 : decode cX9_restore 35 = .ok (.invokevirtual 101, 3) := kd_dk2 kd_o182 kd_ncX9_restore rfl
theorem dX9_restore_38 : decode cX9_restore 38 = .ok (.iconst 1, 1) := kd_dk0 kd_o4 kd_ncX9_restore rfl
theorem dX9_restore_39 : decode cX9_restore 39 = .ok (.ireturn, 1) := kd_dk0 kd_o172 kd_ncX9_restore rfl
set_option maxHeartbeats 8000000 in
set_option maxRecDepth 100000 in
theorem c_g_restore (l : Launch) (G : zz_G) (ob0 : Nat) (ut : Nat) (uf1 : Int32) (h1 : Nat) (uf3 : Int32) (sc : Nat) (dr0 : Nat) (k0 : Nat) (my0 : Nat) (c0 : Nat) (ga : Nat) (pa0 : Nat) (t0 : Nat) (sl0 : Nat) (hd0 : Nat) (b1 : Nat) (b2 : Nat) (b3 : Nat) (b4 : Nat) (e1 : Nat → Int32) (e2 : Nat → Int32) (e3 : Nat → Int32) (e4 : Nat → Int32) (o1 : Int32) (o2 : Int32) (o3 : Int32) (y00 : Nat) (y01 : Nat) (y02 : Nat) (y03 : Nat) (y04 : Nat) (y10 : Nat) (y11 : Nat) (y12 : Nat) (y13 : Nat) (y14 : Nat) (y20 : Nat) (y21 : Nat) (y22 : Nat) (y23 : Nat) (y24 : Nat) (yf01 : Nat → Int32) (yf02 : Nat → Int32) (yf03 : Nat → Int32) (yf04 : Nat → Int32) (yf11 : Nat → Int32) (yf12 : Nat → Int32) (yf13 : Nat → Int32) (yf14 : Nat → Int32) (yf21 : Nat → Int32) (yf22 : Nat → Int32) (yf23 : Nat → Int32) (yf24 : Nat → Int32) (yi01 : Int32) (yi02 : Int32) (yi03 : Int32) (yi11 : Int32) (yi12 : Int32) (yi13 : Int32) (yi21 : Int32) (yi22 : Int32) (yi23 : Int32) (hf : Nat → Int32) (pl0 : Nat) (pn : Nat) (pm : Nat) (ar1 : Int32) (hpn : pn < 40) (hpm : pm ≤ 40) : zz_M l G mX9_restore 2 0 0 [.ref ob0, .int ar1] [(ob0, .inr (9, [.ref ut, .int uf1, .ref h1, .int uf3, .ref sc, .ref dr0, .ref k0, .ref my0, .ref c0, .ref ga, .ref pa0, .ref t0, .ref sl0, .ref hd0])), (k0, .inr (6, [.ref b1, .ref b2, .ref b3, .ref b4, .int o1, .int o2, .int o3])), (b1, .inl (G.2 0, 7, .inl e1)), (b2, .inl (G.2 0, 6, .inl e2)), (b3, .inl (G.2 0, 7, .inl e3)), (b4, .inl (G.2 0, 42, .inl e4)), (sl0, .inl (G.2 5, 3, .inr (.inr (.inr (.inr (va_up (va_up (va_up (fun _ => none) 0 (some y00)) 1 (some y10)) 2 (some y20))))))), (y00, .inr (6, [.ref y01, .ref y02, .ref y03, .ref y04, .int yi01, .int yi02, .int yi03])), (y01, .inl (G.2 0, 7, .inl yf01)), (y02, .inl (G.2 0, 6, .inl yf02)), (y03, .inl (G.2 0, 7, .inl yf03)), (y04, .inl (G.2 0, 42, .inl yf04)), (y10, .inr (6, [.ref y11, .ref y12, .ref y13, .ref y14, .int yi11, .int yi12, .int yi13])), (y11, .inl (G.2 0, 7, .inl yf11)), (y12, .inl (G.2 0, 6, .inl yf12)), (y13, .inl (G.2 0, 7, .inl yf13)), (y14, .inl (G.2 0, 42, .inl yf14)), (y20, .inr (6, [.ref y21, .ref y22, .ref y23, .ref y24, .int yi21, .int yi22, .int yi23])), (y21, .inl (G.2 0, 7, .inl yf21)), (y22, .inl (G.2 0, 6, .inl yf22)), (y23, .inl (G.2 0, 7, .inl yf23)), (y24, .inl (G.2 0, 42, .inl yf24)), (hd0, .inl (G.2 2, 3, .inl hf)), (pa0, .inr (3, [.ref pl0, .int (nI pn), .int (nI pm)]))] (fun rr u => ∃ (rv : Int32), ∃ (ee1 : Nat → Int32), ∃ (ee2 : Nat → Int32), ∃ (ee3 : Nat → Int32), ∃ (ee4 : Nat → Int32), ∃ (oo1 : Int32), ∃ (oo2 : Int32), ∃ (oo3 : Int32), ∃ (pn2 : Nat), ∃ (pm2 : Nat), rr = some (.int rv) ∧ u = [(ob0, .inr (9, [.ref ut, .int uf1, .ref h1, .int uf3, .ref sc, .ref dr0, .ref k0, .ref my0, .ref c0, .ref ga, .ref pa0, .ref t0, .ref sl0, .ref hd0])), (k0, .inr (6, [.ref b1, .ref b2, .ref b3, .ref b4, .int oo1, .int oo2, .int oo3])), (b1, .inl (G.2 0, 7, .inl ee1)), (b2, .inl (G.2 0, 6, .inl ee2)), (b3, .inl (G.2 0, 7, .inl ee3)), (b4, .inl (G.2 0, 42, .inl ee4)), (sl0, .inl (G.2 5, 3, .inr (.inr (.inr (.inr (va_up (va_up (va_up (fun _ => none) 0 (some y00)) 1 (some y10)) 2 (some y20))))))), (y00, .inr (6, [.ref y01, .ref y02, .ref y03, .ref y04, .int yi01, .int yi02, .int yi03])), (y01, .inl (G.2 0, 7, .inl yf01)), (y02, .inl (G.2 0, 6, .inl yf02)), (y03, .inl (G.2 0, 7, .inl yf03)), (y04, .inl (G.2 0, 42, .inl yf04)), (y10, .inr (6, [.ref y11, .ref y12, .ref y13, .ref y14, .int yi11, .int yi12, .int yi13])), (y11, .inl (G.2 0, 7, .inl yf11)), (y12, .inl (G.2 0, 6, .inl yf12)), (y13, .inl (G.2 0, 7, .inl yf13)), (y14, .inl (G.2 0, 42, .inl yf14)), (y20, .inr (6, [.ref y21, .ref y22, .ref y23, .ref y24, .int yi21, .int yi22, .int yi23])), (y21, .inl (G.2 0, 7, .inl yf21)), (y22, .inl (G.2 0, 6, .inl yf22)), (y23, .inl (G.2 0, 7, .inl yf23)), (y24, .inl (G.2 0, 42, .inl yf24)), (hd0, .inl (G.2 2, 3, .inl hf)), (pa0, .inr (3, [.ref pl0, .int (nI pn2), .int (nI pm2)]))] ∧ (rv = 0 ∨ rv = 1) ∧ (zz_rse ar1 hf rv) ∧ ((rv = 1 ∧ ar1 = nI 0) → (zy_cf yf01 yf02 yf03 yf04 ee1 ee2 ee3 ee4 ∧ oo1 = yi01 ∧ oo2 = yi02 ∧ oo3 = yi03)) ∧ ((rv = 1 ∧ ar1 = nI 1) → (zy_cf yf11 yf12 yf13 yf14 ee1 ee2 ee3 ee4 ∧ oo1 = yi11 ∧ oo2 = yi12 ∧ oo3 = yi13)) ∧ ((rv = 1 ∧ ar1 = nI 2) → (zy_cf yf21 yf22 yf23 yf24 ee1 ee2 ee3 ee4 ∧ oo1 = yi21 ∧ oo2 = yi22 ∧ oo3 = yi23)) ∧ (rv = 0 → (ee1 = e1 ∧ ee2 = e2 ∧ ee3 = e3 ∧ ee4 = e4 ∧ oo1 = o1 ∧ oo2 = o2 ∧ oo3 = o3 ∧ pm2 = pm)) ∧ ((rv = 1 → pm2 = 0) ∧ pn2 = pn) ∧ (pn2 < 40) ∧ (pm2 ≤ 40)) := by
  refine zz_enteri (by decide +kernel) (Nat.le_of_ble_eq_true rfl) ?_
  intro p e s m args below meth c A Q ls S hnm hret hw hl
  have hl : lv_has ls 2 [(0, .ref ob0), (1, .int ar1)] := hl
  have hx := S.1
  have hb := S.2.1
  refine lv_iload_n hx hb dX9_restore_0 rfl (lv_at hl 1 rfl) ?_
  refine zz_callS (As := [.int ar1]) (rest := []) (wr := [(ob0, .inr (9, [.ref ut, .int uf1, .ref h1, .int uf3, .ref sc, .ref dr0, .ref k0, .ref my0, .ref c0, .ref ga, .ref pa0, .ref t0, .ref sl0, .ref hd0])), (k0, .inr (6, [.ref b1, .ref b2, .ref b3, .ref b4, .int o1, .int o2, .int o3])), (b1, .inl (G.2 0, 7, .inl e1)), (b2, .inl (G.2 0, 6, .inl e2)), (b3, .inl (G.2 0, 7, .inl e3)), (b4, .inl (G.2 0, 42, .inl e4)), (sl0, .inl (G.2 5, 3, .inr (.inr (.inr (.inr (va_up (va_up (va_up (fun _ => none) 0 (some y00)) 1 (some y10)) 2 (some y20))))))), (y00, .inr (6, [.ref y01, .ref y02, .ref y03, .ref y04, .int yi01, .int yi02, .int yi03])), (y01, .inl (G.2 0, 7, .inl yf01)), (y02, .inl (G.2 0, 6, .inl yf02)), (y03, .inl (G.2 0, 7, .inl yf03)), (y04, .inl (G.2 0, 42, .inl yf04)), (y10, .inr (6, [.ref y11, .ref y12, .ref y13, .ref y14, .int yi11, .int yi12, .int yi13])), (y11, .inl (G.2 0, 7, .inl yf11)), (y12, .inl (G.2 0, 6, .inl yf12)), (y13, .inl (G.2 0, 7, .inl yf13)), (y14, .inl (G.2 0, 42, .inl yf14)), (y20, .inr (6, [.ref y21, .ref y22, .ref y23, .ref y24, .int yi21, .int yi22, .int yi23])), (y21, .inl (G.2 0, 7, .inl yf21)), (y22, .inl (G.2 0, 6, .inl yf22)), (y23, .inl (G.2 0, 7, .inl yf23)), (y24, .inl (G.2 0, 42, .inl yf24)), (hd0, .inl (G.2 2, 3, .inl hf)), (pa0, .inr (3, [.ref pl0, .int (nI pn), .int (nI pm)]))]) S hw hl.1 lX9_297 (c_g_isSlot l G ar1) ⟨Nat.le_of_ble_eq_true rfl, Nat.le_of_ble_eq_true rfl⟩ ⟨Nat.le_of_ble_eq_true rfl, Nat.le_of_ble_eq_true rfl⟩ [] [0, 1, 2, 3, 4, 5, 6, 7, 8, 9, 10, 11, 12, 13, 14, 15, 16, 17, 18, 19, 20, 21, 22, 23] (by decide +kernel) rfl rfl (by decide +kernel) (by decide +kernel) rfl rfl (Nat.le_of_ble_eq_true rfl) dX9_restore_1 ?_
  clear hw
  intro rr u H locs hp hw
  refine hp.elim fun rv_1 zg0 => zg0.elim fun zee1 zg1 => zg1.elim fun zee2 zg2 => zg2.elim fun hq1_0 hq1_1 => ?_
  clear hp zg0 zg1 zg2
  subst zee1
  subst zee2
  replace hw : zz_w G A s [(ob0, .inr (9, [.ref ut, .int uf1, .ref h1, .int uf3, .ref sc, .ref dr0, .ref k0, .ref my0, .ref c0, .ref ga, .ref pa0, .ref t0, .ref sl0, .ref hd0])), (k0, .inr (6, [.ref b1, .ref b2, .ref b3, .ref b4, .int o1, .int o2, .int o3])), (b1, .inl (G.2 0, 7, .inl e1)), (b2, .inl (G.2 0, 6, .inl e2)), (b3, .inl (G.2 0, 7, .inl e3)), (b4, .inl (G.2 0, 42, .inl e4)), (sl0, .inl (G.2 5, 3, .inr (.inr (.inr (.inr (va_up (va_up (va_up (fun _ => none) 0 (some y00)) 1 (some y10)) 2 (some y20))))))), (y00, .inr (6, [.ref y01, .ref y02, .ref y03, .ref y04, .int yi01, .int yi02, .int yi03])), (y01, .inl (G.2 0, 7, .inl yf01)), (y02, .inl (G.2 0, 6, .inl yf02)), (y03, .inl (G.2 0, 7, .inl yf03)), (y04, .inl (G.2 0, 42, .inl yf04)), (y10, .inr (6, [.ref y11, .ref y12, .ref y13, .ref y14, .int yi11, .int yi12, .int yi13])), (y11, .inl (G.2 0, 7, .inl yf11)), (y12, .inl (G.2 0, 6, .inl yf12)), (y13, .inl (G.2 0, 7, .inl yf13)), (y14, .inl (G.2 0, 42, .inl yf14)), (y20, .inr (6, [.ref y21, .ref y22, .ref y23, .ref y24, .int yi21, .int yi22, .int yi23])), (y21, .inl (G.2 0, 7, .inl yf21)), (y22, .inl (G.2 0, 6, .inl yf22)), (y23, .inl (G.2 0, 7, .inl yf23)), (y24, .inl (G.2 0, 42, .inl yf24)), (hd0, .inl (G.2 2, 3, .inl hf)), (pa0, .inr (3, [.ref pl0, .int (nI pn), .int (nI pm)]))] H _ := hw
  refine W.eq (g2 := F0 m 4 ls [.int rv_1]) rfl ?_
  refine lv_if_eq (tgt := 16) hx hb dX9_restore_4 (by decide) (fun c4_2 => ?_) (fun c4_2 => ?_)
  · skip
    refine lv_iconst (v := 0) hx hb dX9_restore_16 (by decide) ?_
    exact hret _ _ _ _ _ _ ⟨0, e1, e2, e3, e4, o1, o2, o3, pn, pm, rfl, rfl, (by first | assumption | exact Or.inl rfl | exact Or.inr rfl | omega), (by first | exact zz_rs0 (by assumption) (by assumption) | exact zz_rs1 (by assumption) (by omega) | exact zz_rs2 (by assumption) (by omega)), (by first | exact fun z => absurd z.1 (by decide) | exact fun _ => ⟨hq28_0, rfl, rfl, rfl⟩ | exact fun z => absurd z.2 (zy_Inn (by omega) (by omega) (by omega))), (by first | exact fun z => absurd z.1 (by decide) | exact fun _ => ⟨hq28_0, rfl, rfl, rfl⟩ | exact fun z => absurd z.2 (zy_Inn (by omega) (by omega) (by omega))), (by first | exact fun z => absurd z.1 (by decide) | exact fun _ => ⟨hq28_0, rfl, rfl, rfl⟩ | exact fun z => absurd z.2 (zy_Inn (by omega) (by omega) (by omega))), (by first | exact fun z => absurd z (by decide) | exact fun _ => ⟨rfl, rfl, rfl, rfl, rfl, rfl, rfl, rfl⟩), (by first | exact ⟨fun z => absurd z (by decide), rfl⟩ | exact ⟨fun _ => rfl, rfl⟩), (by first | assumption | exact Or.inl rfl | exact Or.inr rfl | omega), (by first | assumption | exact Or.inl rfl | exact Or.inr rfl | omega)⟩ hw rfl dX9_restore_17
  · skip
    obtain ⟨vq3, hvq3, rfl⟩ := hq1_0.resolve_left c4_2
    refine lv_aload_n hx hb dX9_restore_7 rfl (lv_at hl 0 rfl) ?_
    refine zz_get (v := .ref hd0) S hw fgX9_79 0 rfl rfl dX9_restore_8 ?_
    refine lv_iload_n hx hb dX9_restore_11 rfl (lv_at hl 1 rfl) ?_
    refine zz_zald (v := (hf vq3)) S hw 22 rfl (vp_in_nI (n := vq3) (by omega) (by decide)) (congrArg hf (nI_clamp (n := vq3) (by omega))) dX9_restore_12 ?_
    refine lv_if_ne (tgt := 18) hx hb dX9_restore_13 (by decide) (fun c13_4 => ?_) (fun c13_4 => ?_)
    · skip
      refine lv_aload_n hx hb dX9_restore_18 rfl (lv_at hl 0 rfl) ?_
      refine zz_get (v := .ref k0) S hw fgX9_40 0 rfl rfl dX9_restore_19 ?_
      refine lv_aload_n hx hb dX9_restore_22 rfl (lv_at hl 0 rfl) ?_
      refine zz_get (v := .ref sl0) S hw fgX9_75 0 rfl rfl dX9_restore_23 ?_
      refine lv_iload_n hx hb dX9_restore_26 rfl (lv_at hl 1 rfl) ?_
      rcases (show vq3 = 0 ∨ vq3 = 1 ∨ vq3 = 2 by omega) with rfl | rfl | rfl
      · skip
        refine zz_topi (y := 0) (by decide) ?_
        have hl : lv_has ls 2 [(0, .ref ob0), (1, .int 0)] := hl
        refine zz_aldS (v := y00) S hw 6 rfl (vp_in_nI (n := 0) (by decide) (by decide)) (by rw [show (0 : Int32).toNatClampNeg = 0 from nI_clamp (n := 0) (by decide)]; rfl) dX9_restore_27 ?_
        refine zz_callV (qb := 1) (As := [.ref y00]) (rest := []) (wr := [(ob0, .inr (9, [.ref ut, .int uf1, .ref h1, .int uf3, .ref sc, .ref dr0, .ref k0, .ref my0, .ref c0, .ref ga, .ref pa0, .ref t0, .ref sl0, .ref hd0])), (sl0, .inl (G.2 5, 3, .inr (.inr (.inr (.inr (va_up (va_up (va_up (fun _ => none) 0 (some y00)) 1 (some y10)) 2 (some y20))))))), (y10, .inr (6, [.ref y11, .ref y12, .ref y13, .ref y14, .int yi11, .int yi12, .int yi13])), (y11, .inl (G.2 0, 7, .inl yf11)), (y12, .inl (G.2 0, 6, .inl yf12)), (y13, .inl (G.2 0, 7, .inl yf13)), (y14, .inl (G.2 0, 42, .inl yf14)), (y20, .inr (6, [.ref y21, .ref y22, .ref y23, .ref y24, .int yi21, .int yi22, .int yi23])), (y21, .inl (G.2 0, 7, .inl yf21)), (y22, .inl (G.2 0, 6, .inl yf22)), (y23, .inl (G.2 0, 7, .inl yf23)), (y24, .inl (G.2 0, 42, .inl yf24)), (hd0, .inl (G.2 2, 3, .inl hf)), (pa0, .inr (3, [.ref pl0, .int (nI pn), .int (nI pm)]))]) S hw hl.1 lX9_244 (c_gcopyFrom l G k0 b1 b2 b3 b4 e1 e2 e3 e4 o1 o2 o3 y00 y01 y02 y03 y04 yf01 yf02 yf03 yf04 yi01 yi02 yi03) ⟨Nat.le_of_ble_eq_true rfl, Nat.le_of_ble_eq_true rfl⟩ ⟨Nat.le_of_ble_eq_true rfl, Nat.le_of_ble_eq_true rfl⟩ [1, 2, 3, 4, 5, 7, 8, 9, 10, 11] [0, 6, 12, 13, 14, 15, 16, 17, 18, 19, 20, 21, 22, 23] (by decide) rfl rfl (by decide) (by decide) rfl rfl rfl rfl (Nat.le_of_ble_eq_true rfl) dX9_restore_28 ?_
        clear hw
        intro rr u H locs hp hw
        refine hp.elim fun hh1_5 zg0 => zg0.elim fun hh2_6 zg1 => zg1.elim fun hh3_7 zg2 => zg2.elim fun hh4_8 zg3 => zg3.elim fun zee1 zg4 => zg4.elim fun zee2 hq28_0 => ?_
        clear hp zg0 zg1 zg2 zg3 zg4
        subst zee1
        subst zee2
        replace hw : zz_w G A s [(ob0, .inr (9, [.ref ut, .int uf1, .ref h1, .int uf3, .ref sc, .ref dr0, .ref k0, .ref my0, .ref c0, .ref ga, .ref pa0, .ref t0, .ref sl0, .ref hd0])), (sl0, .inl (G.2 5, 3, .inr (.inr (.inr (.inr (va_up (va_up (va_up (fun _ => none) 0 (some y00)) 1 (some y10)) 2 (some y20))))))), (y10, .inr (6, [.ref y11, .ref y12, .ref y13, .ref y14, .int yi11, .int yi12, .int yi13])), (y11, .inl (G.2 0, 7, .inl yf11)), (y12, .inl (G.2 0, 6, .inl yf12)), (y13, .inl (G.2 0, 7, .inl yf13)), (y14, .inl (G.2 0, 42, .inl yf14)), (y20, .inr (6, [.ref y21, .ref y22, .ref y23, .ref y24, .int yi21, .int yi22, .int yi23])), (y21, .inl (G.2 0, 7, .inl yf21)), (y22, .inl (G.2 0, 6, .inl yf22)), (y23, .inl (G.2 0, 7, .inl yf23)), (y24, .inl (G.2 0, 42, .inl yf24)), (hd0, .inl (G.2 2, 3, .inl hf)), (pa0, .inr (3, [.ref pl0, .int (nI pn), .int (nI pm)])), (k0, .inr (6, [.ref b1, .ref b2, .ref b3, .ref b4, .int yi01, .int yi02, .int yi03])), (b1, .inl (G.2 0, 7, .inl hh1_5)), (b2, .inl (G.2 0, 6, .inl hh2_6)), (b3, .inl (G.2 0, 7, .inl hh3_7)), (b4, .inl (G.2 0, 42, .inl hh4_8)), (y00, .inr (6, [.ref y01, .ref y02, .ref y03, .ref y04, .int yi01, .int yi02, .int yi03])), (y01, .inl (G.2 0, 7, .inl yf01)), (y02, .inl (G.2 0, 6, .inl yf02)), (y03, .inl (G.2 0, 7, .inl yf03)), (y04, .inl (G.2 0, 42, .inl yf04))] H _ := hw
        refine W.eq (g2 := F0 m 31 ls []) rfl ?_
        refine W.eq (g2 := F0 m 31 ls []) rfl ?_
        refine lv_aload_n hx hb dX9_restore_31 rfl (lv_at hl 0 rfl) ?_
        refine zz_get (v := .ref pa0) S hw fgX9_64 0 rfl rfl dX9_restore_32 ?_
        refine zz_callV (qb := 13) (As := []) (rest := []) (wr := [(ob0, .inr (9, [.ref ut, .int uf1, .ref h1, .int uf3, .ref sc, .ref dr0, .ref k0, .ref my0, .ref c0, .ref ga, .ref pa0, .ref t0, .ref sl0, .ref hd0])), (sl0, .inl (G.2 5, 3, .inr (.inr (.inr (.inr (va_up (va_up (va_up (fun _ => none) 0 (some y00)) 1 (some y10)) 2 (some y20))))))), (y10, .inr (6, [.ref y11, .ref y12, .ref y13, .ref y14, .int yi11, .int yi12, .int yi13])), (y11, .inl (G.2 0, 7, .inl yf11)), (y12, .inl (G.2 0, 6, .inl yf12)), (y13, .inl (G.2 0, 7, .inl yf13)), (y14, .inl (G.2 0, 42, .inl yf14)), (y20, .inr (6, [.ref y21, .ref y22, .ref y23, .ref y24, .int yi21, .int yi22, .int yi23])), (y21, .inl (G.2 0, 7, .inl yf21)), (y22, .inl (G.2 0, 6, .inl yf22)), (y23, .inl (G.2 0, 7, .inl yf23)), (y24, .inl (G.2 0, 42, .inl yf24)), (hd0, .inl (G.2 2, 3, .inl hf)), (k0, .inr (6, [.ref b1, .ref b2, .ref b3, .ref b4, .int yi01, .int yi02, .int yi03])), (b1, .inl (G.2 0, 7, .inl hh1_5)), (b2, .inl (G.2 0, 6, .inl hh2_6)), (b3, .inl (G.2 0, 7, .inl hh3_7)), (b4, .inl (G.2 0, 42, .inl hh4_8)), (y00, .inr (6, [.ref y01, .ref y02, .ref y03, .ref y04, .int yi01, .int yi02, .int yi03])), (y01, .inl (G.2 0, 7, .inl yf01)), (y02, .inl (G.2 0, 6, .inl yf02)), (y03, .inl (G.2 0, 7, .inl yf03)), (y04, .inl (G.2 0, 42, .inl yf04))]) S hw hl.1 lX9_101 (c_gPclear l G pa0 pl0 pn pm) ⟨Nat.le_of_ble_eq_true rfl, Nat.le_of_ble_eq_true rfl⟩ ⟨Nat.le_of_ble_eq_true rfl, Nat.le_of_ble_eq_true rfl⟩ [13] [0, 1, 2, 3, 4, 5, 6, 7, 8, 9, 10, 11, 12, 14, 15, 16, 17, 18, 19, 20, 21, 22, 23] (by decide +kernel) rfl rfl (by decide +kernel) (by decide +kernel) rfl rfl rfl rfl (Nat.le_of_ble_eq_true rfl) dX9_restore_35 ?_
        clear hw
        intro rr u H locs hp hw
        refine hp.elim fun zee1 zee2 => ?_
        clear hp
        subst zee1
        subst zee2
        replace hw : zz_w G A s [(ob0, .inr (9, [.ref ut, .int uf1, .ref h1, .int uf3, .ref sc, .ref dr0, .ref k0, .ref my0, .ref c0, .ref ga, .ref pa0, .ref t0, .ref sl0, .ref hd0])), (sl0, .inl (G.2 5, 3, .inr (.inr (.inr (.inr (va_up (va_up (va_up (fun _ => none) 0 (some y00)) 1 (some y10)) 2 (some y20))))))), (y10, .inr (6, [.ref y11, .ref y12, .ref y13, .ref y14, .int yi11, .int yi12, .int yi13])), (y11, .inl (G.2 0, 7, .inl yf11)), (y12, .inl (G.2 0, 6, .inl yf12)), (y13, .inl (G.2 0, 7, .inl yf13)), (y14, .inl (G.2 0, 42, .inl yf14)), (y20, .inr (6, [.ref y21, .ref y22, .ref y23, .ref y24, .int yi21, .int yi22, .int yi23])), (y21, .inl (G.2 0, 7, .inl yf21)), (y22, .inl (G.2 0, 6, .inl yf22)), (y23, .inl (G.2 0, 7, .inl yf23)), (y24, .inl (G.2 0, 42, .inl yf24)), (hd0, .inl (G.2 2, 3, .inl hf)), (k0, .inr (6, [.ref b1, .ref b2, .ref b3, .ref b4, .int yi01, .int yi02, .int yi03])), (b1, .inl (G.2 0, 7, .inl hh1_5)), (b2, .inl (G.2 0, 6, .inl hh2_6)), (b3, .inl (G.2 0, 7, .inl hh3_7)), (b4, .inl (G.2 0, 42, .inl hh4_8)), (y00, .inr (6, [.ref y01, .ref y02, .ref y03, .ref y04, .int yi01, .int yi02, .int yi03])), (y01, .inl (G.2 0, 7, .inl yf01)), (y02, .inl (G.2 0, 6, .inl yf02)), (y03, .inl (G.2 0, 7, .inl yf03)), (y04, .inl (G.2 0, 42, .inl yf04)), (pa0, .inr (3, [.ref pl0, .int (nI pn), .int 0]))] H _ := hw
        refine W.eq (g2 := F0 m 38 ls []) rfl ?_
        refine lv_iconst (v := 1) hx hb dX9_restore_38 (by decide) ?_
        exact hret _ _ _ _ _ _ ⟨1, hh1_5, hh2_6, hh3_7, hh4_8, yi01, yi02, yi03, pn, 0, rfl, rfl, (by first | assumption | exact Or.inl rfl | exact Or.inr rfl | omega), (by first | exact zz_rs0 (by assumption) (by assumption) | exact zz_rs1 (by assumption) (by omega) | exact zz_rs2 (by assumption) (by omega)), (by first | exact fun z => absurd z.1 (by decide) | exact fun _ => ⟨hq28_0, rfl, rfl, rfl⟩ | exact fun z => absurd z.2 (zy_Inn (by omega) (by omega) (by omega))), (by first | exact fun z => absurd z.1 (by decide) | exact fun _ => ⟨hq28_0, rfl, rfl, rfl⟩ | exact fun z => absurd z.2 (zy_Inn (by omega) (by omega) (by omega))), (by first | exact fun z => absurd z.1 (by decide) | exact fun _ => ⟨hq28_0, rfl, rfl, rfl⟩ | exact fun z => absurd z.2 (zy_Inn (by omega) (by omega) (by omega))), (by first | exact fun z => absurd z (by decide) | exact fun _ => ⟨rfl, rfl, rfl, rfl, rfl, rfl, rfl, rfl⟩), (by first | exact ⟨fun z => absurd z (by decide), rfl⟩ | exact ⟨fun _ => rfl, rfl⟩), (by first | assumption | exact Or.inl rfl | exact Or.inr rfl | omega), (by first | assumption | exact Or.inl rfl | exact Or.inr rfl | omega)⟩ (hw.sub [0, 13, 14, 15, 16, 17, 1, 18, 19, 20, 21, 22, 2, 3, 4, 5, 6, 7, 8, 9, 10, 11, 12, 23] (by decide +kernel) rfl) rfl dX9_restore_39
      · skip
        refine zz_topi (y := 1) (by decide) ?_
        have hl : lv_has ls 2 [(0, .ref ob0), (1, .int 1)] := hl
        refine zz_aldS (v := y10) S hw 6 rfl (vp_in_nI (n := 1) (by decide) (by decide)) (by rw [show (1 : Int32).toNatClampNeg = 1 from nI_clamp (n := 1) (by decide)]; rfl) dX9_restore_27 ?_
        refine zz_callV (qb := 1) (As := [.ref y10]) (rest := []) (wr := [(ob0, .inr (9, [.ref ut, .int uf1, .ref h1, .int uf3, .ref sc, .ref dr0, .ref k0, .ref my0, .ref c0, .ref ga, .ref pa0, .ref t0, .ref sl0, .ref hd0])), (sl0, .inl (G.2 5, 3, .inr (.inr (.inr (.inr (va_up (va_up (va_up (fun _ => none) 0 (some y00)) 1 (some y10)) 2 (some y20))))))), (y00, .inr (6, [.ref y01, .ref y02, .ref y03, .ref y04, .int yi01, .int yi02, .int yi03])), (y01, .inl (G.2 0, 7, .inl yf01)), (y02, .inl (G.2 0, 6, .inl yf02)), (y03, .inl (G.2 0, 7, .inl yf03)), (y04, .inl (G.2 0, 42, .inl yf04)), (y20, .inr (6, [.ref y21, .ref y22, .ref y23, .ref y24, .int yi21, .int yi22, .int yi23])), (y21, .inl (G.2 0, 7, .inl yf21)), (y22, .inl (G.2 0, 6, .inl yf22)), (y23, .inl (G.2 0, 7, .inl yf23)), (y24, .inl (G.2 0, 42, .inl yf24)), (hd0, .inl (G.2 2, 3, .inl hf)), (pa0, .inr (3, [.ref pl0, .int (nI pn), .int (nI pm)]))]) S hw hl.1 lX9_244 (c_gcopyFrom l G k0 b1 b2 b3 b4 e1 e2 e3 e4 o1 o2 o3 y10 y11 y12 y13 y14 yf11 yf12 yf13 yf14 yi11 yi12 yi13) ⟨Nat.le_of_ble_eq_true rfl, Nat.le_of_ble_eq_true rfl⟩ ⟨Nat.le_of_ble_eq_true rfl, Nat.le_of_ble_eq_true rfl⟩ [1, 2, 3, 4, 5, 12, 13, 14, 15, 16] [0, 6, 7, 8, 9, 10, 11, 17, 18, 19, 20, 21, 22, 23] (by decide) rfl rfl (by decide) (by decide) rfl rfl rfl rfl (Nat.le_of_ble_eq_true rfl) dX9_restore_28 ?_
        clear hw
        intro rr u H locs hp hw
        refine hp.elim fun hh1_9 zg0 => zg0.elim fun hh2_10 zg1 => zg1.elim fun hh3_11 zg2 => zg2.elim fun hh4_12 zg3 => zg3.elim fun zee1 zg4 => zg4.elim fun zee2 hq28_0 => ?_
        clear hp zg0 zg1 zg2 zg3 zg4
        subst zee1
        subst zee2
        replace hw : zz_w G A s [(ob0, .inr (9, [.ref ut, .int uf1, .ref h1, .int uf3, .ref sc, .ref dr0, .ref k0, .ref my0, .ref c0, .ref ga, .ref pa0, .ref t0, .ref sl0, .ref hd0])), (sl0, .inl (G.2 5, 3, .inr (.inr (.inr (.inr (va_up (va_up (va_up (fun _ => none) 0 (some y00)) 1 (some y10)) 2 (some y20))))))), (y00, .inr (6, [.ref y01, .ref y02, .ref y03, .ref y04, .int yi01, .int yi02, .int yi03])), (y01, .inl (G.2 0, 7, .inl yf01)), (y02, .inl (G.2 0, 6, .inl yf02)), (y03, .inl (G.2 0, 7, .inl yf03)), (y04, .inl (G.2 0, 42, .inl yf04)), (y20, .inr (6, [.ref y21, .ref y22, .ref y23, .ref y24, .int yi21, .int yi22, .int yi23])), (y21, .inl (G.2 0, 7, .inl yf21)), (y22, .inl (G.2 0, 6, .inl yf22)), (y23, .inl (G.2 0, 7, .inl yf23)), (y24, .inl (G.2 0, 42, .inl yf24)), (hd0, .inl (G.2 2, 3, .inl hf)), (pa0, .inr (3, [.ref pl0, .int (nI pn), .int (nI pm)])), (k0, .inr (6, [.ref b1, .ref b2, .ref b3, .ref b4, .int yi11, .int yi12, .int yi13])), (b1, .inl (G.2 0, 7, .inl hh1_9)), (b2, .inl (G.2 0, 6, .inl hh2_10)), (b3, .inl (G.2 0, 7, .inl hh3_11)), (b4, .inl (G.2 0, 42, .inl hh4_12)), (y10, .inr (6, [.ref y11, .ref y12, .ref y13, .ref y14, .int yi11, .int yi12, .int yi13])), (y11, .inl (G.2 0, 7, .inl yf11)), (y12, .inl (G.2 0, 6, .inl yf12)), (y13, .inl (G.2 0, 7, .inl yf13)), (y14, .inl (G.2 0, 42, .inl yf14))] H _ := hw
        refine W.eq (g2 := F0 m 31 ls []) rfl ?_
        refine lv_aload_n hx hb dX9_restore_31 rfl (lv_at hl 0 rfl) ?_
        refine zz_get (v := .ref pa0) S hw fgX9_64 0 rfl rfl dX9_restore_32 ?_
        refine zz_callV (qb := 13) (As := []) (rest := []) (wr := [(ob0, .inr (9, [.ref ut, .int uf1, .ref h1, .int uf3, .ref sc, .ref dr0, .ref k0, .ref my0, .ref c0, .ref ga, .ref pa0, .ref t0, .ref sl0, .ref hd0])), (sl0, .inl (G.2 5, 3, .inr (.inr (.inr (.inr (va_up (va_up (va_up (fun _ => none) 0 (some y00)) 1 (some y10)) 2 (some y20))))))), (y00, .inr (6, [.ref y01, .ref y02, .ref y03, .ref y04, .int yi01, .int yi02, .int yi03])), (y01, .inl (G.2 0, 7, .inl yf01)), (y02, .inl (G.2 0, 6, .inl yf02)), (y03, .inl (G.2 0, 7, .inl yf03)), (y04, .inl (G.2 0, 42, .inl yf04)), (y20, .inr (6, [.ref y21, .ref y22, .ref y23, .ref y24, .int yi21, .int yi22, .int yi23])), (y21, .inl (G.2 0, 7, .inl yf21)), (y22, .inl (G.2 0, 6, .inl yf22)), (y23, .inl (G.2 0, 7, .inl yf23)), (y24, .inl (G.2 0, 42, .inl yf24)), (hd0, .inl (G.2 2, 3, .inl hf)), (k0, .inr (6, [.ref b1, .ref b2, .ref b3, .ref b4, .int yi11, .int yi12, .int yi13])), (b1, .inl (G.2 0, 7, .inl hh1_9)), (b2, .inl (G.2 0, 6, .inl hh2_10)), (b3, .inl (G.2 0, 7, .inl hh3_11)), (b4, .inl (G.2 0, 42, .inl hh4_12)), (y10, .inr (6, [.ref y11, .ref y12, .ref y13, .ref y14, .int yi11, .int yi12, .int yi13])), (y11, .inl (G.2 0, 7, .inl yf11)), (y12, .inl (G.2 0, 6, .inl yf12)), (y13, .inl (G.2 0, 7, .inl yf13)), (y14, .inl (G.2 0, 42, .inl yf14))]) S hw hl.1 lX9_101 (c_gPclear l G pa0 pl0 pn pm) ⟨Nat.le_of_ble_eq_true rfl, Nat.le_of_ble_eq_true rfl⟩ ⟨Nat.le_of_ble_eq_true rfl, Nat.le_of_ble_eq_true rfl⟩ [13] [0, 1, 2, 3, 4, 5, 6, 7, 8, 9, 10, 11, 12, 14, 15, 16, 17, 18, 19, 20, 21, 22, 23] (by decide +kernel) rfl rfl (by decide +kernel) (by decide +kernel) rfl rfl rfl rfl (Nat.le_of_ble_eq_true rfl) dX9_restore_35 ?_
        clear hw
        intro rr u H locs hp hw
        refine hp.elim fun zee1 zee2 => ?_
        clear hp
        subst zee1
        subst zee2
        replace hw : zz_w G A s [(ob0, .inr (9, [.ref ut, .int uf1, .ref h1, .int uf3, .ref sc, .ref dr0, .ref k0, .ref my0, .ref c0, .ref ga, .ref pa0, .ref t0, .ref sl0, .ref hd0])), (sl0, .inl (G.2 5, 3, .inr (.inr (.inr (.inr (va_up (va_up (va_up (fun _ => none) 0 (some y00)) 1 (some y10)) 2 (some y20))))))), (y00, .inr (6, [.ref y01, .ref y02, .ref y03, .ref y04, .int yi01, .int yi02, .int yi03])), (y01, .inl (G.2 0, 7, .inl yf01)), (y02, .inl (G.2 0, 6, .inl yf02)), (y03, .inl (G.2 0, 7, .inl yf03)), (y04, .inl (G.2 0, 42, .inl yf04)), (y20, .inr (6, [.ref y21, .ref y22, .ref y23, .ref y24, .int yi21, .int yi22, .int yi23])), (y21, .inl (G.2 0, 7, .inl yf21)), (y22, .inl (G.2 0, 6, .inl yf22)), (y23, .inl (G.2 0, 7, .inl yf23)), (y24, .inl (G.2 0, 42, .inl yf24)), (hd0, .inl (G.2 2, 3, .inl hf)), (k0, .inr (6, [.ref b1, .ref b2, .ref b3, .ref b4, .int yi11, .int yi12, .int yi13])), (b1, .inl (G.2 0, 7, .inl hh1_9)), (b2, .inl (G.2 0, 6, .inl hh2_10)), (b3, .inl (G.2 0, 7, .inl hh3_11)), (b4, .inl (G.2 0, 42, .inl hh4_12)), (y10, .inr (6, [.ref y11, .ref y12, .ref y13, .ref y14, .int yi11, .int yi12, .int yi13])), (y11, .inl (G.2 0, 7, .inl yf11)), (y12, .inl (G.2 0, 6, .inl yf12)), (y13, .inl (G.2 0, 7, .inl yf13)), (y14, .inl (G.2 0, 42, .inl yf14)), (pa0, .inr (3, [.ref pl0, .int (nI pn), .int 0]))] H _ := hw
        refine W.eq (g2 := F0 m 38 ls []) rfl ?_
        refine lv_iconst (v := 1) hx hb dX9_restore_38 (by decide) ?_
        exact hret _ _ _ _ _ _ ⟨1, hh1_9, hh2_10, hh3_11, hh4_12, yi11, yi12, yi13, pn, 0, rfl, rfl, (by first | assumption | exact Or.inl rfl | exact Or.inr rfl | omega), (by first | exact zz_rs0 (by assumption) (by assumption) | exact zz_rs1 (by assumption) (by omega) | exact zz_rs2 (by assumption) (by omega)), (by first | exact fun z => absurd z.1 (by decide) | exact fun _ => ⟨hq28_0, rfl, rfl, rfl⟩ | exact fun z => absurd z.2 (zy_Inn (by omega) (by omega) (by omega))), (by first | exact fun z => absurd z.1 (by decide) | exact fun _ => ⟨hq28_0, rfl, rfl, rfl⟩ | exact fun z => absurd z.2 (zy_Inn (by omega) (by omega) (by omega))), (by first | exact fun z => absurd z.1 (by decide) | exact fun _ => ⟨hq28_0, rfl, rfl, rfl⟩ | exact fun z => absurd z.2 (zy_Inn (by omega) (by omega) (by omega))), (by first | exact fun z => absurd z (by decide) | exact fun _ => ⟨rfl, rfl, rfl, rfl, rfl, rfl, rfl, rfl⟩), (by first | exact ⟨fun z => absurd z (by decide), rfl⟩ | exact ⟨fun _ => rfl, rfl⟩), (by first | assumption | exact Or.inl rfl | exact Or.inr rfl | omega), (by first | assumption | exact Or.inl rfl | exact Or.inr rfl | omega)⟩ (hw.sub [0, 13, 14, 15, 16, 17, 1, 2, 3, 4, 5, 6, 18, 19, 20, 21, 22, 7, 8, 9, 10, 11, 12, 23] (by decide +kernel) rfl) rfl dX9_restore_39
      · skip
        refine zz_topi (y := 2) (by decide) ?_
        have hl : lv_has ls 2 [(0, .ref ob0), (1, .int 2)] := hl
        refine zz_aldS (v := y20) S hw 6 rfl (vp_in_nI (n := 2) (by decide) (by decide)) (by rw [show (2 : Int32).toNatClampNeg = 2 from nI_clamp (n := 2) (by decide)]; rfl) dX9_restore_27 ?_
        refine zz_callV (qb := 1) (As := [.ref y20]) (rest := []) (wr := [(ob0, .inr (9, [.ref ut, .int uf1, .ref h1, .int uf3, .ref sc, .ref dr0, .ref k0, .ref my0, .ref c0, .ref ga, .ref pa0, .ref t0, .ref sl0, .ref hd0])), (sl0, .inl (G.2 5, 3, .inr (.inr (.inr (.inr (va_up (va_up (va_up (fun _ => none) 0 (some y00)) 1 (some y10)) 2 (some y20))))))), (y00, .inr (6, [.ref y01, .ref y02, .ref y03, .ref y04, .int yi01, .int yi02, .int yi03])), (y01, .inl (G.2 0, 7, .inl yf01)), (y02, .inl (G.2 0, 6, .inl yf02)), (y03, .inl (G.2 0, 7, .inl yf03)), (y04, .inl (G.2 0, 42, .inl yf04)), (y10, .inr (6, [.ref y11, .ref y12, .ref y13, .ref y14, .int yi11, .int yi12, .int yi13])), (y11, .inl (G.2 0, 7, .inl yf11)), (y12, .inl (G.2 0, 6, .inl yf12)), (y13, .inl (G.2 0, 7, .inl yf13)), (y14, .inl (G.2 0, 42, .inl yf14)), (hd0, .inl (G.2 2, 3, .inl hf)), (pa0, .inr (3, [.ref pl0, .int (nI pn), .int (nI pm)]))]) S hw hl.1 lX9_244 (c_gcopyFrom l G k0 b1 b2 b3 b4 e1 e2 e3 e4 o1 o2 o3 y20 y21 y22 y23 y24 yf21 yf22 yf23 yf24 yi21 yi22 yi23) ⟨Nat.le_of_ble_eq_true rfl, Nat.le_of_ble_eq_true rfl⟩ ⟨Nat.le_of_ble_eq_true rfl, Nat.le_of_ble_eq_true rfl⟩ [1, 2, 3, 4, 5, 17, 18, 19, 20, 21] [0, 6, 7, 8, 9, 10, 11, 12, 13, 14, 15, 16, 22, 23] (by decide) rfl rfl (by decide) (by decide) rfl rfl rfl rfl (Nat.le_of_ble_eq_true rfl) dX9_restore_28 ?_
        clear hw
        intro rr u H locs hp hw
        refine hp.elim fun hh1_13 zg0 => zg0.elim fun hh2_14 zg1 => zg1.elim fun hh3_15 zg2 => zg2.elim fun hh4_16 zg3 => zg3.elim fun zee1 zg4 => zg4.elim fun zee2 hq28_0 => ?_
        clear hp zg0 zg1 zg2 zg3 zg4
        subst zee1
        subst zee2
        replace hw : zz_w G A s [(ob0, .inr (9, [.ref ut, .int uf1, .ref h1, .int uf3, .ref sc, .ref dr0, .ref k0, .ref my0, .ref c0, .ref ga, .ref pa0, .ref t0, .ref sl0, .ref hd0])), (sl0, .inl (G.2 5, 3, .inr (.inr (.inr (.inr (va_up (va_up (va_up (fun _ => none) 0 (some y00)) 1 (some y10)) 2 (some y20))))))), (y00, .inr (6, [.ref y01, .ref y02, .ref y03, .ref y04, .int yi01, .int yi02, .int yi03])), (y01, .inl (G.2 0, 7, .inl yf01)), (y02, .inl (G.2 0, 6, .inl yf02)), (y03, .inl (G.2 0, 7, .inl yf03)), (y04, .inl (G.2 0, 42, .inl yf04)), (y10, .inr (6, [.ref y11, .ref y12, .ref y13, .ref y14, .int yi11, .int yi12, .int yi13])), (y11, .inl (G.2 0, 7, .inl yf11)), (y12, .inl (G.2 0, 6, .inl yf12)), (y13, .inl (G.2 0, 7, .inl yf13)), (y14, .inl (G.2 0, 42, .inl yf14)), (hd0, .inl (G.2 2, 3, .inl hf)), (pa0, .inr (3, [.ref pl0, .int (nI pn), .int (nI pm)])), (k0, .inr (6, [.ref b1, .ref b2, .ref b3, .ref b4, .int yi21, .int yi22, .int yi23])), (b1, .inl (G.2 0, 7, .inl hh1_13)), (b2, .inl (G.2 0, 6, .inl hh2_14)), (b3, .inl (G.2 0, 7, .inl hh3_15)), (b4, .inl (G.2 0, 42, .inl hh4_16)), (y20, .inr (6, [.ref y21, .ref y22, .ref y23, .ref y24, .int yi21, .int yi22, .int yi23])), (y21, .inl (G.2 0, 7, .inl yf21)), (y22, .inl (G.2 0, 6, .inl yf22)), (y23, .inl (G.2 0, 7, .inl yf23)), (y24, .inl (G.2 0, 42, .inl yf24))] H _ := hw
        refine W.eq (g2 := F0 m 31 ls []) rfl ?_
        refine lv_aload_n hx hb dX9_restore_31 rfl (lv_at hl 0 rfl) ?_
        refine zz_get (v := .ref pa0) S hw fgX9_64 0 rfl rfl dX9_restore_32 ?_
        refine W.eq (g2 := F0 m 35 ls [.ref pa0]) rfl ?_
        refine zz_callV (qb := 13) (As := []) (rest := []) (wr := [(ob0, .inr (9, [.ref ut, .int uf1, .ref h1, .int uf3, .ref sc, .ref dr0, .ref k0, .ref my0, .ref c0, .ref ga, .ref pa0, .ref t0, .ref sl0, .ref hd0])), (sl0, .inl (G.2 5, 3, .inr (.inr (.inr (.inr (va_up (va_up (va_up (fun _ => none) 0 (some y00)) 1 (some y10)) 2 (some y20))))))), (y00, .inr (6, [.ref y01, .ref y02, .ref y03, .ref y04, .int yi01, .int yi02, .int yi03])), (y01, .inl (G.2 0, 7, .inl yf01)), (y02, .inl (G.2 0, 6, .inl yf02)), (y03, .inl (G.2 0, 7, .inl yf03)), (y04, .inl (G.2 0, 42, .inl yf04)), (y10, .inr (6, [.ref y11, .ref y12, .ref y13, .ref y14, .int yi11, .int yi12, .int yi13])), (y11, .inl (G.2 0, 7, .inl yf11)), (y12, .inl (G.2 0, 6, .inl yf12)), (y13, .inl (G.2 0, 7, .inl yf13)), (y14, .inl (G.2 0, 42, .inl yf14)), (hd0, .inl (G.2 2, 3, .inl hf)), (k0, .inr (6, [.ref b1, .ref b2, .ref b3, .ref b4, .int yi21, .int yi22, .int yi23])), (b1, .inl (G.2 0, 7, .inl hh1_13)), (b2, .inl (G.2 0, 6, .inl hh2_14)), (b3, .inl (G.2 0, 7, .inl hh3_15)), (b4, .inl (G.2 0, 42, .inl hh4_16)), (y20, .inr (6, [.ref y21, .ref y22, .ref y23, .ref y24, .int yi21, .int yi22, .int yi23])), (y21, .inl (G.2 0, 7, .inl yf21)), (y22, .inl (G.2 0, 6, .inl yf22)), (y23, .inl (G.2 0, 7, .inl yf23)), (y24, .inl (G.2 0, 42, .inl yf24))]) S hw hl.1 lX9_101 (c_gPclear l G pa0 pl0 pn pm) ⟨Nat.le_of_ble_eq_true rfl, Nat.le_of_ble_eq_true rfl⟩ ⟨Nat.le_of_ble_eq_true rfl, Nat.le_of_ble_eq_true rfl⟩ [13] [0, 1, 2, 3, 4, 5, 6, 7, 8, 9, 10, 11, 12, 14, 15, 16, 17, 18, 19, 20, 21, 22, 23] (by decide +kernel) rfl rfl (by decide +kernel) (by decide +kernel) rfl rfl rfl rfl (Nat.le_of_ble_eq_true rfl) dX9_restore_35 ?_
        clear hw
        intro rr u H locs hp hw
        refine hp.elim fun zee1 zee2 => ?_
        clear hp
        subst zee1
        subst zee2
        replace hw : zz_w G A s [(ob0, .inr (9, [.ref ut, .int uf1, .ref h1, .int uf3, .ref sc, .ref dr0, .ref k0, .ref my0, .ref c0, .ref ga, .ref pa0, .ref t0, .ref sl0, .ref hd0])), (sl0, .inl (G.2 5, 3, .inr (.inr (.inr (.inr (va_up (va_up (va_up (fun _ => none) 0 (some y00)) 1 (some y10)) 2 (some y20))))))), (y00, .inr (6, [.ref y01, .ref y02, .ref y03, .ref y04, .int yi01, .int yi02, .int yi03])), (y01, .inl (G.2 0, 7, .inl yf01)), (y02, .inl (G.2 0, 6, .inl yf02)), (y03, .inl (G.2 0, 7, .inl yf03)), (y04, .inl (G.2 0, 42, .inl yf04)), (y10, .inr (6, [.ref y11, .ref y12, .ref y13, .ref y14, .int yi11, .int yi12, .int yi13])), (y11, .inl (G.2 0, 7, .inl yf11)), (y12, .inl (G.2 0, 6, .inl yf12)), (y13, .inl (G.2 0, 7, .inl yf13)), (y14, .inl (G.2 0, 42, .inl yf14)), (hd0, .inl (G.2 2, 3, .inl hf)), (k0, .inr (6, [.ref b1, .ref b2, .ref b3, .ref b4, .int yi21, .int yi22, .int yi23])), (b1, .inl (G.2 0, 7, .inl hh1_13)), (b2, .inl (G.2 0, 6, .inl hh2_14)), (b3, .inl (G.2 0, 7, .inl hh3_15)), (b4, .inl (G.2 0, 42, .inl hh4_16)), (y20, .inr (6, [.ref y21, .ref y22, .ref y23, .ref y24, .int yi21, .int yi22, .int yi23])), (y21, .inl (G.2 0, 7, .inl yf21)), (y22, .inl (G.2 0, 6, .inl yf22)), (y23, .inl (G.2 0, 7, .inl yf23)), (y24, .inl (G.2 0, 42, .inl yf24)), (pa0, .inr (3, [.ref pl0, .int (nI pn), .int 0]))] H _ := hw
        refine W.eq (g2 := F0 m 38 ls []) rfl ?_
        refine lv_iconst (v := 1) hx hb dX9_restore_38 (by decide) ?_
        exact hret _ _ _ _ _ _ ⟨1, hh1_13, hh2_14, hh3_15, hh4_16, yi21, yi22, yi23, pn, 0, rfl, rfl, (by first | assumption | exact Or.inl rfl | exact Or.inr rfl | omega), (by first | exact zz_rs0 (by assumption) (by assumption) | exact zz_rs1 (by assumption) (by omega) | exact zz_rs2 (by assumption) (by omega)), (by first | exact fun z => absurd z.1 (by decide) | exact fun _ => ⟨hq28_0, rfl, rfl, rfl⟩ | exact fun z => absurd z.2 (zy_Inn (by omega) (by omega) (by omega))), (by first | exact fun z => absurd z.1 (by decide) | exact fun _ => ⟨hq28_0, rfl, rfl, rfl⟩ | exact fun z => absurd z.2 (zy_Inn (by omega) (by omega) (by omega))), (by first | exact fun z => absurd z.1 (by decide) | exact fun _ => ⟨hq28_0, rfl, rfl, rfl⟩ | exact fun z => absurd z.2 (zy_Inn (by omega) (by omega) (by omega))), (by first | exact fun z => absurd z (by decide) | exact fun _ => ⟨rfl, rfl, rfl, rfl, rfl, rfl, rfl, rfl⟩), (by first | exact ⟨fun z => absurd z (by decide), rfl⟩ | exact ⟨fun _ => rfl, rfl⟩), (by first | assumption | exact Or.inl rfl | exact Or.inr rfl | omega), (by first | assumption | exact Or.inl rfl | exact Or.inr rfl | omega)⟩ (hw.sub [0, 13, 14, 15, 16, 17, 1, 2, 3, 4, 5, 6, 7, 8, 9, 10, 11, 18, 19, 20, 21, 22, 12, 23] (by decide +kernel) rfl) rfl dX9_restore_39
    · skip
      refine lv_iconst (v := 0) hx hb dX9_restore_16 (by decide) ?_
      exact hret _ _ _ _ _ _ ⟨0, e1, e2, e3, e4, o1, o2, o3, pn, pm, rfl, rfl, (by first | assumption | exact Or.inl rfl | exact Or.inr rfl | omega), (by first | exact zz_rs0 (by assumption) (by assumption) | exact zz_rs1 (by assumption) (by omega) | exact zz_rs2 (by assumption) (by omega)), (by first | exact fun z => absurd z.1 (by decide) | exact fun _ => ⟨hq28_0, rfl, rfl, rfl⟩ | exact fun z => absurd z.2 (zy_Inn (by omega) (by omega) (by omega))), (by first | exact fun z => absurd z.1 (by decide) | exact fun _ => ⟨hq28_0, rfl, rfl, rfl⟩ | exact fun z => absurd z.2 (zy_Inn (by omega) (by omega) (by omega))), (by first | exact fun z => absurd z.1 (by decide) | exact fun _ => ⟨hq28_0, rfl, rfl, rfl⟩ | exact fun z => absurd z.2 (zy_Inn (by omega) (by omega) (by omega))), (by first | exact fun z => absurd z (by decide) | exact fun _ => ⟨rfl, rfl, rfl, rfl, rfl, rfl, rfl, rfl⟩), (by first | exact ⟨fun z => absurd z (by decide), rfl⟩ | exact ⟨fun _ => rfl, rfl⟩), (by first | assumption | exact Or.inl rfl | exact Or.inr rfl | omega), (by first | assumption | exact Or.inl rfl | exact Or.inr rfl | omega)⟩ hw rfl dX9_restore_17
theorem kd_ncX9_playDraft : kd_ck 9319751956682996164415392681976674523891768337166597523612947368582653812478281193861788973773835560417458165809659671202485564673730920881577888021787690 64 cX9_playDraft.data.toList 0 = true := by decide +kernel
theorem dX9_playDraft_0 : decode cX9_playDraft 0 = .ok (.aload_n 0, 1) := kd_dk0 kd_o42 kd_ncX9_playDraft rfl
theorem dX9_playDraft_1 : decode cX9_playDraft 1 = .ok (.getfield 30, 3) := kd_dk2 kd_o180 kd_ncX9_playDraft rfl
theorem dX9_playDraft_4 : decode cX9_playDraft 4 = .ok (.astore_n 1, 1) := kd_dk0 kd_o76 kd_ncX9_playDraft rfl
theorem dX9_playDraft_5 : decode cX9_playDraft 5 = .ok (.aload_n 0, 1) := kd_dk0 kd_o42 kd_ncX9_playDraft rfl
theorem dX9_playDraft_6 : decode cX9_playDraft 6 = .ok (.aload_n 0, 1) := kd_dk0 kd_o42 kd_ncX9_playDraft rfl
theorem dX9_playDraft_7 : decode cX9_playDraft 7 = .ok (.getfield 34, 3) := kd_dk2 kd_o180 kd_ncX9_playDraft rfl
theorem dX9_playDraft_10 : decode cX9_playDraft 10 = .ok (.putfield 30, 3) := kd_dk2 kd_o181 kd_ncX9_playDraft rfl
theorem dX9_playDraft_13 : decode cX9_playDraft 13 = .ok (.aload_n 0, 1) := kd_dk0 kd_o42 kd_ncX9_playDraft rfl
theorem dX9_playDraft_14 : decode cX9_playDraft 14 = .ok (.aload_n 1, 1) := kd_dk0 kd_o43 kd_ncX9_playDraft rfl
theorem dX9_playDraft_15 : decode cX9_playDraft 15 = .ok (.putfield 34, 3) := kd_dk2 kd_o181 kd_ncX9_playDraft rfl
theorem dX9_playDraft_18 : decode cX9_playDraft 18 = .ok (.aload_n 0, 1) := kd_dk0 kd_o42 kd_ncX9_playDraft rfl
theorem dX9_playDraft_19 : decode cX9_playDraft 19 = .ok (.getfield 40, 3) := kd_dk2 kd_o180 kd_ncX9_playDraft rfl
theorem dX9_playDraft_22 : decode cX9_playDraft 22 = .ok (.aload_n 0, 1) := kd_dk0 kd_o42 kd_ncX9_playDraft rfl
theorem dX9_playDraft_23 : decode cX9_playDraft 23 = .ok (.getfield 30, 3) := kd_dk2 kd_o180 kd_ncX9_playDraft rfl
theorem dX9_playDraft_26 : decode cX9_playDraft 26 = .ok (.invokevirtual 97, 3) := kd_dk2 kd_o182 kd_ncX9_playDraft rfl
theorem dX9_playDraft_29 : decode cX9_playDraft 29 = .ok (.aload_n 0, 1) := kd_dk0 kd_o42 kd_ncX9_playDraft rfl
theorem dX9_playDraft_30 : decode cX9_playDraft 30 = .ok (.getfield 64, 3) := kd_dk2 kd_o180 kd_ncX9_playDraft rfl
theorem dX9_playDraft_33 : decode cX9_playDraft 33 = .ok (.invokevirtual 101, 3) := kd_dk2 kd_o182 kd_ncX9_playDraft rfl
theorem dX9_playDraft_36 : decode cX9_playDraft 36 = .ok (.aload_n 0, 1) := kd_dk0 kd_o42 kd_ncX9_playDraft rfl
theorem dX9_playDraft_37 : decode cX9_playDraft 37 = .ok (.getfield 71, 3) := kd_dk2 kd_o180 kd_ncX9_playDraft rfl
theorem dX9_playDraft_40 : decode cX9_playDraft 40 = .ok (.invokevirtual 104, 3) := kd_dk2 kd_o182 kd_ncX9_playDraft rfl
theorem dX9_playDraft_43 : decode cX9_playDraft 43 = .ok (.iconst 0, 1) := kd_dk0 kd_o3 kd_ncX9_playDraft rfl
theorem dX9_playDraft_44 : decode cX9_playDraft 44 = .ok (.istore_n 2, 1) := kd_dk0 kd_o61 kd_ncX9_playDraft rfl
theorem dX9_playDraft_45 : decode cX9_playDraft 45 = .ok (.iload_n 2, 1) := kd_dk0 kd_o28 kd_ncX9_playDraft rfl
theorem dX9_playDraft_46 : decode cX9_playDraft 46 = .ok (.iconst 3, 1) := kd_dk0 kd_o6 kd_ncX9_playDraft rfl
theorem dX9_playDraft_47 : decode cX9_playDraft 47 = .ok (.if_icmp .ge 16, 3) := kd_dj2 kd_o162 (w := 16) kd_ncX9_playDraft rfl rfl
theorem dX9_playDraft_50 : decode cX9_playDraft 50 = .ok (.aload_n 0, 1) := kd_dk0 kd_o42 kd_ncX9_playDraft rfl
theorem dX9_playDraft_51 : decode cX9_playDraft 51 = .ok (.getfield 79, 3) := kd_dk2 kd_o180 kd_ncX9_playDraft rfl
theorem dX9_playDraft_54 : decode cX9_playDraft 54 = .ok (.iload_n 2, 1) := kd_dk0 kd_o28 kd_ncX9_playDraft rfl
theorem dX9_playDraft_55 : decode cX9_playDraft 55 = .ok (.iconst 0, 1) := kd_dk0 kd_o3 kd_ncX9_playDraft rfl
theorem dX9_playDraft_56 : decode cX9_playDraft 56 = .ok (.bastore, 1) := kd_dk0 kd_o84 kd_ncX9_playDraft rfl
theorem dX9_playDraft_57 : decode cX9_playDraft 57 = .ok (.iinc 2 1, 3) := kd_dji kd_o132 (w := 1) kd_ncX9_playDraft rfl rfl
theorem dX9_playDraft_60 : decode cX9_playDraft 60 = .ok (.goto (-15), 3) := kd_dj2 kd_o167 (w := 65521) kd_ncX9_playDraft rfl rfl
theorem dX9_playDraft_63 : decode cX9_playDraft 63 = .ok (.return_, 1) := kd_dk0 kd_o177 kd_ncX9_playDraft rfl
set_option maxHeartbeats 8000000 in
set_option maxRecDepth 100000 in
theorem c_g_playDraft (l : Launch) (G : zz_G) (ob0 : Nat) (ut : Nat) (uf1 : Int32) (h1 : Nat) (uf3 : Int32) (sc : Nat) (dr0 : Nat) (k0 : Nat) (my0 : Nat) (c0 : Nat) (ga : Nat) (pa0 : Nat) (t0 : Nat) (sl0 : Nat) (hd0 : Nat) (b1 : Nat) (b2 : Nat) (b3 : Nat) (b4 : Nat) (e1 : Nat → Int32) (e2 : Nat → Int32) (e3 : Nat → Int32) (e4 : Nat → Int32) (o1 : Int32) (o2 : Int32) (o3 : Int32) (dd1 : Nat) (dd2 : Nat) (dd3 : Nat) (dd4 : Nat) (dd5 : Nat) (dd6 : Nat) (dd7 : Nat) (dd8 : Nat) (dd9 : Nat) (di1 : Int32) (di2 : Int32) (di3 : Int32) (di4 : Int32) (dm2 : Nat → Int32) (dm5 : Nat → Int32) (pl0 : Nat) (pn : Nat) (pm : Nat) (t1 : Nat) (t2 : Nat) (t3 : Nat) (tmx : Int32) (hf : Nat → Int32) : zz_M l G mX9_playDraft 2 0 0 [.ref ob0] [(ob0, .inr (9, [.ref ut, .int uf1, .ref h1, .int uf3, .ref sc, .ref dr0, .ref k0, .ref my0, .ref c0, .ref ga, .ref pa0, .ref t0, .ref sl0, .ref hd0])), (k0, .inr (6, [.ref b1, .ref b2, .ref b3, .ref b4, .int o1, .int o2, .int o3])), (b1, .inl (G.2 0, 7, .inl e1)), (b2, .inl (G.2 0, 6, .inl e2)), (b3, .inl (G.2 0, 7, .inl e3)), (b4, .inl (G.2 0, 42, .inl e4)), (dr0, .inr (5, [.ref dd1, .ref dd2, .ref dd3, .ref dd4, .ref dd5, .ref dd6, .ref dd7, .ref dd8, .ref dd9, .int di1, .int di2, .int di3, .int di4])), (dd2, .inl (G.2 0, 7, .inl dm2)), (dd5, .inl (G.2 0, 6, .inl dm5)), (pa0, .inr (3, [.ref pl0, .int (nI pn), .int (nI pm)])), (t0, .inr (8, [.ref t1, .ref t2, .ref t3, .int tmx])), (hd0, .inl (G.2 2, 3, .inl hf))] (fun rr u => ∃ (ee1 : Nat → Int32), ∃ (ee2 : Nat → Int32), ∃ (ee3 : Nat → Int32), ∃ (ee4 : Nat → Int32), ∃ (oo1 : Int32), ∃ (oo2 : Int32), ∃ (oo3 : Int32), ∃ (hf2 : Nat → Int32), rr = none ∧ u = [(ob0, .inr (9, [.ref ut, .int uf1, .ref h1, .int uf3, .ref dr0, .ref sc, .ref k0, .ref my0, .ref c0, .ref ga, .ref pa0, .ref t0, .ref sl0, .ref hd0])), (k0, .inr (6, [.ref b1, .ref b2, .ref b3, .ref b4, .int oo1, .int oo2, .int oo3])), (b1, .inl (G.2 0, 7, .inl ee1)), (b2, .inl (G.2 0, 6, .inl ee2)), (b3, .inl (G.2 0, 7, .inl ee3)), (b4, .inl (G.2 0, 42, .inl ee4)), (dr0, .inr (5, [.ref dd1, .ref dd2, .ref dd3, .ref dd4, .ref dd5, .ref dd6, .ref dd7, .ref dd8, .ref dd9, .int di1, .int di2, .int di3, .int di4])), (dd2, .inl (G.2 0, 7, .inl dm2)), (dd5, .inl (G.2 0, 6, .inl dm5)), (pa0, .inr (3, [.ref pl0, .int (nI pn), .int 0])), (t0, .inr (8, [.ref t1, .ref t2, .ref t3, .int 0])), (hd0, .inl (G.2 2, 3, .inl hf2))] ∧ (zz_z0 hf2 3) ∧ (zy_q 7 dm2 ee1) ∧ (zy_q 6 dm5 ee2) ∧ (zz_z0 ee3 7) ∧ (zz_z0 ee4 42) ∧ (oo1 = 0 ∧ oo2 = 0 ∧ oo3 = 0)) := by
  refine zz_enterv (by decide +kernel) (Nat.le_of_ble_eq_true rfl) ?_
  intro p e s m args below meth c A Q ls S hnm hret hw hl
  have hl : lv_has ls 3 [(0, .ref ob0)] := hl
  have hx := S.1
  have hb := S.2.1
  refine lv_aload_n hx hb dX9_playDraft_0 rfl (lv_at hl 0 rfl) ?_
  refine zz_get (v := .ref sc) S hw fgX9_30 0 rfl rfl dX9_playDraft_1 ?_
  refine lv_astore_n (lv' := [(1, .ref sc), (0, .ref ob0)]) hx hb dX9_playDraft_4 rfl hl (by decide) rfl (fun ls hl => ?_)
  refine lv_aload_n hx hb dX9_playDraft_5 rfl (lv_at hl 1 rfl) ?_
  refine lv_aload_n hx hb dX9_playDraft_6 rfl (lv_at hl 1 rfl) ?_
  refine zz_get (v := .ref dr0) S hw fgX9_34 0 rfl rfl dX9_playDraft_7 ?_
  refine zz_put (ws' := [(ob0, .inr (9, [.ref ut, .int uf1, .ref h1, .int uf3, .ref dr0, .ref dr0, .ref k0, .ref my0, .ref c0, .ref ga, .ref pa0, .ref t0, .ref sl0, .ref hd0])), (k0, .inr (6, [.ref b1, .ref b2, .ref b3, .ref b4, .int o1, .int o2, .int o3])), (b1, .inl (G.2 0, 7, .inl e1)), (b2, .inl (G.2 0, 6, .inl e2)), (b3, .inl (G.2 0, 7, .inl e3)), (b4, .inl (G.2 0, 42, .inl e4)), (dr0, .inr (5, [.ref dd1, .ref dd2, .ref dd3, .ref dd4, .ref dd5, .ref dd6, .ref dd7, .ref dd8, .ref dd9, .int di1, .int di2, .int di3, .int di4])), (dd2, .inl (G.2 0, 7, .inl dm2)), (dd5, .inl (G.2 0, 6, .inl dm5)), (pa0, .inr (3, [.ref pl0, .int (nI pn), .int (nI pm)])), (t0, .inr (8, [.ref t1, .ref t2, .ref t3, .int tmx])), (hd0, .inl (G.2 2, 3, .inl hf))]) (v := .ref dr0) S hw fpX9_30 0 rfl rfl rfl (Nat.le_of_ble_eq_true rfl) rfl dX9_playDraft_10 ?_
  clear hw
  intro H locs hw
  refine lv_aload_n hx hb dX9_playDraft_13 rfl (lv_at hl 1 rfl) ?_
  refine lv_aload_n hx hb dX9_playDraft_14 rfl (lv_at hl 0 rfl) ?_
  refine zz_put (ws' := [(ob0, .inr (9, [.ref ut, .int uf1, .ref h1, .int uf3, .ref dr0, .ref sc, .ref k0, .ref my0, .ref c0, .ref ga, .ref pa0, .ref t0, .ref sl0, .ref hd0])), (k0, .inr (6, [.ref b1, .ref b2, .ref b3, .ref b4, .int o1, .int o2, .int o3])), (b1, .inl (G.2 0, 7, .inl e1)), (b2, .inl (G.2 0, 6, .inl e2)), (b3, .inl (G.2 0, 7, .inl e3)), (b4, .inl (G.2 0, 42, .inl e4)), (dr0, .inr (5, [.ref dd1, .ref dd2, .ref dd3, .ref dd4, .ref dd5, .ref dd6, .ref dd7, .ref dd8, .ref dd9, .int di1, .int di2, .int di3, .int di4])), (dd2, .inl (G.2 0, 7, .inl dm2)), (dd5, .inl (G.2 0, 6, .inl dm5)), (pa0, .inr (3, [.ref pl0, .int (nI pn), .int (nI pm)])), (t0, .inr (8, [.ref t1, .ref t2, .ref t3, .int tmx])), (hd0, .inl (G.2 2, 3, .inl hf))]) (v := .ref sc) S hw fpX9_34 0 rfl rfl rfl (Nat.le_of_ble_eq_true rfl) rfl dX9_playDraft_15 ?_
  clear hw
  intro H locs hw
  refine lv_aload_n hx hb dX9_playDraft_18 rfl (lv_at hl 1 rfl) ?_
  refine zz_get (v := .ref k0) S hw fgX9_40 0 rfl rfl dX9_playDraft_19 ?_
  refine lv_aload_n hx hb dX9_playDraft_22 rfl (lv_at hl 1 rfl) ?_
  refine zz_get (v := .ref dr0) S hw fgX9_30 0 rfl rfl dX9_playDraft_23 ?_
  refine W.eq (g2 := F0 m 26 ls [.ref dr0, .ref k0]) rfl ?_
  refine zz_callV (qb := 1) (As := [.ref dr0]) (rest := []) (wr := [(ob0, .inr (9, [.ref ut, .int uf1, .ref h1, .int uf3, .ref dr0, .ref sc, .ref k0, .ref my0, .ref c0, .ref ga, .ref pa0, .ref t0, .ref sl0, .ref hd0])), (pa0, .inr (3, [.ref pl0, .int (nI pn), .int (nI pm)])), (t0, .inr (8, [.ref t1, .ref t2, .ref t3, .int tmx])), (hd0, .inl (G.2 2, 3, .inl hf))]) S hw hl.1 lX9_97 (c_gbegin l G k0 b1 b2 b3 b4 e1 e2 e3 e4 o1 o2 o3 dr0 dd1 dd2 dd3 dd4 dd5 dd6 dd7 dd8 dd9 di1 di2 di3 di4 dm2 dm5) ⟨Nat.le_of_ble_eq_true rfl, Nat.le_of_ble_eq_true rfl⟩ ⟨Nat.le_of_ble_eq_true rfl, Nat.le_of_ble_eq_true rfl⟩ [1, 2, 3, 4, 5, 6, 7, 8] [0, 9, 10, 11] (by decide) rfl rfl (by decide) (by decide) rfl rfl rfl rfl (Nat.le_of_ble_eq_true rfl) dX9_playDraft_26 ?_
  clear hw
  intro rr u H locs hp hw
  refine hp.elim fun ee1_1 zg0 => zg0.elim fun ee2_2 zg1 => zg1.elim fun ee3_3 zg2 => zg2.elim fun ee4_4 zg3 => zg3.elim fun oo1_5 zg4 => zg4.elim fun oo2_6 zg5 => zg5.elim fun oo3_7 zg6 => zg6.elim fun zee1 zg7 => zg7.elim fun zee2 zg8 => zg8.elim fun hq26_0 zg9 => zg9.elim fun hq26_1 zg10 => zg10.elim fun hq26_2 zg11 => zg11.elim fun hq26_3 hq26_4 => ?_
  clear hp zg0 zg1 zg2 zg3 zg4 zg5 zg6 zg7 zg8 zg9 zg10 zg11
  subst zee1
  subst zee2
  replace hw : zz_w G A s [(ob0, .inr (9, [.ref ut, .int uf1, .ref h1, .int uf3, .ref dr0, .ref sc, .ref k0, .ref my0, .ref c0, .ref ga, .ref pa0, .ref t0, .ref sl0, .ref hd0])), (pa0, .inr (3, [.ref pl0, .int (nI pn), .int (nI pm)])), (t0, .inr (8, [.ref t1, .ref t2, .ref t3, .int tmx])), (hd0, .inl (G.2 2, 3, .inl hf)), (k0, .inr (6, [.ref b1, .ref b2, .ref b3, .ref b4, .int oo1_5, .int oo2_6, .int oo3_7])), (b1, .inl (G.2 0, 7, .inl ee1_1)), (b2, .inl (G.2 0, 6, .inl ee2_2)), (b3, .inl (G.2 0, 7, .inl ee3_3)), (b4, .inl (G.2 0, 42, .inl ee4_4)), (dr0, .inr (5, [.ref dd1, .ref dd2, .ref dd3, .ref dd4, .ref dd5, .ref dd6, .ref dd7, .ref dd8, .ref dd9, .int di1, .int di2, .int di3, .int di4])), (dd2, .inl (G.2 0, 7, .inl dm2)), (dd5, .inl (G.2 0, 6, .inl dm5))] H _ := hw
  refine W.eq (g2 := F0 m 29 ls []) rfl ?_
  refine lv_aload_n hx hb dX9_playDraft_29 rfl (lv_at hl 1 rfl) ?_
  refine zz_get (v := .ref pa0) S hw fgX9_64 0 rfl rfl dX9_playDraft_30 ?_
  refine zz_callV (qb := 1) (As := []) (rest := []) (wr := [(ob0, .inr (9, [.ref ut, .int uf1, .ref h1, .int uf3, .ref dr0, .ref sc, .ref k0, .ref my0, .ref c0, .ref ga, .ref pa0, .ref t0, .ref sl0, .ref hd0])), (t0, .inr (8, [.ref t1, .ref t2, .ref t3, .int tmx])), (hd0, .inl (G.2 2, 3, .inl hf)), (k0, .inr (6, [.ref b1, .ref b2, .ref b3, .ref b4, .int oo1_5, .int oo2_6, .int oo3_7])), (b1, .inl (G.2 0, 7, .inl ee1_1)), (b2, .inl (G.2 0, 6, .inl ee2_2)), (b3, .inl (G.2 0, 7, .inl ee3_3)), (b4, .inl (G.2 0, 42, .inl ee4_4)), (dr0, .inr (5, [.ref dd1, .ref dd2, .ref dd3, .ref dd4, .ref dd5, .ref dd6, .ref dd7, .ref dd8, .ref dd9, .int di1, .int di2, .int di3, .int di4])), (dd2, .inl (G.2 0, 7, .inl dm2)), (dd5, .inl (G.2 0, 6, .inl dm5))]) S hw hl.1 lX9_101 (c_gPclear l G pa0 pl0 pn pm) ⟨Nat.le_of_ble_eq_true rfl, Nat.le_of_ble_eq_true rfl⟩ ⟨Nat.le_of_ble_eq_true rfl, Nat.le_of_ble_eq_true rfl⟩ [1] [0, 2, 3, 4, 5, 6, 7, 8, 9, 10, 11] (by decide) rfl rfl (by decide) (by decide) rfl rfl rfl rfl (Nat.le_of_ble_eq_true rfl) dX9_playDraft_33 ?_
  clear hw
  intro rr u H locs hp hw
  refine hp.elim fun zee1 zee2 => ?_
  clear hp
  subst zee1
  subst zee2
  replace hw : zz_w G A s [(ob0, .inr (9, [.ref ut, .int uf1, .ref h1, .int uf3, .ref dr0, .ref sc, .ref k0, .ref my0, .ref c0, .ref ga, .ref pa0, .ref t0, .ref sl0, .ref hd0])), (t0, .inr (8, [.ref t1, .ref t2, .ref t3, .int tmx])), (hd0, .inl (G.2 2, 3, .inl hf)), (k0, .inr (6, [.ref b1, .ref b2, .ref b3, .ref b4, .int oo1_5, .int oo2_6, .int oo3_7])), (b1, .inl (G.2 0, 7, .inl ee1_1)), (b2, .inl (G.2 0, 6, .inl ee2_2)), (b3, .inl (G.2 0, 7, .inl ee3_3)), (b4, .inl (G.2 0, 42, .inl ee4_4)), (dr0, .inr (5, [.ref dd1, .ref dd2, .ref dd3, .ref dd4, .ref dd5, .ref dd6, .ref dd7, .ref dd8, .ref dd9, .int di1, .int di2, .int di3, .int di4])), (dd2, .inl (G.2 0, 7, .inl dm2)), (dd5, .inl (G.2 0, 6, .inl dm5)), (pa0, .inr (3, [.ref pl0, .int (nI pn), .int 0]))] H _ := hw
  refine W.eq (g2 := F0 m 36 ls []) rfl ?_
  refine lv_aload_n hx hb dX9_playDraft_36 rfl (lv_at hl 1 rfl) ?_
  refine zz_get (v := .ref t0) S hw fgX9_71 0 rfl rfl dX9_playDraft_37 ?_
  refine zz_callV (qb := 1) (As := []) (rest := []) (wr := [(ob0, .inr (9, [.ref ut, .int uf1, .ref h1, .int uf3, .ref dr0, .ref sc, .ref k0, .ref my0, .ref c0, .ref ga, .ref pa0, .ref t0, .ref sl0, .ref hd0])), (hd0, .inl (G.2 2, 3, .inl hf)), (k0, .inr (6, [.ref b1, .ref b2, .ref b3, .ref b4, .int oo1_5, .int oo2_6, .int oo3_7])), (b1, .inl (G.2 0, 7, .inl ee1_1)), (b2, .inl (G.2 0, 6, .inl ee2_2)), (b3, .inl (G.2 0, 7, .inl ee3_3)), (b4, .inl (G.2 0, 42, .inl ee4_4)), (dr0, .inr (5, [.ref dd1, .ref dd2, .ref dd3, .ref dd4, .ref dd5, .ref dd6, .ref dd7, .ref dd8, .ref dd9, .int di1, .int di2, .int di3, .int di4])), (dd2, .inl (G.2 0, 7, .inl dm2)), (dd5, .inl (G.2 0, 6, .inl dm5)), (pa0, .inr (3, [.ref pl0, .int (nI pn), .int 0]))]) S hw hl.1 lX9_104 (c_gTclear l G t0 t1 t2 t3 tmx) ⟨Nat.le_of_ble_eq_true rfl, Nat.le_of_ble_eq_true rfl⟩ ⟨Nat.le_of_ble_eq_true rfl, Nat.le_of_ble_eq_true rfl⟩ [1] [0, 2, 3, 4, 5, 6, 7, 8, 9, 10, 11] (by decide) rfl rfl (by decide) (by decide) rfl rfl rfl rfl (Nat.le_of_ble_eq_true rfl) dX9_playDraft_40 ?_
  clear hw
  intro rr u H locs hp hw
  refine hp.elim fun zee1 zee2 => ?_
  clear hp
  subst zee1
  subst zee2
  replace hw : zz_w G A s [(ob0, .inr (9, [.ref ut, .int uf1, .ref h1, .int uf3, .ref dr0, .ref sc, .ref k0, .ref my0, .ref c0, .ref ga, .ref pa0, .ref t0, .ref sl0, .ref hd0])), (hd0, .inl (G.2 2, 3, .inl hf)), (k0, .inr (6, [.ref b1, .ref b2, .ref b3, .ref b4, .int oo1_5, .int oo2_6, .int oo3_7])), (b1, .inl (G.2 0, 7, .inl ee1_1)), (b2, .inl (G.2 0, 6, .inl ee2_2)), (b3, .inl (G.2 0, 7, .inl ee3_3)), (b4, .inl (G.2 0, 42, .inl ee4_4)), (dr0, .inr (5, [.ref dd1, .ref dd2, .ref dd3, .ref dd4, .ref dd5, .ref dd6, .ref dd7, .ref dd8, .ref dd9, .int di1, .int di2, .int di3, .int di4])), (dd2, .inl (G.2 0, 7, .inl dm2)), (dd5, .inl (G.2 0, 6, .inl dm5)), (pa0, .inr (3, [.ref pl0, .int (nI pn), .int 0])), (t0, .inr (8, [.ref t1, .ref t2, .ref t3, .int 0]))] H _ := hw
  refine W.eq (g2 := F0 m 43 ls []) rfl ?_
  refine lv_iconst (v := 0) hx hb dX9_playDraft_43 (by decide) ?_
  refine lv_istore_n (lv' := [(2, .int 0), (1, .ref sc), (0, .ref ob0)]) hx hb dX9_playDraft_44 rfl hl (by decide) rfl (fun ls hl => ?_)
  have lp45_14 : ∀ (vn9 vi8 : Nat) (vF11 : Nat → Int32) (H : Heap) (locs : List Loc) (ls : Array Slot), vi8 ≤ 3 → 3 < vi8 + vn9 → zz_z0 vF11 vi8 → zz_w G A s [(ob0, .inr (9, [.ref ut, .int uf1, .ref h1, .int uf3, .ref dr0, .ref sc, .ref k0, .ref my0, .ref c0, .ref ga, .ref pa0, .ref t0, .ref sl0, .ref hd0])), (hd0, .inl (G.2 2, 3, .inl vF11)), (k0, .inr (6, [.ref b1, .ref b2, .ref b3, .ref b4, .int oo1_5, .int oo2_6, .int oo3_7])), (b1, .inl (G.2 0, 7, .inl ee1_1)), (b2, .inl (G.2 0, 6, .inl ee2_2)), (b3, .inl (G.2 0, 7, .inl ee3_3)), (b4, .inl (G.2 0, 42, .inl ee4_4)), (dr0, .inr (5, [.ref dd1, .ref dd2, .ref dd3, .ref dd4, .ref dd5, .ref dd6, .ref dd7, .ref dd8, .ref dd9, .int di1, .int di2, .int di3, .int di4])), (dd2, .inl (G.2 0, 7, .inl dm2)), (dd5, .inl (G.2 0, 6, .inl dm5)), (pa0, .inr (3, [.ref pl0, .int (nI pn), .int 0])), (t0, .inr (8, [.ref t1, .ref t2, .ref t3, .int 0]))] H locs → lv_has ls 3 [(2, .int (nI vi8)), (1, .ref sc), (0, .ref ob0)] → W p l e (zz_rm 2 0 0) s m args below meth c H locs (0) (0) Q (F0 m 45 ls []) := by
    intro vn9
    induction vn9 with
    | zero => intro vi8 vF11 H locs ls hi1 hi2; exact absurd hi2 (by omega)
    | succ vn9 ih45 =>
      intro vi8 vF11 H locs ls hi45a hi45b hv45_13 hw hl
      refine lv_iload_n hx hb dX9_playDraft_45 rfl (lv_at hl 0 rfl) ?_
      refine lv_iconst (v := 3) hx hb dX9_playDraft_46 (by decide) ?_
      refine lv_icmp_ge (tgt := 63) hx hb dX9_playDraft_47 (by decide) (fun c47_15 => ?_) (fun c47_15 => ?_)
      · skip
        have c47_15n : 3 ≤ vi8 := (zz_le (a := 3) (b := vi8) rfl rfl (by omega) (by omega)).mp c47_15
        exact hret _ _ _ _ _ ⟨ee1_1, ee2_2, ee3_3, ee4_4, oo1_5, oo2_6, oo3_7, vF11, rfl, rfl, (zz_z0e hv45_13 (by omega)), hq26_0, hq26_1, hq26_2, hq26_3, hq26_4⟩ (hw.sub [0, 2, 3, 4, 5, 6, 7, 8, 9, 10, 11, 1] (by decide) rfl) dX9_playDraft_63
      · skip
        have c47_15n : ¬ (3 ≤ vi8) := fun z => c47_15 ((zz_le (a := 3) (b := vi8) rfl rfl (by omega) (by omega)).mpr z)
        refine lv_aload_n hx hb dX9_playDraft_50 rfl (lv_at hl 2 rfl) ?_
        refine zz_get (v := .ref hd0) S hw fgX9_79 0 rfl rfl dX9_playDraft_51 ?_
        refine lv_iload_n hx hb dX9_playDraft_54 rfl (lv_at hl 0 rfl) ?_
        refine W.eq (g2 := F0 m 55 ls [.int (nI vi8), .ref hd0]) rfl ?_
        refine lv_iconst (v := 0) hx hb dX9_playDraft_55 (by decide) ?_
        refine zz_zast (ws' := [(ob0, .inr (9, [.ref ut, .int uf1, .ref h1, .int uf3, .ref dr0, .ref sc, .ref k0, .ref my0, .ref c0, .ref ga, .ref pa0, .ref t0, .ref sl0, .ref hd0])), (hd0, .inl (G.2 2, 3, .inl (upd vF11 vi8 (vp_nar .boolean 0)))), (k0, .inr (6, [.ref b1, .ref b2, .ref b3, .ref b4, .int oo1_5, .int oo2_6, .int oo3_7])), (b1, .inl (G.2 0, 7, .inl ee1_1)), (b2, .inl (G.2 0, 6, .inl ee2_2)), (b3, .inl (G.2 0, 7, .inl ee3_3)), (b4, .inl (G.2 0, 42, .inl ee4_4)), (dr0, .inr (5, [.ref dd1, .ref dd2, .ref dd3, .ref dd4, .ref dd5, .ref dd6, .ref dd7, .ref dd8, .ref dd9, .int di1, .int di2, .int di3, .int di4])), (dd2, .inl (G.2 0, 7, .inl dm2)), (dd5, .inl (G.2 0, 6, .inl dm5)), (pa0, .inr (3, [.ref pl0, .int (nI pn), .int 0])), (t0, .inr (8, [.ref t1, .ref t2, .ref t3, .int 0]))]) (g := (upd vF11 vi8 (vp_nar .boolean 0))) S hw 1 rfl (vp_in_nI (n := vi8) (by omega) (by decide)) (by rw [show ((nI vi8) : Int32).toNatClampNeg = vi8 from nI_clamp (n := vi8) (by omega)]) rfl dX9_playDraft_56 ?_
        clear hw
        intro H locs hw
        refine lv_iinc (v := (nI (vi8 + 1))) (lv' := [(2, .int (nI (vi8 + 1))), (1, .ref sc), (0, .ref ob0)]) hx hb dX9_playDraft_57 hl (k := 0) rfl (nI_add _ 1) (by decide) rfl (fun ls hl => ?_)
        refine lv_goto (tgt := 45) hx hb dX9_playDraft_60 (by decide) ?_
        exact ih45 (vi8 + 1) (upd vF11 vi8 (vp_nar .boolean 0)) _ _ _ (by omega) (by omega) (zz_z0s hv45_13) hw (lv_sub hl [0, 1, 2] rfl)
  exact lp45_14 (3 + 1 - 0) 0 hf _ _ _ (by omega) (by omega) zz_z00 hw (lv_sub hl [0, 1, 2] rfl)
