theorem kd_ncX10_person : kd_ck 2026517265913648113937152965964053784765996103670376665681245417531970890669777387724141125334664766638627349831836765040628872908440672761733227770180667170045945354760510706447285056622458383666032397545747928709706228083122687243398863576099476264697870679608217733127995916012808871034664993897300474206015068970 131 cX10_person.data.toList 0 = true := by decide +kernel
theorem dX10_person_0 : decode cX10_person 0 = .ok (.aload_n 0, 1) := kd_dk0 kd_o42 kd_ncX10_person rfl
theorem dX10_person_1 : decode cX10_person 1 = .ok (.iload_n 1, 1) := kd_dk0 kd_o27 kd_ncX10_person rfl
theorem dX10_person_2 : decode cX10_person 2 = .ok (.invokevirtual 373, 3) := kd_dk2 kd_o182 kd_ncX10_person rfl
theorem dX10_person_5 : decode cX10_person 5 = .ok (.ifCond .ne 5, 3) := kd_dj2 kd_o154 (w := 5) kd_ncX10_person rfl rfl
theorem dX10_person_8 : decode cX10_person 8 = .ok (.iconst (-1), 1) := kd_dk0 kd_o2 kd_ncX10_person rfl
theorem dX10_person_9 : decode cX10_person 9 = .ok (.ireturn, 1) := kd_dk0 kd_o172 kd_ncX10_person rfl
theorem dX10_person_10 : decode cX10_person 10 = .ok (.aload_n 0, 1) := kd_dk0 kd_o42 kd_ncX10_person rfl
theorem dX10_person_11 : decode cX10_person 11 = .ok (.invokevirtual 323, 3) := kd_dk2 kd_o182 kd_ncX10_person rfl
theorem dX10_person_14 : decode cX10_person 14 = .ok (.aload_n 0, 1) := kd_dk0 kd_o42 kd_ncX10_person rfl
theorem dX10_person_15 : decode cX10_person 15 = .ok (.invokevirtual 351, 3) := kd_dk2 kd_o182 kd_ncX10_person rfl
theorem dX10_person_18 : decode cX10_person 18 = .ok (.iload_n 2, 1) := kd_dk0 kd_o28 kd_ncX10_person rfl
theorem dX10_person_19 : decode cX10_person 19 = .ok (.tableswitch 110 0 6 #[41, 48, 63, 78, 88, 98, 104], 41) := by decide +kernel
theorem dX10_person_60 : decode cX10_person 60 = .ok (.aload_n 0, 1) := kd_dk0 kd_o42 kd_ncX10_person rfl
theorem dX10_person_61 : decode cX10_person 61 = .ok (.getfield 113, 3) := kd_dk2 kd_o180 kd_ncX10_person rfl
theorem dX10_person_64 : decode cX10_person 64 = .ok (.iload_n 1, 1) := kd_dk0 kd_o27 kd_ncX10_person rfl
theorem dX10_person_65 : decode cX10_person 65 = .ok (.iaload, 1) := kd_dk0 kd_o46 kd_ncX10_person rfl
theorem dX10_person_66 : decode cX10_person 66 = .ok (.ireturn, 1) := kd_dk0 kd_o172 kd_ncX10_person rfl
theorem dX10_person_67 : decode cX10_person 67 = .ok (.aload_n 0, 1) := kd_dk0 kd_o42 kd_ncX10_person rfl
theorem dX10_person_68 : decode cX10_person 68 = .ok (.getfield 49, 3) := kd_dk2 kd_o180 kd_ncX10_person rfl
theorem dX10_person_71 : decode cX10_person 71 = .ok (.bipush 7, 2) := kd_dj1 kd_o16 (w := 7) kd_ncX10_person rfl rfl
theorem dX10_person_73 : decode cX10_person 73 = .ok (.aload_n 0, 1) := kd_dk0 kd_o42 kd_ncX10_person rfl
theorem dX10_person_74 : decode cX10_person 74 = .ok (.getfield 236, 3) := kd_dk2 kd_o180 kd_ncX10_person rfl
theorem dX10_person_77 : decode cX10_person 77 = .ok (.imul, 1) := kd_dk0 kd_o104 kd_ncX10_person rfl
theorem dX10_person_78 : decode cX10_person 78 = .ok (.iload_n 1, 1) := kd_dk0 kd_o27 kd_ncX10_person rfl
theorem dX10_person_79 : decode cX10_person 79 = .ok (.iadd, 1) := kd_dk0 kd_o96 kd_ncX10_person rfl
theorem dX10_person_80 : decode cX10_person 80 = .ok (.iaload, 1) := kd_dk0 kd_o46 kd_ncX10_person rfl
theorem dX10_person_81 : decode cX10_person 81 = .ok (.ireturn, 1) := kd_dk0 kd_o172 kd_ncX10_person rfl
theorem dX10_person_82 : decode cX10_person 82 = .ok (.aload_n 0, 1) := kd_dk0 kd_o42 kd_ncX10_person rfl
theorem dX10_person_83 : decode cX10_person 83 = .ok (.getfield 52, 3) := kd_dk2 kd_o180 kd_ncX10_person rfl
theorem dX10_person_86 : decode cX10_person 86 = .ok (.bipush 7, 2) := kd_dj1 kd_o16 (w := 7) kd_ncX10_person rfl rfl
theorem dX10_person_88 : decode cX10_person 88 = .ok (.aload_n 0, 1) := kd_dk0 kd_o42 kd_ncX10_person rfl
theorem dX10_person_89 : decode cX10_person 89 = .ok (.getfield 236, 3) := kd_dk2 kd_o180 kd_ncX10_person rfl
theorem dX10_person_92 : decode cX10_person 92 = .ok (.imul, 1) := kd_dk0 kd_o104 kd_ncX10_person rfl
theorem dX10_person_93 : decode cX10_person 93 = .ok (.iload_n 1, 1) := kd_dk0 kd_o27 kd_ncX10_person rfl
theorem dX10_person_94 : decode cX10_person 94 = .ok (.iadd, 1) := kd_dk0 kd_o96 kd_ncX10_person rfl
theorem dX10_person_95 : decode cX10_person 95 = .ok (.iaload, 1) := kd_dk0 kd_o46 kd_ncX10_person rfl
theorem dX10_person_96 : decode cX10_person 96 = .ok (.ireturn, 1) := kd_dk0 kd_o172 kd_ncX10_person rfl
theorem dX10_person_97 : decode cX10_person 97 = .ok (.aload_n 0, 1) := kd_dk0 kd_o42 kd_ncX10_person rfl
theorem dX10_person_98 : decode cX10_person 98 = .ok (.getfield 113, 3) := kd_dk2 kd_o180 kd_ncX10_person rfl
theorem dX10_person_101 : decode cX10_person 101 = .ok (.bipush 7, 2) := kd_dj1 kd_o16 (w := 7) kd_ncX10_person rfl rfl
theorem dX10_person_103 : decode cX10_person 103 = .ok (.iload_n 1, 1) := kd_dk0 kd_o27 kd_ncX10_person rfl
theorem dX10_person_104 : decode cX10_person 104 = .ok (.iadd, 1) := kd_dk0 kd_o96 kd_ncX10_person rfl
theorem dX10_person_105 : decode cX10_person 105 = .ok (.iaload, 1) := kd_dk0 kd_o46 kd_ncX10_person rfl
theorem dX10_person_106 : decode cX10_person 106 = .ok (.ireturn, 1) := kd_dk0 kd_o172 kd_ncX10_person rfl
theorem dX10_person_107 : decode cX10_person 107 = .ok (.aload_n 0, 1) := kd_dk0 kd_o42 kd_ncX10_person rfl
theorem dX10_person_108 : decode cX10_person 108 = .ok (.getfield 113, 3) := kd_dk2 kd_o180 kd_ncX10_person rfl
theorem dX10_person_111 : decode cX10_person 111 = .ok (.bipush 14, 2) := kd_dj1 kd_o16 (w := 14) kd_ncX10_person rfl rfl
theorem dX10_person_113 : decode cX10_person 113 = .ok (.iload_n 1, 1) := kd_dk0 kd_o27 kd_ncX10_person rfl
theorem dX10_person_114 : decode cX10_person 114 = .ok (.iadd, 1) := kd_dk0 kd_o96 kd_ncX10_person rfl
theorem dX10_person_115 : decode cX10_person 115 = .ok (.iaload, 1) := kd_dk0 kd_o46 kd_ncX10_person rfl
theorem dX10_person_116 : decode cX10_person 116 = .ok (.ireturn, 1) := kd_dk0 kd_o172 kd_ncX10_person rfl
theorem dX10_person_117 : decode cX10_person 117 = .ok (.aload_n 0, 1) := kd_dk0 kd_o42 kd_ncX10_person rfl
theorem dX10_person_118 : decode cX10_person 118 = .ok (.iload_n 1, 1) := kd_dk0 kd_o27 kd_ncX10_person rfl
theorem dX10_person_119 : decode cX10_person 119 = .ok (.invokevirtual 376, 3) := kd_dk2 kd_o182 kd_ncX10_person rfl
theorem dX10_person_122 : decode cX10_person 122 = .ok (.ireturn, 1) := kd_dk0 kd_o172 kd_ncX10_person rfl
theorem dX10_person_123 : decode cX10_person 123 = .ok (.aload_n 0, 1) := kd_dk0 kd_o42 kd_ncX10_person rfl
theorem dX10_person_124 : decode cX10_person 124 = .ok (.iload_n 1, 1) := kd_dk0 kd_o27 kd_ncX10_person rfl
theorem dX10_person_125 : decode cX10_person 125 = .ok (.invokevirtual 379, 3) := kd_dk2 kd_o182 kd_ncX10_person rfl
theorem dX10_person_128 : decode cX10_person 128 = .ok (.ireturn, 1) := kd_dk0 kd_o172 kd_ncX10_person rfl
theorem dX10_person_129 : decode cX10_person 129 = .ok (.iconst (-1), 1) := kd_dk0 kd_o2 kd_ncX10_person rfl
theorem dX10_person_130 : decode cX10_person 130 = .ok (.ireturn, 1) := kd_dk0 kd_o172 kd_ncX10_person rfl
set_option maxHeartbeats 8000000 in
set_option maxRecDepth 100000 in
theorem c_x_person (l : Launch) (G : zz_G) (r : Nat → Nat) (j0 : Int32) (j2 : Int32) (j4 : Int32) (j10 : Int32) (j11 : Int32) (j12 : Int32) (j13 : Int32) (j14 : Int32) (j15 : Int32) (j16 : Int32) (j17 : Int32) (j19 : Int32) (j20 : Int32) (j34 : Int32) (j40 : Int32) (j44 : Int32) (j47 : Int32) (j50 : Int32) (j51 : Int32) (j56 : Int32) (j61 : Int32) (lv : Nat) (pp : Nat) (pq : Nat) (c22 : Nat → Int32) (c24 : Nat → Int32) (c25 : Nat → Int32) (c26 : Nat → Int32) (c28 : Nat → Int32) (c29 : Nat → Int32) (c30 : Nat → Int32) (c31 : Nat → Int32) (c32 : Nat → Int32) (c33 : Nat → Int32) (c35 : Nat → Int32) (c36 : Nat → Int32) (c37 : Nat → Int32) (c38 : Nat → Int32) (c39 : Nat → Int32) (c41 : Nat → Int32) (c42 : Nat → Int32) (c45 : Nat → Int32) (c46 : Nat → Int32) (c48 : Nat → Int32) (c49 : Nat → Int32) (c52 : Nat → Int32) (ar1 : Int32) (ar2 : Int32) (hlv : lv ≤ 1) (hpe : c22 lv = nI pp) (hpp : pp ≤ 7) (hpa : c26 lv = nI pq) (hpq : pq ≤ 6) (hlw : zz_LW 2 0 0 c32 c33 c35 c36 c37 c38 c39 c41 c42) (hca : ∀ j, j < 6 → zz_ok 7 (c52 j)) : zz_M l G mX10_person 5 0 0 [.ref (r 0), .int ar1, .int ar2] [((r 0), .inr (10, (zz_mo r [(0, j0), (2, j2), (4, j4), (10, j10), (11, j11), (12, j12), (13, j13), (14, j14), (15, j15), (16, j16), (17, j17), (18, (nI lv)), (19, j19), (20, j20), (34, j34), (40, j40), (44, j44), (47, j47), (50, j50), (51, j51), (56, j56), (61, j61)]))), ((r 22), .inl (G.2 0, 2, .inl c22)), ((r 24), .inl (G.2 0, 14, .inl c24)), ((r 25), .inl (G.2 0, 14, .inl c25)), ((r 26), .inl (G.2 0, 2, .inl c26)), ((r 28), .inl (G.2 0, 12, .inl c28)), ((r 29), .inl (G.2 0, 12, .inl c29)), ((r 30), .inl (G.2 0, 2, .inl c30)), ((r 31), .inl (G.2 0, 2, .inl c31)), ((r 32), .inl (G.2 0, 8, .inl c32)), ((r 33), .inl (G.2 0, 8, .inl c33)), ((r 35), .inl (G.2 2, 260, .inl c35)), ((r 36), .inl (G.2 0, 260, .inl c36)), ((r 37), .inl (G.2 0, 260, .inl c37)), ((r 38), .inl (G.2 0, 260, .inl c38)), ((r 39), .inl (G.2 0, 260, .inl c39)), ((r 41), .inl (G.2 0, 840, .inl c41)), ((r 42), .inl (G.2 0, 840, .inl c42)), ((r 45), .inl (G.2 0, 9, .inl c45)), ((r 46), .inl (G.2 0, 400, .inl c46)), ((r 48), .inl (G.2 0, 71, .inl c48)), ((r 49), .inl (G.2 0, 71, .inl c49)), ((r 52), .inl (G.2 0, 6, .inl c52))] (fun rr u => ∃ (rv : Int32), ∃ (k47 : Int32), ∃ (k50 : Int32), ∃ (k51 : Int32), ∃ (d45 : Nat → Int32), ∃ (d46 : Nat → Int32), ∃ (d49 : Nat → Int32), ∃ (d52 : Nat → Int32), rr = some (.int rv) ∧ u = [((r 0), .inr (10, (zz_mo r [(0, j0), (2, j2), (4, j4), (10, j10), (11, j11), (12, j12), (13, j13), (14, j14), (15, j15), (16, j16), (17, j17), (18, (nI lv)), (19, j19), (20, j20), (34, j34), (40, j40), (44, j44), (47, k47), (50, k50), (51, k51), (56, j56), (61, j61)]))), ((r 22), .inl (G.2 0, 2, .inl c22)), ((r 24), .inl (G.2 0, 14, .inl c24)), ((r 25), .inl (G.2 0, 14, .inl c25)), ((r 26), .inl (G.2 0, 2, .inl c26)), ((r 28), .inl (G.2 0, 12, .inl c28)), ((r 29), .inl (G.2 0, 12, .inl c29)), ((r 30), .inl (G.2 0, 2, .inl c30)), ((r 31), .inl (G.2 0, 2, .inl c31)), ((r 32), .inl (G.2 0, 8, .inl c32)), ((r 33), .inl (G.2 0, 8, .inl c33)), ((r 35), .inl (G.2 2, 260, .inl c35)), ((r 36), .inl (G.2 0, 260, .inl c36)), ((r 37), .inl (G.2 0, 260, .inl c37)), ((r 38), .inl (G.2 0, 260, .inl c38)), ((r 39), .inl (G.2 0, 260, .inl c39)), ((r 41), .inl (G.2 0, 840, .inl c41)), ((r 42), .inl (G.2 0, 840, .inl c42)), ((r 45), .inl (G.2 0, 9, .inl d45)), ((r 46), .inl (G.2 0, 400, .inl d46)), ((r 48), .inl (G.2 0, 71, .inl c48)), ((r 49), .inl (G.2 0, 71, .inl d49)), ((r 52), .inl (G.2 0, 6, .inl d52))] ∧ (zA (zz_In pp ar1 ∧ zz_In 7 ar2) (∃ a : Nat, a < pp ∧ ar1 = nI a ∧ ∃ τ C, zy_q 71 c48 τ ∧ zr_FX (zr_HD lv c32 c33 c35 c36 c37 c38 c39 c41 c42 (c30 lv)) (fun Λ => zr_Sx 99 lv τ c24 c28 c25 c29 (Λ 0)) (fun a => τ (14 + a) = 1) (c30 lv) pp pq C ∧ ((ar2 = nI 0 ∧ rv = τ a) ∨ (ar2 = nI 1 ∧ rv = c24 (7 * lv + a)) ∨ (ar2 = nI 2 ∧ rv = c25 (7 * lv + a)) ∨ (ar2 = nI 3 ∧ rv = τ (7 + a)) ∨ (ar2 = nI 4 ∧ rv = τ (14 + a)) ∨ (ar2 = nI 5 ∧ zA_cf C pq (nI a) rv) ∨ (ar2 = nI 6 ∧ rv = zS (fun p => c48 (27 + 6 * a + p)) 6))) rv (-1)) ∧ (∀ j, j < 6 → zz_ok 7 (d52 j))) := by
  refine zz_enteri (by decide +kernel) (Nat.le_of_ble_eq_true rfl) ?_
  intro p e s m args below meth c A Q ls S hnm hret hw hl
  have hl : lv_has ls 3 [(0, .ref (r 0)), (1, .int ar1), (2, .int ar2)] := hl
  have hx := S.1
  have hb := S.2.1
  refine lv_aload_n hx hb dX10_person_0 rfl (lv_at hl 0 rfl) ?_
  refine lv_iload_n hx hb dX10_person_1 rfl (lv_at hl 1 rfl) ?_
  refine zz_callV (qb := 0) (As := [.int ar1]) (rest := []) (wr := [((r 24), .inl (G.2 0, 14, .inl c24)), ((r 25), .inl (G.2 0, 14, .inl c25)), ((r 26), .inl (G.2 0, 2, .inl c26)), ((r 28), .inl (G.2 0, 12, .inl c28)), ((r 29), .inl (G.2 0, 12, .inl c29)), ((r 30), .inl (G.2 0, 2, .inl c30)), ((r 31), .inl (G.2 0, 2, .inl c31)), ((r 32), .inl (G.2 0, 8, .inl c32)), ((r 33), .inl (G.2 0, 8, .inl c33)), ((r 35), .inl (G.2 2, 260, .inl c35)), ((r 36), .inl (G.2 0, 260, .inl c36)), ((r 37), .inl (G.2 0, 260, .inl c37)), ((r 38), .inl (G.2 0, 260, .inl c38)), ((r 39), .inl (G.2 0, 260, .inl c39)), ((r 41), .inl (G.2 0, 840, .inl c41)), ((r 42), .inl (G.2 0, 840, .inl c42)), ((r 45), .inl (G.2 0, 9, .inl c45)), ((r 46), .inl (G.2 0, 400, .inl c46)), ((r 48), .inl (G.2 0, 71, .inl c48)), ((r 49), .inl (G.2 0, 71, .inl c49)), ((r 52), .inl (G.2 0, 6, .inl c52))]) S hw hl.1 lX10_373 (c_x_isPerson l G r j0 j2 j4 j10 j11 j12 j13 j14 j15 j16 j17 j19 j20 j34 j40 j44 j47 j50 j51 j56 j61 lv pp c22 ar1 (by first | assumption | omega | exact Or.inr ⟨_, by omega, rfl⟩ | (unfold zz_sok; decide) | decide | exact (fun j hj => (hv7 j hj).1)) (by first | assumption | omega | exact Or.inr ⟨_, by omega, rfl⟩ | (unfold zz_sok; decide) | decide | exact (fun j hj => (hv7 j hj).1)) (by first | assumption | omega | exact Or.inr ⟨_, by omega, rfl⟩ | (unfold zz_sok; decide) | decide | exact (fun j hj => (hv7 j hj).1))) ⟨Nat.le_of_ble_eq_true rfl, Nat.le_of_ble_eq_true rfl⟩ ⟨Nat.le_of_ble_eq_true rfl, Nat.le_of_ble_eq_true rfl⟩ [0, 1] [2, 3, 4, 5, 6, 7, 8, 9, 10, 11, 12, 13, 14, 15, 16, 17, 18, 19, 20, 21, 22] (by decide +kernel) rfl rfl (by decide +kernel) (by decide +kernel) rfl rfl rfl rfl (Nat.le_of_ble_eq_true rfl) dX10_person_2 ?_
  clear hw
  intro rr u H locs hp hw
  refine hp.elim fun rv_1 zg0 => zg0.elim fun zee1 zg1 => zg1.elim fun zee2 zg2 => zg2.elim fun hq2_0 zg3 => zg3.elim fun hq2_1 hq2_2 => ?_
  clear hp zg0 zg1 zg2 zg3
  subst zee1
  subst zee2
  replace hw : zz_w G A s [((r 24), .inl (G.2 0, 14, .inl c24)), ((r 25), .inl (G.2 0, 14, .inl c25)), ((r 26), .inl (G.2 0, 2, .inl c26)), ((r 28), .inl (G.2 0, 12, .inl c28)), ((r 29), .inl (G.2 0, 12, .inl c29)), ((r 30), .inl (G.2 0, 2, .inl c30)), ((r 31), .inl (G.2 0, 2, .inl c31)), ((r 32), .inl (G.2 0, 8, .inl c32)), ((r 33), .inl (G.2 0, 8, .inl c33)), ((r 35), .inl (G.2 2, 260, .inl c35)), ((r 36), .inl (G.2 0, 260, .inl c36)), ((r 37), .inl (G.2 0, 260, .inl c37)), ((r 38), .inl (G.2 0, 260, .inl c38)), ((r 39), .inl (G.2 0, 260, .inl c39)), ((r 41), .inl (G.2 0, 840, .inl c41)), ((r 42), .inl (G.2 0, 840, .inl c42)), ((r 45), .inl (G.2 0, 9, .inl c45)), ((r 46), .inl (G.2 0, 400, .inl c46)), ((r 48), .inl (G.2 0, 71, .inl c48)), ((r 49), .inl (G.2 0, 71, .inl c49)), ((r 52), .inl (G.2 0, 6, .inl c52)), ((r 0), .inr (10, (zz_mo r [(0, j0), (2, j2), (4, j4), (10, j10), (11, j11), (12, j12), (13, j13), (14, j14), (15, j15), (16, j16), (17, j17), (18, (nI lv)), (19, j19), (20, j20), (34, j34), (40, j40), (44, j44), (47, j47), (50, j50), (51, j51), (56, j56), (61, j61)]))), ((r 22), .inl (G.2 0, 2, .inl c22))] H _ := hw
  refine W.eq (g2 := F0 m 5 ls [.int rv_1]) rfl ?_
  refine lv_if_ne (tgt := 10) hx hb dX10_person_5 (by decide) (fun c5_2 => ?_) (fun c5_2 => ?_)
  · skip
    obtain ⟨vq3, hvq3, rfl⟩ := hq2_0.resolve_left c5_2
    refine lv_aload_n hx hb dX10_person_10 rfl (lv_at hl 0 rfl) ?_
    refine zz_callV (qb := 21) (As := []) (rest := []) (wr := [((r 24), .inl (G.2 0, 14, .inl c24)), ((r 25), .inl (G.2 0, 14, .inl c25)), ((r 26), .inl (G.2 0, 2, .inl c26)), ((r 28), .inl (G.2 0, 12, .inl c28)), ((r 29), .inl (G.2 0, 12, .inl c29)), ((r 30), .inl (G.2 0, 2, .inl c30)), ((r 32), .inl (G.2 0, 8, .inl c32)), ((r 33), .inl (G.2 0, 8, .inl c33)), ((r 35), .inl (G.2 2, 260, .inl c35)), ((r 36), .inl (G.2 0, 260, .inl c36)), ((r 37), .inl (G.2 0, 260, .inl c37)), ((r 38), .inl (G.2 0, 260, .inl c38)), ((r 39), .inl (G.2 0, 260, .inl c39)), ((r 41), .inl (G.2 0, 840, .inl c41)), ((r 42), .inl (G.2 0, 840, .inl c42)), ((r 45), .inl (G.2 0, 9, .inl c45)), ((r 46), .inl (G.2 0, 400, .inl c46)), ((r 52), .inl (G.2 0, 6, .inl c52)), ((r 22), .inl (G.2 0, 2, .inl c22))]) S hw hl.1 lX10_323 (c_x_copies l G r j0 j2 j4 j10 j11 j12 j13 j14 j15 j16 j17 j19 j20 j34 j40 j44 j47 j50 j51 j56 j61 lv c31 c48 c49 (by first | assumption | omega | exact Or.inr ⟨_, by omega, rfl⟩ | (unfold zz_sok; decide) | decide | exact (fun j hj => (hv7 j hj).1))) ⟨Nat.le_of_ble_eq_true rfl, Nat.le_of_ble_eq_true rfl⟩ ⟨Nat.le_of_ble_eq_true rfl, Nat.le_of_ble_eq_true rfl⟩ [21, 6, 18, 19] [0, 1, 2, 3, 4, 5, 7, 8, 9, 10, 11, 12, 13, 14, 15, 16, 17, 20, 22] (by decide +kernel) rfl rfl (by decide +kernel) (by decide +kernel) rfl rfl rfl rfl (Nat.le_of_ble_eq_true rfl) dX10_person_11 ?_
    clear hw
    intro rr u H locs hp hw
    refine hp.elim fun k50_4 zg0 => zg0.elim fun k51_5 zg1 => zg1.elim fun d49_6 zg2 => zg2.elim fun zee1 zg3 => zg3.elim fun zee2 zg4 => zg4.elim fun hq11_0 zg5 => zg5.elim fun hq11_1 hq11_2 => ?_
    clear hp zg0 zg1 zg2 zg3 zg4 zg5
    subst zee1
    subst zee2
    replace hw : zz_w G A s [((r 24), .inl (G.2 0, 14, .inl c24)), ((r 25), .inl (G.2 0, 14, .inl c25)), ((r 26), .inl (G.2 0, 2, .inl c26)), ((r 28), .inl (G.2 0, 12, .inl c28)), ((r 29), .inl (G.2 0, 12, .inl c29)), ((r 30), .inl (G.2 0, 2, .inl c30)), ((r 32), .inl (G.2 0, 8, .inl c32)), ((r 33), .inl (G.2 0, 8, .inl c33)), ((r 35), .inl (G.2 2, 260, .inl c35)), ((r 36), .inl (G.2 0, 260, .inl c36)), ((r 37), .inl (G.2 0, 260, .inl c37)), ((r 38), .inl (G.2 0, 260, .inl c38)), ((r 39), .inl (G.2 0, 260, .inl c39)), ((r 41), .inl (G.2 0, 840, .inl c41)), ((r 42), .inl (G.2 0, 840, .inl c42)), ((r 45), .inl (G.2 0, 9, .inl c45)), ((r 46), .inl (G.2 0, 400, .inl c46)), ((r 52), .inl (G.2 0, 6, .inl c52)), ((r 22), .inl (G.2 0, 2, .inl c22)), ((r 0), .inr (10, (zz_mo r [(0, j0), (2, j2), (4, j4), (10, j10), (11, j11), (12, j12), (13, j13), (14, j14), (15, j15), (16, j16), (17, j17), (18, (nI lv)), (19, j19), (20, j20), (34, j34), (40, j40), (44, j44), (47, j47), (50, k50_4), (51, k51_5), (56, j56), (61, j61)]))), ((r 31), .inl (G.2 0, 2, .inl c31)), ((r 48), .inl (G.2 0, 71, .inl c48)), ((r 49), .inl (G.2 0, 71, .inl d49_6))] H _ := hw
    refine W.eq (g2 := F0 m 14 ls []) rfl ?_
    refine lv_aload_n hx hb dX10_person_14 rfl (lv_at hl 0 rfl) ?_
    refine zz_callV (qb := 19) (As := []) (rest := []) (wr := [((r 31), .inl (G.2 0, 2, .inl c31)), ((r 48), .inl (G.2 0, 71, .inl c48))]) S hw hl.1 lX10_351 (c_x_casts l G r j0 j2 j4 j10 j11 j12 j13 j14 j15 j16 j17 j19 j20 j34 j40 j44 j47 k50_4 k51_5 j56 j61 lv pp pq c22 c24 c25 c26 c28 c29 c30 c32 c33 c35 c36 c37 c38 c39 c41 c42 c45 c46 d49_6 c52 (by first | assumption | omega | exact Or.inr ⟨_, by omega, rfl⟩ | (unfold zz_sok; decide) | decide | exact (fun j hj => (hv7 j hj).1)) (by first | assumption | omega | exact Or.inr ⟨_, by omega, rfl⟩ | (unfold zz_sok; decide) | decide | exact (fun j hj => (hv7 j hj).1)) (by first | assumption | omega | exact Or.inr ⟨_, by omega, rfl⟩ | (unfold zz_sok; decide) | decide | exact (fun j hj => (hv7 j hj).1)) (by first | assumption | omega | exact Or.inr ⟨_, by omega, rfl⟩ | (unfold zz_sok; decide) | decide | exact (fun j hj => (hv7 j hj).1)) (by first | assumption | omega | exact Or.inr ⟨_, by omega, rfl⟩ | (unfold zz_sok; decide) | decide | exact (fun j hj => (hv7 j hj).1)) (by first | assumption | omega | exact Or.inr ⟨_, by omega, rfl⟩ | (unfold zz_sok; decide) | decide | exact (fun j hj => (hv7 j hj).1)) (by first | assumption | omega | exact Or.inr ⟨_, by omega, rfl⟩ | (unfold zz_sok; decide) | decide | exact (fun j hj => (hv7 j hj).1))) ⟨Nat.le_of_ble_eq_true rfl, Nat.le_of_ble_eq_true rfl⟩ ⟨Nat.le_of_ble_eq_true rfl, Nat.le_of_ble_eq_true rfl⟩ [19, 18, 0, 1, 2, 3, 4, 5, 6, 7, 8, 9, 10, 11, 12, 13, 14, 15, 16, 22, 17] [20, 21] (by decide +kernel) rfl rfl (by decide +kernel) (by decide +kernel) rfl rfl rfl rfl (Nat.le_of_ble_eq_true rfl) dX10_person_15 ?_
    clear hw
    intro rr u H locs hp hw
    refine hp.elim fun k47_7 zg0 => zg0.elim fun d45_8 zg1 => zg1.elim fun d46_9 zg2 => zg2.elim fun d52_10 zg3 => zg3.elim fun zee1 zg4 => zg4.elim fun zee2 zg5 => zg5.elim fun hq15_0 hq15_1 => ?_
    clear hp zg0 zg1 zg2 zg3 zg4 zg5
    subst zee1
    subst zee2
    replace hw : zz_w G A s [((r 31), .inl (G.2 0, 2, .inl c31)), ((r 48), .inl (G.2 0, 71, .inl c48)), ((r 0), .inr (10, (zz_mo r [(0, j0), (2, j2), (4, j4), (10, j10), (11, j11), (12, j12), (13, j13), (14, j14), (15, j15), (16, j16), (17, j17), (18, (nI lv)), (19, j19), (20, j20), (34, j34), (40, j40), (44, j44), (47, k47_7), (50, k50_4), (51, k51_5), (56, j56), (61, j61)]))), ((r 22), .inl (G.2 0, 2, .inl c22)), ((r 24), .inl (G.2 0, 14, .inl c24)), ((r 25), .inl (G.2 0, 14, .inl c25)), ((r 26), .inl (G.2 0, 2, .inl c26)), ((r 28), .inl (G.2 0, 12, .inl c28)), ((r 29), .inl (G.2 0, 12, .inl c29)), ((r 30), .inl (G.2 0, 2, .inl c30)), ((r 32), .inl (G.2 0, 8, .inl c32)), ((r 33), .inl (G.2 0, 8, .inl c33)), ((r 35), .inl (G.2 2, 260, .inl c35)), ((r 36), .inl (G.2 0, 260, .inl c36)), ((r 37), .inl (G.2 0, 260, .inl c37)), ((r 38), .inl (G.2 0, 260, .inl c38)), ((r 39), .inl (G.2 0, 260, .inl c39)), ((r 41), .inl (G.2 0, 840, .inl c41)), ((r 42), .inl (G.2 0, 840, .inl c42)), ((r 45), .inl (G.2 0, 9, .inl d45_8)), ((r 46), .inl (G.2 0, 400, .inl d46_9)), ((r 49), .inl (G.2 0, 71, .inl d49_6)), ((r 52), .inl (G.2 0, 6, .inl d52_10))] H _ := hw
    refine W.eq (g2 := F0 m 18 ls []) rfl ?_
    refine lv_iload_n hx hb dX10_person_18 rfl (lv_at hl 2 rfl) ?_
    rcases zz_sw ar2 0 6 (by decide) (by decide) with hw11 | hw11
    · skip
      refine lv_tableOut (tgt := 129) hx hb dX10_person_19 hw11 (by decide) ?_
      refine lv_iconst (v := (-1)) hx hb dX10_person_129 (by decide) ?_
      exact hret _ _ _ _ _ _ ⟨(-1), k47_7, k50_4, k51_5, d45_8, d46_9, d49_6, d52_10, rfl, rfl, (by first | exact zA0 (fun z => hq2_1 (by assumption) z.1) | exact zA0 (fun z => zA_o (n := 7) (hi := 6) (by decide) (by decide) (by assumption) z.2) | exact zA_pe (by assumption) (by decide) (zA_i.1 (by assumption)) ⟨_, _, hq11_0, hq15_0, Or.inl (⟨zA_i.1 (by assumption), rfl⟩)⟩ | exact zA_pe (by assumption) (by decide) (zA_i.2.1 (by assumption)) ⟨_, _, hq11_0, hq15_0, Or.inr (Or.inl (⟨zA_i.2.1 (by assumption), rfl⟩))⟩ | exact zA_pe (by assumption) (by decide) (zA_i.2.2.1 (by assumption)) ⟨_, _, hq11_0, hq15_0, Or.inr (Or.inr (Or.inl (⟨zA_i.2.2.1 (by assumption), rfl⟩)))⟩ | exact zA_pe (by assumption) (by decide) (zA_i.2.2.2.1 (by assumption)) ⟨_, _, hq11_0, hq15_0, Or.inr (Or.inr (Or.inr (Or.inl (⟨zA_i.2.2.2.1 (by assumption), rfl⟩))))⟩ | exact zA_pe (by assumption) (by decide) (zA_i.2.2.2.2.1 (by assumption)) ⟨_, _, hq11_0, hq15_0, Or.inr (Or.inr (Or.inr (Or.inr (Or.inl (⟨zA_i.2.2.2.2.1 (by assumption), rfl⟩)))))⟩ | exact zA_pe (by assumption) (by decide) (zA_i.2.2.2.2.2.1 (by assumption)) ⟨_, _, hq11_0, hq15_0, Or.inr (Or.inr (Or.inr (Or.inr (Or.inr (Or.inl (⟨zA_i.2.2.2.2.2.1 (by assumption), hq119_1⟩))))))⟩ | exact zA_pe (by assumption) (by decide) (zA_i.2.2.2.2.2.2 (by assumption)) ⟨_, _, hq11_0, hq15_0, Or.inr (Or.inr (Or.inr (Or.inr (Or.inr (Or.inr (⟨zA_i.2.2.2.2.2.2 (by assumption), hq125_0⟩))))))⟩), (by first | assumption | exact Or.inl rfl | exact Or.inr rfl | omega | exact Or.inr (by assumption) | exact zz_oku (by assumption) (by first | exact Or.inl rfl | exact Or.inr ⟨_, by omega, rfl⟩))⟩ (hw.sub [2, 3, 4, 5, 6, 7, 8, 9, 0, 10, 11, 12, 13, 14, 15, 16, 17, 18, 19, 20, 1, 21, 22] (by decide +kernel) rfl) rfl dX10_person_130
    · rcases (show (ar2 : Int32).toInt = 0 ∨ (ar2 : Int32).toInt = 1 ∨ (ar2 : Int32).toInt = 2 ∨ (ar2 : Int32).toInt = 3 ∨ (ar2 : Int32).toInt = 4 ∨ (ar2 : Int32).toInt = 5 ∨ (ar2 : Int32).toInt = 6 by omega) with qw11 | qw11 | qw11 | qw11 | qw11 | qw11 | qw11
      · skip
        refine lv_tableIn (off := 41) (tgt := 60) hx hb dX10_person_19 (by rw [qw11]; decide) (by rw [qw11]; decide) (by rw [qw11]; rfl) (by decide) ?_
        refine lv_aload_n hx hb dX10_person_60 rfl (lv_at hl 0 rfl) ?_
        refine zz_get (v := .ref (r 49)) S hw fgX10_113 2 rfl rfl dX10_person_61 ?_
        refine lv_iload_n hx hb dX10_person_64 rfl (lv_at hl 1 rfl) ?_
        refine zz_iald (v := (d49_6 vq3)) S hw 21 rfl (vp_in_nI (n := vq3) (by omega) (by decide)) (congrArg d49_6 (nI_clamp (n := vq3) (by omega))) dX10_person_65 ?_
        exact hret _ _ _ _ _ _ ⟨(d49_6 vq3), k47_7, k50_4, k51_5, d45_8, d46_9, d49_6, d52_10, rfl, rfl, (by first | exact zA0 (fun z => hq2_1 (by assumption) z.1) | exact zA0 (fun z => zA_o (n := 7) (hi := 6) (by decide) (by decide) (by assumption) z.2) | exact zA_pe (by assumption) (by decide) (zA_i.1 (by assumption)) ⟨_, _, hq11_0, hq15_0, Or.inl (⟨zA_i.1 (by assumption), rfl⟩)⟩ | exact zA_pe (by assumption) (by decide) (zA_i.2.1 (by assumption)) ⟨_, _, hq11_0, hq15_0, Or.inr (Or.inl (⟨zA_i.2.1 (by assumption), rfl⟩))⟩ | exact zA_pe (by assumption) (by decide) (zA_i.2.2.1 (by assumption)) ⟨_, _, hq11_0, hq15_0, Or.inr (Or.inr (Or.inl (⟨zA_i.2.2.1 (by assumption), rfl⟩)))⟩ | exact zA_pe (by assumption) (by decide) (zA_i.2.2.2.1 (by assumption)) ⟨_, _, hq11_0, hq15_0, Or.inr (Or.inr (Or.inr (Or.inl (⟨zA_i.2.2.2.1 (by assumption), rfl⟩))))⟩ | exact zA_pe (by assumption) (by decide) (zA_i.2.2.2.2.1 (by assumption)) ⟨_, _, hq11_0, hq15_0, Or.inr (Or.inr (Or.inr (Or.inr (Or.inl (⟨zA_i.2.2.2.2.1 (by assumption), rfl⟩)))))⟩ | exact zA_pe (by assumption) (by decide) (zA_i.2.2.2.2.2.1 (by assumption)) ⟨_, _, hq11_0, hq15_0, Or.inr (Or.inr (Or.inr (Or.inr (Or.inr (Or.inl (⟨zA_i.2.2.2.2.2.1 (by assumption), hq119_1⟩))))))⟩ | exact zA_pe (by assumption) (by decide) (zA_i.2.2.2.2.2.2 (by assumption)) ⟨_, _, hq11_0, hq15_0, Or.inr (Or.inr (Or.inr (Or.inr (Or.inr (Or.inr (⟨zA_i.2.2.2.2.2.2 (by assumption), hq125_0⟩))))))⟩), (by first | assumption | exact Or.inl rfl | exact Or.inr rfl | omega | exact Or.inr (by assumption) | exact zz_oku (by assumption) (by first | exact Or.inl rfl | exact Or.inr ⟨_, by omega, rfl⟩))⟩ (hw.sub [2, 3, 4, 5, 6, 7, 8, 9, 0, 10, 11, 12, 13, 14, 15, 16, 17, 18, 19, 20, 1, 21, 22] (by decide +kernel) rfl) rfl dX10_person_66
      · skip
        refine lv_tableIn (off := 48) (tgt := 67) hx hb dX10_person_19 (by rw [qw11]; decide) (by rw [qw11]; decide) (by rw [qw11]; rfl) (by decide) ?_
        refine lv_aload_n hx hb dX10_person_67 rfl (lv_at hl 0 rfl) ?_
        refine W.eq (g2 := F0 m 68 ls [.ref (r 0)]) rfl ?_
        refine zz_get (v := .ref (r 24)) S hw fgX10_49 2 rfl rfl dX10_person_68 ?_
        refine lv_bipush (v := 7) hx hb dX10_person_71 (by decide) ?_
        refine lv_aload_n hx hb dX10_person_73 rfl (lv_at hl 0 rfl) ?_
        refine zz_get (v := .int (nI lv)) S hw fgX10_236 2 rfl rfl dX10_person_74 ?_
        refine lv_imul hx hb dX10_person_77 ?_
        refine zz_topi (y := (nI (7 * lv))) (pk_mul _ _) ?_
        refine lv_iload_n hx hb dX10_person_78 rfl (lv_at hl 1 rfl) ?_
        refine lv_iadd hx hb dX10_person_79 ?_
        refine zz_topi (y := (nI ((7 * lv) + vq3))) (nI_add _ _) ?_
        refine zz_iald (v := (c24 ((7 * lv) + vq3))) S hw 4 rfl (vp_in_nI (n := ((7 * lv) + vq3)) (by omega) (by decide)) (congrArg c24 (nI_clamp (n := ((7 * lv) + vq3)) (by omega))) dX10_person_80 ?_
        exact hret _ _ _ _ _ _ ⟨(c24 ((7 * lv) + vq3)), k47_7, k50_4, k51_5, d45_8, d46_9, d49_6, d52_10, rfl, rfl, (by first | exact zA0 (fun z => hq2_1 (by assumption) z.1) | exact zA0 (fun z => zA_o (n := 7) (hi := 6) (by decide) (by decide) (by assumption) z.2) | exact zA_pe (by assumption) (by decide) (zA_i.1 (by assumption)) ⟨_, _, hq11_0, hq15_0, Or.inl (⟨zA_i.1 (by assumption), rfl⟩)⟩ | exact zA_pe (by assumption) (by decide) (zA_i.2.1 (by assumption)) ⟨_, _, hq11_0, hq15_0, Or.inr (Or.inl (⟨zA_i.2.1 (by assumption), rfl⟩))⟩ | exact zA_pe (by assumption) (by decide) (zA_i.2.2.1 (by assumption)) ⟨_, _, hq11_0, hq15_0, Or.inr (Or.inr (Or.inl (⟨zA_i.2.2.1 (by assumption), rfl⟩)))⟩ | exact zA_pe (by assumption) (by decide) (zA_i.2.2.2.1 (by assumption)) ⟨_, _, hq11_0, hq15_0, Or.inr (Or.inr (Or.inr (Or.inl (⟨zA_i.2.2.2.1 (by assumption), rfl⟩))))⟩ | exact zA_pe (by assumption) (by decide) (zA_i.2.2.2.2.1 (by assumption)) ⟨_, _, hq11_0, hq15_0, Or.inr (Or.inr (Or.inr (Or.inr (Or.inl (⟨zA_i.2.2.2.2.1 (by assumption), rfl⟩)))))⟩ | exact zA_pe (by assumption) (by decide) (zA_i.2.2.2.2.2.1 (by assumption)) ⟨_, _, hq11_0, hq15_0, Or.inr (Or.inr (Or.inr (Or.inr (Or.inr (Or.inl (⟨zA_i.2.2.2.2.2.1 (by assumption), hq119_1⟩))))))⟩ | exact zA_pe (by assumption) (by decide) (zA_i.2.2.2.2.2.2 (by assumption)) ⟨_, _, hq11_0, hq15_0, Or.inr (Or.inr (Or.inr (Or.inr (Or.inr (Or.inr (⟨zA_i.2.2.2.2.2.2 (by assumption), hq125_0⟩))))))⟩), (by first | assumption | exact Or.inl rfl | exact Or.inr rfl | omega | exact Or.inr (by assumption) | exact zz_oku (by assumption) (by first | exact Or.inl rfl | exact Or.inr ⟨_, by omega, rfl⟩))⟩ (hw.sub [2, 3, 4, 5, 6, 7, 8, 9, 0, 10, 11, 12, 13, 14, 15, 16, 17, 18, 19, 20, 1, 21, 22] (by decide +kernel) rfl) rfl dX10_person_81
      · skip
        refine lv_tableIn (off := 63) (tgt := 82) hx hb dX10_person_19 (by rw [qw11]; decide) (by rw [qw11]; decide) (by rw [qw11]; rfl) (by decide) ?_
        refine lv_aload_n hx hb dX10_person_82 rfl (lv_at hl 0 rfl) ?_
        refine zz_get (v := .ref (r 25)) S hw fgX10_52 2 rfl rfl dX10_person_83 ?_
        refine lv_bipush (v := 7) hx hb dX10_person_86 (by decide) ?_
        refine lv_aload_n hx hb dX10_person_88 rfl (lv_at hl 0 rfl) ?_
        refine zz_get (v := .int (nI lv)) S hw fgX10_236 2 rfl rfl dX10_person_89 ?_
        refine lv_imul hx hb dX10_person_92 ?_
        refine zz_topi (y := (nI (7 * lv))) (pk_mul _ _) ?_
        refine W.eq (g2 := F0 m 93 ls [.int (nI (7 * lv)), .ref (r 25)]) rfl ?_
        refine lv_iload_n hx hb dX10_person_93 rfl (lv_at hl 1 rfl) ?_
        refine lv_iadd hx hb dX10_person_94 ?_
        refine zz_topi (y := (nI ((7 * lv) + vq3))) (nI_add _ _) ?_
        refine zz_iald (v := (c25 ((7 * lv) + vq3))) S hw 5 rfl (vp_in_nI (n := ((7 * lv) + vq3)) (by omega) (by decide)) (congrArg c25 (nI_clamp (n := ((7 * lv) + vq3)) (by omega))) dX10_person_95 ?_
        exact hret _ _ _ _ _ _ ⟨(c25 ((7 * lv) + vq3)), k47_7, k50_4, k51_5, d45_8, d46_9, d49_6, d52_10, rfl, rfl, (by first | exact zA0 (fun z => hq2_1 (by assumption) z.1) | exact zA0 (fun z => zA_o (n := 7) (hi := 6) (by decide) (by decide) (by assumption) z.2) | exact zA_pe (by assumption) (by decide) (zA_i.1 (by assumption)) ⟨_, _, hq11_0, hq15_0, Or.inl (⟨zA_i.1 (by assumption), rfl⟩)⟩ | exact zA_pe (by assumption) (by decide) (zA_i.2.1 (by assumption)) ⟨_, _, hq11_0, hq15_0, Or.inr (Or.inl (⟨zA_i.2.1 (by assumption), rfl⟩))⟩ | exact zA_pe (by assumption) (by decide) (zA_i.2.2.1 (by assumption)) ⟨_, _, hq11_0, hq15_0, Or.inr (Or.inr (Or.inl (⟨zA_i.2.2.1 (by assumption), rfl⟩)))⟩ | exact zA_pe (by assumption) (by decide) (zA_i.2.2.2.1 (by assumption)) ⟨_, _, hq11_0, hq15_0, Or.inr (Or.inr (Or.inr (Or.inl (⟨zA_i.2.2.2.1 (by assumption), rfl⟩))))⟩ | exact zA_pe (by assumption) (by decide) (zA_i.2.2.2.2.1 (by assumption)) ⟨_, _, hq11_0, hq15_0, Or.inr (Or.inr (Or.inr (Or.inr (Or.inl (⟨zA_i.2.2.2.2.1 (by assumption), rfl⟩)))))⟩ | exact zA_pe (by assumption) (by decide) (zA_i.2.2.2.2.2.1 (by assumption)) ⟨_, _, hq11_0, hq15_0, Or.inr (Or.inr (Or.inr (Or.inr (Or.inr (Or.inl (⟨zA_i.2.2.2.2.2.1 (by assumption), hq119_1⟩))))))⟩ | exact zA_pe (by assumption) (by decide) (zA_i.2.2.2.2.2.2 (by assumption)) ⟨_, _, hq11_0, hq15_0, Or.inr (Or.inr (Or.inr (Or.inr (Or.inr (Or.inr (⟨zA_i.2.2.2.2.2.2 (by assumption), hq125_0⟩))))))⟩), (by first | assumption | exact Or.inl rfl | exact Or.inr rfl | omega | exact Or.inr (by assumption) | exact zz_oku (by assumption) (by first | exact Or.inl rfl | exact Or.inr ⟨_, by omega, rfl⟩))⟩ (hw.sub [2, 3, 4, 5, 6, 7, 8, 9, 0, 10, 11, 12, 13, 14, 15, 16, 17, 18, 19, 20, 1, 21, 22] (by decide +kernel) rfl) rfl dX10_person_96
      · skip
        refine lv_tableIn (off := 78) (tgt := 97) hx hb dX10_person_19 (by rw [qw11]; decide) (by rw [qw11]; decide) (by rw [qw11]; rfl) (by decide) ?_
        refine lv_aload_n hx hb dX10_person_97 rfl (lv_at hl 0 rfl) ?_
        refine zz_get (v := .ref (r 49)) S hw fgX10_113 2 rfl rfl dX10_person_98 ?_
        refine lv_bipush (v := 7) hx hb dX10_person_101 (by decide) ?_
        refine lv_iload_n hx hb dX10_person_103 rfl (lv_at hl 1 rfl) ?_
        refine lv_iadd hx hb dX10_person_104 ?_
        refine zz_topi (y := (nI (7 + vq3))) (nI_add _ _) ?_
        refine zz_iald (v := (d49_6 (7 + vq3))) S hw 21 rfl (vp_in_nI (n := (7 + vq3)) (by omega) (by decide)) (congrArg d49_6 (nI_clamp (n := (7 + vq3)) (by omega))) dX10_person_105 ?_
        exact hret _ _ _ _ _ _ ⟨(d49_6 (7 + vq3)), k47_7, k50_4, k51_5, d45_8, d46_9, d49_6, d52_10, rfl, rfl, (by first | exact zA0 (fun z => hq2_1 (by assumption) z.1) | exact zA0 (fun z => zA_o (n := 7) (hi := 6) (by decide) (by decide) (by assumption) z.2) | exact zA_pe (by assumption) (by decide) (zA_i.1 (by assumption)) ⟨_, _, hq11_0, hq15_0, Or.inl (⟨zA_i.1 (by assumption), rfl⟩)⟩ | exact zA_pe (by assumption) (by decide) (zA_i.2.1 (by assumption)) ⟨_, _, hq11_0, hq15_0, Or.inr (Or.inl (⟨zA_i.2.1 (by assumption), rfl⟩))⟩ | exact zA_pe (by assumption) (by decide) (zA_i.2.2.1 (by assumption)) ⟨_, _, hq11_0, hq15_0, Or.inr (Or.inr (Or.inl (⟨zA_i.2.2.1 (by assumption), rfl⟩)))⟩ | exact zA_pe (by assumption) (by decide) (zA_i.2.2.2.1 (by assumption)) ⟨_, _, hq11_0, hq15_0, Or.inr (Or.inr (Or.inr (Or.inl (⟨zA_i.2.2.2.1 (by assumption), rfl⟩))))⟩ | exact zA_pe (by assumption) (by decide) (zA_i.2.2.2.2.1 (by assumption)) ⟨_, _, hq11_0, hq15_0, Or.inr (Or.inr (Or.inr (Or.inr (Or.inl (⟨zA_i.2.2.2.2.1 (by assumption), rfl⟩)))))⟩ | exact zA_pe (by assumption) (by decide) (zA_i.2.2.2.2.2.1 (by assumption)) ⟨_, _, hq11_0, hq15_0, Or.inr (Or.inr (Or.inr (Or.inr (Or.inr (Or.inl (⟨zA_i.2.2.2.2.2.1 (by assumption), hq119_1⟩))))))⟩ | exact zA_pe (by assumption) (by decide) (zA_i.2.2.2.2.2.2 (by assumption)) ⟨_, _, hq11_0, hq15_0, Or.inr (Or.inr (Or.inr (Or.inr (Or.inr (Or.inr (⟨zA_i.2.2.2.2.2.2 (by assumption), hq125_0⟩))))))⟩), (by first | assumption | exact Or.inl rfl | exact Or.inr rfl | omega | exact Or.inr (by assumption) | exact zz_oku (by assumption) (by first | exact Or.inl rfl | exact Or.inr ⟨_, by omega, rfl⟩))⟩ (hw.sub [2, 3, 4, 5, 6, 7, 8, 9, 0, 10, 11, 12, 13, 14, 15, 16, 17, 18, 19, 20, 1, 21, 22] (by decide +kernel) rfl) rfl dX10_person_106
      · skip
        refine lv_tableIn (off := 88) (tgt := 107) hx hb dX10_person_19 (by rw [qw11]; decide) (by rw [qw11]; decide) (by rw [qw11]; rfl) (by decide) ?_
        refine lv_aload_n hx hb dX10_person_107 rfl (lv_at hl 0 rfl) ?_
        refine zz_get (v := .ref (r 49)) S hw fgX10_113 2 rfl rfl dX10_person_108 ?_
        refine lv_bipush (v := 14) hx hb dX10_person_111 (by decide) ?_
        refine lv_iload_n hx hb dX10_person_113 rfl (lv_at hl 1 rfl) ?_
        refine lv_iadd hx hb dX10_person_114 ?_
        refine zz_topi (y := (nI (14 + vq3))) (nI_add _ _) ?_
        refine W.eq (g2 := F0 m 115 ls [.int (nI (14 + vq3)), .ref (r 49)]) rfl ?_
        refine zz_iald (v := (d49_6 (14 + vq3))) S hw 21 rfl (vp_in_nI (n := (14 + vq3)) (by omega) (by decide)) (congrArg d49_6 (nI_clamp (n := (14 + vq3)) (by omega))) dX10_person_115 ?_
        exact hret _ _ _ _ _ _ ⟨(d49_6 (14 + vq3)), k47_7, k50_4, k51_5, d45_8, d46_9, d49_6, d52_10, rfl, rfl, (by first | exact zA0 (fun z => hq2_1 (by assumption) z.1) | exact zA0 (fun z => zA_o (n := 7) (hi := 6) (by decide) (by decide) (by assumption) z.2) | exact zA_pe (by assumption) (by decide) (zA_i.1 (by assumption)) ⟨_, _, hq11_0, hq15_0, Or.inl (⟨zA_i.1 (by assumption), rfl⟩)⟩ | exact zA_pe (by assumption) (by decide) (zA_i.2.1 (by assumption)) ⟨_, _, hq11_0, hq15_0, Or.inr (Or.inl (⟨zA_i.2.1 (by assumption), rfl⟩))⟩ | exact zA_pe (by assumption) (by decide) (zA_i.2.2.1 (by assumption)) ⟨_, _, hq11_0, hq15_0, Or.inr (Or.inr (Or.inl (⟨zA_i.2.2.1 (by assumption), rfl⟩)))⟩ | exact zA_pe (by assumption) (by decide) (zA_i.2.2.2.1 (by assumption)) ⟨_, _, hq11_0, hq15_0, Or.inr (Or.inr (Or.inr (Or.inl (⟨zA_i.2.2.2.1 (by assumption), rfl⟩))))⟩ | exact zA_pe (by assumption) (by decide) (zA_i.2.2.2.2.1 (by assumption)) ⟨_, _, hq11_0, hq15_0, Or.inr (Or.inr (Or.inr (Or.inr (Or.inl (⟨zA_i.2.2.2.2.1 (by assumption), rfl⟩)))))⟩ | exact zA_pe (by assumption) (by decide) (zA_i.2.2.2.2.2.1 (by assumption)) ⟨_, _, hq11_0, hq15_0, Or.inr (Or.inr (Or.inr (Or.inr (Or.inr (Or.inl (⟨zA_i.2.2.2.2.2.1 (by assumption), hq119_1⟩))))))⟩ | exact zA_pe (by assumption) (by decide) (zA_i.2.2.2.2.2.2 (by assumption)) ⟨_, _, hq11_0, hq15_0, Or.inr (Or.inr (Or.inr (Or.inr (Or.inr (Or.inr (⟨zA_i.2.2.2.2.2.2 (by assumption), hq125_0⟩))))))⟩), (by first | assumption | exact Or.inl rfl | exact Or.inr rfl | omega | exact Or.inr (by assumption) | exact zz_oku (by assumption) (by first | exact Or.inl rfl | exact Or.inr ⟨_, by omega, rfl⟩))⟩ (hw.sub [2, 3, 4, 5, 6, 7, 8, 9, 0, 10, 11, 12, 13, 14, 15, 16, 17, 18, 19, 20, 1, 21, 22] (by decide +kernel) rfl) rfl dX10_person_116
      · skip
        refine lv_tableIn (off := 98) (tgt := 117) hx hb dX10_person_19 (by rw [qw11]; decide) (by rw [qw11]; decide) (by rw [qw11]; rfl) (by decide) ?_
        refine lv_aload_n hx hb dX10_person_117 rfl (lv_at hl 0 rfl) ?_
        refine lv_iload_n hx hb dX10_person_118 rfl (lv_at hl 1 rfl) ?_
        refine zz_callV (qb := 2) (As := [.int (nI vq3)]) (rest := []) (wr := [((r 31), .inl (G.2 0, 2, .inl c31)), ((r 48), .inl (G.2 0, 71, .inl c48)), ((r 22), .inl (G.2 0, 2, .inl c22)), ((r 24), .inl (G.2 0, 14, .inl c24)), ((r 25), .inl (G.2 0, 14, .inl c25)), ((r 28), .inl (G.2 0, 12, .inl c28)), ((r 29), .inl (G.2 0, 12, .inl c29)), ((r 30), .inl (G.2 0, 2, .inl c30)), ((r 32), .inl (G.2 0, 8, .inl c32)), ((r 33), .inl (G.2 0, 8, .inl c33)), ((r 35), .inl (G.2 2, 260, .inl c35)), ((r 36), .inl (G.2 0, 260, .inl c36)), ((r 37), .inl (G.2 0, 260, .inl c37)), ((r 38), .inl (G.2 0, 260, .inl c38)), ((r 39), .inl (G.2 0, 260, .inl c39)), ((r 41), .inl (G.2 0, 840, .inl c41)), ((r 42), .inl (G.2 0, 840, .inl c42)), ((r 45), .inl (G.2 0, 9, .inl d45_8)), ((r 46), .inl (G.2 0, 400, .inl d46_9)), ((r 49), .inl (G.2 0, 71, .inl d49_6))]) S hw hl.1 lX10_376 (c_x_castFor l G r j0 j2 j4 j10 j11 j12 j13 j14 j15 j16 j17 j19 j20 j34 j40 j44 k47_7 k50_4 k51_5 j56 j61 lv pq c26 d52_10 (nI vq3) (by first | assumption | omega | exact Or.inr ⟨_, by omega, rfl⟩ | (unfold zz_sok; decide) | decide | exact (fun j hj => (hv7 j hj).1)) (by first | assumption | omega | exact Or.inr ⟨_, by omega, rfl⟩ | (unfold zz_sok; decide) | decide | exact (fun j hj => (hv7 j hj).1)) (by first | assumption | omega | exact Or.inr ⟨_, by omega, rfl⟩ | (unfold zz_sok; decide) | decide | exact (fun j hj => (hv7 j hj).1)) (by first | assumption | omega | exact Or.inr ⟨_, by omega, rfl⟩ | (unfold zz_sok; decide) | decide | exact (fun j hj => (hv7 j hj).1))) ⟨Nat.le_of_ble_eq_true rfl, Nat.le_of_ble_eq_true rfl⟩ ⟨Nat.le_of_ble_eq_true rfl, Nat.le_of_ble_eq_true rfl⟩ [2, 6, 22] [0, 1, 3, 4, 5, 7, 8, 9, 10, 11, 12, 13, 14, 15, 16, 17, 18, 19, 20, 21] (by decide +kernel) rfl rfl (by decide +kernel) (by decide +kernel) rfl rfl rfl rfl (Nat.le_of_ble_eq_true rfl) dX10_person_119 ?_
        clear hw
        intro rr u H locs hp hw
        refine hp.elim fun rv_12 zg0 => zg0.elim fun zee1 zg1 => zg1.elim fun zee2 zg2 => zg2.elim fun hq119_0 hq119_1 => ?_
        clear hp zg0 zg1 zg2
        subst zee1
        subst zee2
        replace hw : zz_w G A s [((r 31), .inl (G.2 0, 2, .inl c31)), ((r 48), .inl (G.2 0, 71, .inl c48)), ((r 22), .inl (G.2 0, 2, .inl c22)), ((r 24), .inl (G.2 0, 14, .inl c24)), ((r 25), .inl (G.2 0, 14, .inl c25)), ((r 28), .inl (G.2 0, 12, .inl c28)), ((r 29), .inl (G.2 0, 12, .inl c29)), ((r 30), .inl (G.2 0, 2, .inl c30)), ((r 32), .inl (G.2 0, 8, .inl c32)), ((r 33), .inl (G.2 0, 8, .inl c33)), ((r 35), .inl (G.2 2, 260, .inl c35)), ((r 36), .inl (G.2 0, 260, .inl c36)), ((r 37), .inl (G.2 0, 260, .inl c37)), ((r 38), .inl (G.2 0, 260, .inl c38)), ((r 39), .inl (G.2 0, 260, .inl c39)), ((r 41), .inl (G.2 0, 840, .inl c41)), ((r 42), .inl (G.2 0, 840, .inl c42)), ((r 45), .inl (G.2 0, 9, .inl d45_8)), ((r 46), .inl (G.2 0, 400, .inl d46_9)), ((r 49), .inl (G.2 0, 71, .inl d49_6)), ((r 0), .inr (10, (zz_mo r [(0, j0), (2, j2), (4, j4), (10, j10), (11, j11), (12, j12), (13, j13), (14, j14), (15, j15), (16, j16), (17, j17), (18, (nI lv)), (19, j19), (20, j20), (34, j34), (40, j40), (44, j44), (47, k47_7), (50, k50_4), (51, k51_5), (56, j56), (61, j61)]))), ((r 26), .inl (G.2 0, 2, .inl c26)), ((r 52), .inl (G.2 0, 6, .inl d52_10))] H _ := hw
        refine W.eq (g2 := F0 m 122 ls [.int rv_12]) rfl ?_
        exact hret _ _ _ _ _ _ ⟨rv_12, k47_7, k50_4, k51_5, d45_8, d46_9, d49_6, d52_10, rfl, rfl, (by first | exact zA0 (fun z => hq2_1 (by assumption) z.1) | exact zA0 (fun z => zA_o (n := 7) (hi := 6) (by decide) (by decide) (by assumption) z.2) | exact zA_pe (by assumption) (by decide) (zA_i.1 (by assumption)) ⟨_, _, hq11_0, hq15_0, Or.inl (⟨zA_i.1 (by assumption), rfl⟩)⟩ | exact zA_pe (by assumption) (by decide) (zA_i.2.1 (by assumption)) ⟨_, _, hq11_0, hq15_0, Or.inr (Or.inl (⟨zA_i.2.1 (by assumption), rfl⟩))⟩ | exact zA_pe (by assumption) (by decide) (zA_i.2.2.1 (by assumption)) ⟨_, _, hq11_0, hq15_0, Or.inr (Or.inr (Or.inl (⟨zA_i.2.2.1 (by assumption), rfl⟩)))⟩ | exact zA_pe (by assumption) (by decide) (zA_i.2.2.2.1 (by assumption)) ⟨_, _, hq11_0, hq15_0, Or.inr (Or.inr (Or.inr (Or.inl (⟨zA_i.2.2.2.1 (by assumption), rfl⟩))))⟩ | exact zA_pe (by assumption) (by decide) (zA_i.2.2.2.2.1 (by assumption)) ⟨_, _, hq11_0, hq15_0, Or.inr (Or.inr (Or.inr (Or.inr (Or.inl (⟨zA_i.2.2.2.2.1 (by assumption), rfl⟩)))))⟩ | exact zA_pe (by assumption) (by decide) (zA_i.2.2.2.2.2.1 (by assumption)) ⟨_, _, hq11_0, hq15_0, Or.inr (Or.inr (Or.inr (Or.inr (Or.inr (Or.inl (⟨zA_i.2.2.2.2.2.1 (by assumption), hq119_1⟩))))))⟩ | exact zA_pe (by assumption) (by decide) (zA_i.2.2.2.2.2.2 (by assumption)) ⟨_, _, hq11_0, hq15_0, Or.inr (Or.inr (Or.inr (Or.inr (Or.inr (Or.inr (⟨zA_i.2.2.2.2.2.2 (by assumption), hq125_0⟩))))))⟩), (by first | assumption | exact Or.inl rfl | exact Or.inr rfl | omega | exact Or.inr (by assumption) | exact zz_oku (by assumption) (by first | exact Or.inl rfl | exact Or.inr ⟨_, by omega, rfl⟩))⟩ (hw.sub [20, 2, 3, 4, 21, 5, 6, 7, 0, 8, 9, 10, 11, 12, 13, 14, 15, 16, 17, 18, 1, 19, 22] (by decide +kernel) rfl) rfl dX10_person_122
      · skip
        refine lv_tableIn (off := 104) (tgt := 123) hx hb dX10_person_19 (by rw [qw11]; decide) (by rw [qw11]; decide) (by rw [qw11]; rfl) (by decide) ?_
        refine lv_aload_n hx hb dX10_person_123 rfl (lv_at hl 0 rfl) ?_
        refine lv_iload_n hx hb dX10_person_124 rfl (lv_at hl 1 rfl) ?_
        refine zz_callV (qb := 2) (As := [.int (nI vq3)]) (rest := []) (wr := [((r 31), .inl (G.2 0, 2, .inl c31)), ((r 22), .inl (G.2 0, 2, .inl c22)), ((r 24), .inl (G.2 0, 14, .inl c24)), ((r 25), .inl (G.2 0, 14, .inl c25)), ((r 26), .inl (G.2 0, 2, .inl c26)), ((r 28), .inl (G.2 0, 12, .inl c28)), ((r 29), .inl (G.2 0, 12, .inl c29)), ((r 30), .inl (G.2 0, 2, .inl c30)), ((r 32), .inl (G.2 0, 8, .inl c32)), ((r 33), .inl (G.2 0, 8, .inl c33)), ((r 35), .inl (G.2 2, 260, .inl c35)), ((r 36), .inl (G.2 0, 260, .inl c36)), ((r 37), .inl (G.2 0, 260, .inl c37)), ((r 38), .inl (G.2 0, 260, .inl c38)), ((r 39), .inl (G.2 0, 260, .inl c39)), ((r 41), .inl (G.2 0, 840, .inl c41)), ((r 42), .inl (G.2 0, 840, .inl c42)), ((r 45), .inl (G.2 0, 9, .inl d45_8)), ((r 46), .inl (G.2 0, 400, .inl d46_9)), ((r 49), .inl (G.2 0, 71, .inl d49_6)), ((r 52), .inl (G.2 0, 6, .inl d52_10))]) S hw hl.1 lX10_379 (c_x_seenAny l G r j0 j2 j4 j10 j11 j12 j13 j14 j15 j16 j17 (nI lv) j19 j20 j34 j40 j44 k47_7 k50_4 k51_5 j56 j61 c48 vq3 (by first | assumption | omega | exact Or.inr ⟨_, by omega, rfl⟩ | (unfold zz_sok; decide) | decide | exact (fun j hj => (hv7 j hj).1))) ⟨Nat.le_of_ble_eq_true rfl, Nat.le_of_ble_eq_true rfl⟩ ⟨Nat.le_of_ble_eq_true rfl, Nat.le_of_ble_eq_true rfl⟩ [2, 1] [0, 3, 4, 5, 6, 7, 8, 9, 10, 11, 12, 13, 14, 15, 16, 17, 18, 19, 20, 21, 22] (by decide +kernel) rfl rfl (by decide +kernel) (by decide +kernel) rfl rfl rfl rfl (Nat.le_of_ble_eq_true rfl) dX10_person_125 ?_
        clear hw
        intro rr u H locs hp hw
        refine hp.elim fun rv_13 zg0 => zg0.elim fun zee1 zg1 => zg1.elim fun zee2 hq125_0 => ?_
        clear hp zg0 zg1
        subst zee1
        subst zee2
        replace hw : zz_w G A s [((r 31), .inl (G.2 0, 2, .inl c31)), ((r 22), .inl (G.2 0, 2, .inl c22)), ((r 24), .inl (G.2 0, 14, .inl c24)), ((r 25), .inl (G.2 0, 14, .inl c25)), ((r 26), .inl (G.2 0, 2, .inl c26)), ((r 28), .inl (G.2 0, 12, .inl c28)), ((r 29), .inl (G.2 0, 12, .inl c29)), ((r 30), .inl (G.2 0, 2, .inl c30)), ((r 32), .inl (G.2 0, 8, .inl c32)), ((r 33), .inl (G.2 0, 8, .inl c33)), ((r 35), .inl (G.2 2, 260, .inl c35)), ((r 36), .inl (G.2 0, 260, .inl c36)), ((r 37), .inl (G.2 0, 260, .inl c37)), ((r 38), .inl (G.2 0, 260, .inl c38)), ((r 39), .inl (G.2 0, 260, .inl c39)), ((r 41), .inl (G.2 0, 840, .inl c41)), ((r 42), .inl (G.2 0, 840, .inl c42)), ((r 45), .inl (G.2 0, 9, .inl d45_8)), ((r 46), .inl (G.2 0, 400, .inl d46_9)), ((r 49), .inl (G.2 0, 71, .inl d49_6)), ((r 52), .inl (G.2 0, 6, .inl d52_10)), ((r 0), .inr (10, (zz_mo r [(0, j0), (2, j2), (4, j4), (10, j10), (11, j11), (12, j12), (13, j13), (14, j14), (15, j15), (16, j16), (17, j17), (18, (nI lv)), (19, j19), (20, j20), (34, j34), (40, j40), (44, j44), (47, k47_7), (50, k50_4), (51, k51_5), (56, j56), (61, j61)]))), ((r 48), .inl (G.2 0, 71, .inl c48))] H _ := hw
        refine W.eq (g2 := F0 m 128 ls [.int rv_13]) rfl ?_
        exact hret _ _ _ _ _ _ ⟨rv_13, k47_7, k50_4, k51_5, d45_8, d46_9, d49_6, d52_10, rfl, rfl, (by first | exact zA0 (fun z => hq2_1 (by assumption) z.1) | exact zA0 (fun z => zA_o (n := 7) (hi := 6) (by decide) (by decide) (by assumption) z.2) | exact zA_pe (by assumption) (by decide) (zA_i.1 (by assumption)) ⟨_, _, hq11_0, hq15_0, Or.inl (⟨zA_i.1 (by assumption), rfl⟩)⟩ | exact zA_pe (by assumption) (by decide) (zA_i.2.1 (by assumption)) ⟨_, _, hq11_0, hq15_0, Or.inr (Or.inl (⟨zA_i.2.1 (by assumption), rfl⟩))⟩ | exact zA_pe (by assumption) (by decide) (zA_i.2.2.1 (by assumption)) ⟨_, _, hq11_0, hq15_0, Or.inr (Or.inr (Or.inl (⟨zA_i.2.2.1 (by assumption), rfl⟩)))⟩ | exact zA_pe (by assumption) (by decide) (zA_i.2.2.2.1 (by assumption)) ⟨_, _, hq11_0, hq15_0, Or.inr (Or.inr (Or.inr (Or.inl (⟨zA_i.2.2.2.1 (by assumption), rfl⟩))))⟩ | exact zA_pe (by assumption) (by decide) (zA_i.2.2.2.2.1 (by assumption)) ⟨_, _, hq11_0, hq15_0, Or.inr (Or.inr (Or.inr (Or.inr (Or.inl (⟨zA_i.2.2.2.2.1 (by assumption), rfl⟩)))))⟩ | exact zA_pe (by assumption) (by decide) (zA_i.2.2.2.2.2.1 (by assumption)) ⟨_, _, hq11_0, hq15_0, Or.inr (Or.inr (Or.inr (Or.inr (Or.inr (Or.inl (⟨zA_i.2.2.2.2.2.1 (by assumption), hq119_1⟩))))))⟩ | exact zA_pe (by assumption) (by decide) (zA_i.2.2.2.2.2.2 (by assumption)) ⟨_, _, hq11_0, hq15_0, Or.inr (Or.inr (Or.inr (Or.inr (Or.inr (Or.inr (⟨zA_i.2.2.2.2.2.2 (by assumption), hq125_0⟩))))))⟩), (by first | assumption | exact Or.inl rfl | exact Or.inr rfl | omega | exact Or.inr (by assumption) | exact zz_oku (by assumption) (by first | exact Or.inl rfl | exact Or.inr ⟨_, by omega, rfl⟩))⟩ (hw.sub [21, 1, 2, 3, 4, 5, 6, 7, 0, 8, 9, 10, 11, 12, 13, 14, 15, 16, 17, 18, 22, 19, 20] (by decide +kernel) rfl) rfl dX10_person_128
  · skip
    refine lv_iconst (v := (-1)) hx hb dX10_person_8 (by decide) ?_
    exact hret _ _ _ _ _ _ ⟨(-1), j47, j50, j51, c45, c46, c49, c52, rfl, rfl, (by first | exact zA0 (fun z => hq2_1 (by assumption) z.1) | exact zA0 (fun z => zA_o (n := 7) (hi := 6) (by decide) (by decide) (by assumption) z.2) | exact zA_pe (by assumption) (by decide) (zA_i.1 (by assumption)) ⟨_, _, hq11_0, hq15_0, Or.inl (⟨zA_i.1 (by assumption), rfl⟩)⟩ | exact zA_pe (by assumption) (by decide) (zA_i.2.1 (by assumption)) ⟨_, _, hq11_0, hq15_0, Or.inr (Or.inl (⟨zA_i.2.1 (by assumption), rfl⟩))⟩ | exact zA_pe (by assumption) (by decide) (zA_i.2.2.1 (by assumption)) ⟨_, _, hq11_0, hq15_0, Or.inr (Or.inr (Or.inl (⟨zA_i.2.2.1 (by assumption), rfl⟩)))⟩ | exact zA_pe (by assumption) (by decide) (zA_i.2.2.2.1 (by assumption)) ⟨_, _, hq11_0, hq15_0, Or.inr (Or.inr (Or.inr (Or.inl (⟨zA_i.2.2.2.1 (by assumption), rfl⟩))))⟩ | exact zA_pe (by assumption) (by decide) (zA_i.2.2.2.2.1 (by assumption)) ⟨_, _, hq11_0, hq15_0, Or.inr (Or.inr (Or.inr (Or.inr (Or.inl (⟨zA_i.2.2.2.2.1 (by assumption), rfl⟩)))))⟩ | exact zA_pe (by assumption) (by decide) (zA_i.2.2.2.2.2.1 (by assumption)) ⟨_, _, hq11_0, hq15_0, Or.inr (Or.inr (Or.inr (Or.inr (Or.inr (Or.inl (⟨zA_i.2.2.2.2.2.1 (by assumption), hq119_1⟩))))))⟩ | exact zA_pe (by assumption) (by decide) (zA_i.2.2.2.2.2.2 (by assumption)) ⟨_, _, hq11_0, hq15_0, Or.inr (Or.inr (Or.inr (Or.inr (Or.inr (Or.inr (⟨zA_i.2.2.2.2.2.2 (by assumption), hq125_0⟩))))))⟩), (by first | assumption | exact Or.inl rfl | exact Or.inr rfl | omega | exact Or.inr (by assumption) | exact zz_oku (by assumption) (by first | exact Or.inl rfl | exact Or.inr ⟨_, by omega, rfl⟩))⟩ (hw.sub [21, 22, 0, 1, 2, 3, 4, 5, 6, 7, 8, 9, 10, 11, 12, 13, 14, 15, 16, 17, 18, 19, 20] (by decide +kernel) rfl) rfl dX10_person_9
theorem kd_ncX10_part : kd_ck 10522279164293080872127842446002270672030937103535545163664129074404746608558339932972053969543148566568247681389526765436919566515493286220393112635956756969029140040318223663649601576568020247435973363533141739777026401750422851057596151425419341176081599447874213176811286175546159300972727278790478138165579802093373321428559487311677943172176682 145 cX10_part.data.toList 0 = true := by decide +kernel
theorem dX10_part_0 : decode cX10_part 0 = .ok (.aload_n 0, 1) := kd_dk0 kd_o42 kd_ncX10_part rfl
theorem dX10_part_1 : decode cX10_part 1 = .ok (.iload_n 1, 1) := kd_dk0 kd_o27 kd_ncX10_part rfl
theorem dX10_part_2 : decode cX10_part 2 = .ok (.invokevirtual 382, 3) := kd_dk2 kd_o182 kd_ncX10_part rfl
theorem dX10_part_5 : decode cX10_part 5 = .ok (.ifCond .ne 5, 3) := kd_dj2 kd_o154 (w := 5) kd_ncX10_part rfl rfl
theorem dX10_part_8 : decode cX10_part 8 = .ok (.iconst (-1), 1) := kd_dk0 kd_o2 kd_ncX10_part rfl
theorem dX10_part_9 : decode cX10_part 9 = .ok (.ireturn, 1) := kd_dk0 kd_o172 kd_ncX10_part rfl
theorem dX10_part_10 : decode cX10_part 10 = .ok (.aload_n 0, 1) := kd_dk0 kd_o42 kd_ncX10_part rfl
theorem dX10_part_11 : decode cX10_part 11 = .ok (.invokevirtual 323, 3) := kd_dk2 kd_o182 kd_ncX10_part rfl
theorem dX10_part_14 : decode cX10_part 14 = .ok (.aload_n 0, 1) := kd_dk0 kd_o42 kd_ncX10_part rfl
theorem dX10_part_15 : decode cX10_part 15 = .ok (.invokevirtual 351, 3) := kd_dk2 kd_o182 kd_ncX10_part rfl
theorem dX10_part_18 : decode cX10_part 18 = .ok (.iload_n 2, 1) := kd_dk0 kd_o28 kd_ncX10_part rfl
theorem dX10_part_19 : decode cX10_part 19 = .ok (.tableswitch 124 0 5 #[37, 47, 62, 77, 84, 99], 37) := by decide +kernel
theorem dX10_part_56 : decode cX10_part 56 = .ok (.aload_n 0, 1) := kd_dk0 kd_o42 kd_ncX10_part rfl
theorem dX10_part_57 : decode cX10_part 57 = .ok (.getfield 113, 3) := kd_dk2 kd_o180 kd_ncX10_part rfl
theorem dX10_part_60 : decode cX10_part 60 = .ok (.bipush 21, 2) := kd_dj1 kd_o16 (w := 21) kd_ncX10_part rfl rfl
theorem dX10_part_62 : decode cX10_part 62 = .ok (.iload_n 1, 1) := kd_dk0 kd_o27 kd_ncX10_part rfl
theorem dX10_part_63 : decode cX10_part 63 = .ok (.iadd, 1) := kd_dk0 kd_o96 kd_ncX10_part rfl
theorem dX10_part_64 : decode cX10_part 64 = .ok (.iaload, 1) := kd_dk0 kd_o46 kd_ncX10_part rfl
theorem dX10_part_65 : decode cX10_part 65 = .ok (.ireturn, 1) := kd_dk0 kd_o172 kd_ncX10_part rfl
theorem dX10_part_66 : decode cX10_part 66 = .ok (.aload_n 0, 1) := kd_dk0 kd_o42 kd_ncX10_part rfl
theorem dX10_part_67 : decode cX10_part 67 = .ok (.getfield 61, 3) := kd_dk2 kd_o180 kd_ncX10_part rfl
theorem dX10_part_70 : decode cX10_part 70 = .ok (.bipush 6, 2) := kd_dj1 kd_o16 (w := 6) kd_ncX10_part rfl rfl
theorem dX10_part_72 : decode cX10_part 72 = .ok (.aload_n 0, 1) := kd_dk0 kd_o42 kd_ncX10_part rfl
theorem dX10_part_73 : decode cX10_part 73 = .ok (.getfield 236, 3) := kd_dk2 kd_o180 kd_ncX10_part rfl
theorem dX10_part_76 : decode cX10_part 76 = .ok (.imul, 1) := kd_dk0 kd_o104 kd_ncX10_part rfl
theorem dX10_part_77 : decode cX10_part 77 = .ok (.iload_n 1, 1) := kd_dk0 kd_o27 kd_ncX10_part rfl
theorem dX10_part_78 : decode cX10_part 78 = .ok (.iadd, 1) := kd_dk0 kd_o96 kd_ncX10_part rfl
theorem dX10_part_79 : decode cX10_part 79 = .ok (.iaload, 1) := kd_dk0 kd_o46 kd_ncX10_part rfl
theorem dX10_part_80 : decode cX10_part 80 = .ok (.ireturn, 1) := kd_dk0 kd_o172 kd_ncX10_part rfl
theorem dX10_part_81 : decode cX10_part 81 = .ok (.aload_n 0, 1) := kd_dk0 kd_o42 kd_ncX10_part rfl
theorem dX10_part_82 : decode cX10_part 82 = .ok (.getfield 64, 3) := kd_dk2 kd_o180 kd_ncX10_part rfl
theorem dX10_part_85 : decode cX10_part 85 = .ok (.bipush 6, 2) := kd_dj1 kd_o16 (w := 6) kd_ncX10_part rfl rfl
theorem dX10_part_87 : decode cX10_part 87 = .ok (.aload_n 0, 1) := kd_dk0 kd_o42 kd_ncX10_part rfl
theorem dX10_part_88 : decode cX10_part 88 = .ok (.getfield 236, 3) := kd_dk2 kd_o180 kd_ncX10_part rfl
theorem dX10_part_91 : decode cX10_part 91 = .ok (.imul, 1) := kd_dk0 kd_o104 kd_ncX10_part rfl
theorem dX10_part_92 : decode cX10_part 92 = .ok (.iload_n 1, 1) := kd_dk0 kd_o27 kd_ncX10_part rfl
theorem dX10_part_93 : decode cX10_part 93 = .ok (.iadd, 1) := kd_dk0 kd_o96 kd_ncX10_part rfl
theorem dX10_part_94 : decode cX10_part 94 = .ok (.iaload, 1) := kd_dk0 kd_o46 kd_ncX10_part rfl
theorem dX10_part_95 : decode cX10_part 95 = .ok (.ireturn, 1) := kd_dk0 kd_o172 kd_ncX10_part rfl
theorem dX10_part_96 : decode cX10_part 96 = .ok (.aload_n 0, 1) := kd_dk0 kd_o42 kd_ncX10_part rfl
theorem dX10_part_97 : decode cX10_part 97 = .ok (.getfield 116, 3) := kd_dk2 kd_o180 kd_ncX10_part rfl
theorem dX10_part_100 : decode cX10_part 100 = .ok (.iload_n 1, 1) := kd_dk0 kd_o27 kd_ncX10_part rfl
theorem dX10_part_101 : decode cX10_part 101 = .ok (.iaload, 1) := kd_dk0 kd_o46 kd_ncX10_part rfl
theorem dX10_part_102 : decode cX10_part 102 = .ok (.ireturn, 1) := kd_dk0 kd_o172 kd_ncX10_part rfl
theorem dX10_part_103 : decode cX10_part 103 = .ok (.aload_n 0, 1) := kd_dk0 kd_o42 kd_ncX10_part rfl
theorem dX10_part_104 : decode cX10_part 104 = .ok (.getfield 58, 3) := kd_dk2 kd_o180 kd_ncX10_part rfl
theorem dX10_part_107 : decode cX10_part 107 = .ok (.bipush 6, 2) := kd_dj1 kd_o16 (w := 6) kd_ncX10_part rfl rfl
theorem dX10_part_109 : decode cX10_part 109 = .ok (.aload_n 0, 1) := kd_dk0 kd_o42 kd_ncX10_part rfl
theorem dX10_part_110 : decode cX10_part 110 = .ok (.getfield 236, 3) := kd_dk2 kd_o180 kd_ncX10_part rfl
theorem dX10_part_113 : decode cX10_part 113 = .ok (.imul, 1) := kd_dk0 kd_o104 kd_ncX10_part rfl
theorem dX10_part_114 : decode cX10_part 114 = .ok (.iload_n 1, 1) := kd_dk0 kd_o27 kd_ncX10_part rfl
theorem dX10_part_115 : decode cX10_part 115 = .ok (.iadd, 1) := kd_dk0 kd_o96 kd_ncX10_part rfl
theorem dX10_part_116 : decode cX10_part 116 = .ok (.iaload, 1) := kd_dk0 kd_o46 kd_ncX10_part rfl
theorem dX10_part_117 : decode cX10_part 117 = .ok (.ireturn, 1) := kd_dk0 kd_o172 kd_ncX10_part rfl
theorem dX10_part_118 : decode cX10_part 118 = .ok (.aload_n 0, 1) := kd_dk0 kd_o42 kd_ncX10_part rfl
theorem dX10_part_119 : decode cX10_part 119 = .ok (.getfield 116, 3) := kd_dk2 kd_o180 kd_ncX10_part rfl
theorem dX10_part_122 : decode cX10_part 122 = .ok (.iload_n 1, 1) := kd_dk0 kd_o27 kd_ncX10_part rfl
theorem dX10_part_123 : decode cX10_part 123 = .ok (.iaload, 1) := kd_dk0 kd_o46 kd_ncX10_part rfl
theorem dX10_part_124 : decode cX10_part 124 = .ok (.ifCond .ge 7, 3) := kd_dj2 kd_o156 (w := 7) kd_ncX10_part rfl rfl
theorem dX10_part_127 : decode cX10_part 127 = .ok (.iconst 0, 1) := kd_dk0 kd_o3 kd_ncX10_part rfl
theorem dX10_part_128 : decode cX10_part 128 = .ok (.goto 14, 3) := kd_dj2 kd_o167 (w := 14) kd_ncX10_part rfl rfl
theorem dX10_part_131 : decode cX10_part 131 = .ok (.aload_n 0, 1) := kd_dk0 kd_o42 kd_ncX10_part rfl
theorem dX10_part_132 : decode cX10_part 132 = .ok (.aload_n 0, 1) := kd_dk0 kd_o42 kd_ncX10_part rfl
theorem dX10_part_133 : decode cX10_part 133 = .ok (.getfield 116, 3) := kd_dk2 kd_o180 kd_ncX10_part rfl
theorem dX10_part_136 : decode cX10_part 136 = .ok (.iload_n 1, 1) := kd_dk0 kd_o27 kd_ncX10_part rfl
theorem dX10_part_137 : decode cX10_part 137 = .ok (.iaload, 1) := kd_dk0 kd_o46 kd_ncX10_part rfl
theorem dX10_part_138 : decode cX10_part 138 = .ok (.iload_n 1, 1) := kd_dk0 kd_o27 kd_ncX10_part rfl
theorem dX10_part_139 : decode cX10_part 139 = .ok (.invokevirtual 360, 3) := kd_dk2 kd_o182 kd_ncX10_part rfl
theorem dX10_part_142 : decode cX10_part 142 = .ok (.ireturn, 1) := kd_dk0 kd_o172 kd_ncX10_part rfl
theorem dX10_part_143 : decode cX10_part 143 = .ok (.iconst (-1), 1) := kd_dk0 kd_o2 kd_ncX10_part rfl
theorem dX10_part_144 : decode cX10_part 144 = .ok (.ireturn, 1) := kd_dk0 kd_o172 kd_ncX10_part rfl
set_option maxHeartbeats 8000000 in
set_option maxRecDepth 100000 in
theorem c_x_part (l : Launch) (G : zz_G) (r : Nat → Nat) (j0 : Int32) (j2 : Int32) (j4 : Int32) (j10 : Int32) (j11 : Int32) (j12 : Int32) (j13 : Int32) (j14 : Int32) (j15 : Int32) (j16 : Int32) (j17 : Int32) (j19 : Int32) (j20 : Int32) (j34 : Int32) (j40 : Int32) (j44 : Int32) (j47 : Int32) (j50 : Int32) (j51 : Int32) (j56 : Int32) (j61 : Int32) (lv : Nat) (pp : Nat) (pq : Nat) (c22 : Nat → Int32) (c24 : Nat → Int32) (c25 : Nat → Int32) (c26 : Nat → Int32) (c27 : Nat → Int32) (c28 : Nat → Int32) (c29 : Nat → Int32) (c30 : Nat → Int32) (c31 : Nat → Int32) (c32 : Nat → Int32) (c33 : Nat → Int32) (c35 : Nat → Int32) (c36 : Nat → Int32) (c37 : Nat → Int32) (c38 : Nat → Int32) (c39 : Nat → Int32) (c41 : Nat → Int32) (c42 : Nat → Int32) (c45 : Nat → Int32) (c46 : Nat → Int32) (c48 : Nat → Int32) (c49 : Nat → Int32) (c52 : Nat → Int32) (ar1 : Int32) (ar2 : Int32) (hlv : lv ≤ 1) (hpe : c22 lv = nI pp) (hpp : pp ≤ 7) (hpa : c26 lv = nI pq) (hpq : pq ≤ 6) (hlw : zz_LW 2 0 0 c32 c33 c35 c36 c37 c38 c39 c41 c42) (hca : ∀ j, j < 6 → zz_ok 7 (c52 j)) : zz_M l G mX10_part 5 0 0 [.ref (r 0), .int ar1, .int ar2] [((r 0), .inr (10, (zz_mo r [(0, j0), (2, j2), (4, j4), (10, j10), (11, j11), (12, j12), (13, j13), (14, j14), (15, j15), (16, j16), (17, j17), (18, (nI lv)), (19, j19), (20, j20), (34, j34), (40, j40), (44, j44), (47, j47), (50, j50), (51, j51), (56, j56), (61, j61)]))), ((r 22), .inl (G.2 0, 2, .inl c22)), ((r 24), .inl (G.2 0, 14, .inl c24)), ((r 25), .inl (G.2 0, 14, .inl c25)), ((r 26), .inl (G.2 0, 2, .inl c26)), ((r 27), .inl (G.2 0, 12, .inl c27)), ((r 28), .inl (G.2 0, 12, .inl c28)), ((r 29), .inl (G.2 0, 12, .inl c29)), ((r 30), .inl (G.2 0, 2, .inl c30)), ((r 31), .inl (G.2 0, 2, .inl c31)), ((r 32), .inl (G.2 0, 8, .inl c32)), ((r 33), .inl (G.2 0, 8, .inl c33)), ((r 35), .inl (G.2 2, 260, .inl c35)), ((r 36), .inl (G.2 0, 260, .inl c36)), ((r 37), .inl (G.2 0, 260, .inl c37)), ((r 38), .inl (G.2 0, 260, .inl c38)), ((r 39), .inl (G.2 0, 260, .inl c39)), ((r 41), .inl (G.2 0, 840, .inl c41)), ((r 42), .inl (G.2 0, 840, .inl c42)), ((r 45), .inl (G.2 0, 9, .inl c45)), ((r 46), .inl (G.2 0, 400, .inl c46)), ((r 48), .inl (G.2 0, 71, .inl c48)), ((r 49), .inl (G.2 0, 71, .inl c49)), ((r 52), .inl (G.2 0, 6, .inl c52))] (fun rr u => ∃ (rv : Int32), ∃ (k47 : Int32), ∃ (k50 : Int32), ∃ (k51 : Int32), ∃ (d45 : Nat → Int32), ∃ (d46 : Nat → Int32), ∃ (d49 : Nat → Int32), ∃ (d52 : Nat → Int32), rr = some (.int rv) ∧ u = [((r 0), .inr (10, (zz_mo r [(0, j0), (2, j2), (4, j4), (10, j10), (11, j11), (12, j12), (13, j13), (14, j14), (15, j15), (16, j16), (17, j17), (18, (nI lv)), (19, j19), (20, j20), (34, j34), (40, j40), (44, j44), (47, k47), (50, k50), (51, k51), (56, j56), (61, j61)]))), ((r 22), .inl (G.2 0, 2, .inl c22)), ((r 24), .inl (G.2 0, 14, .inl c24)), ((r 25), .inl (G.2 0, 14, .inl c25)), ((r 26), .inl (G.2 0, 2, .inl c26)), ((r 27), .inl (G.2 0, 12, .inl c27)), ((r 28), .inl (G.2 0, 12, .inl c28)), ((r 29), .inl (G.2 0, 12, .inl c29)), ((r 30), .inl (G.2 0, 2, .inl c30)), ((r 31), .inl (G.2 0, 2, .inl c31)), ((r 32), .inl (G.2 0, 8, .inl c32)), ((r 33), .inl (G.2 0, 8, .inl c33)), ((r 35), .inl (G.2 2, 260, .inl c35)), ((r 36), .inl (G.2 0, 260, .inl c36)), ((r 37), .inl (G.2 0, 260, .inl c37)), ((r 38), .inl (G.2 0, 260, .inl c38)), ((r 39), .inl (G.2 0, 260, .inl c39)), ((r 41), .inl (G.2 0, 840, .inl c41)), ((r 42), .inl (G.2 0, 840, .inl c42)), ((r 45), .inl (G.2 0, 9, .inl d45)), ((r 46), .inl (G.2 0, 400, .inl d46)), ((r 48), .inl (G.2 0, 71, .inl c48)), ((r 49), .inl (G.2 0, 71, .inl d49)), ((r 52), .inl (G.2 0, 6, .inl d52))] ∧ (zA (zz_In pq ar1 ∧ zz_In 6 ar2) (∃ p : Nat, p < pq ∧ ar1 = nI p ∧ ∃ τ C, zy_q 71 c48 τ ∧ zr_FX (zr_HD lv c32 c33 c35 c36 c37 c38 c39 c41 c42 (c30 lv)) (fun Λ => zr_Sx 99 lv τ c24 c28 c25 c29 (Λ 0)) (fun a => τ (14 + a) = 1) (c30 lv) pp pq C ∧ ((ar2 = nI 0 ∧ rv = τ (21 + p)) ∨ (ar2 = nI 1 ∧ rv = c28 (6 * lv + p)) ∨ (ar2 = nI 2 ∧ rv = c29 (6 * lv + p)) ∨ (ar2 = nI 3 ∧ rv = C p) ∨ (ar2 = nI 4 ∧ rv = c27 (6 * lv + p)) ∨ (ar2 = nI 5 ∧ ((C p < 0 ∧ rv = 0) ∨ ∃ a : Nat, a < 7 ∧ C p = nI a ∧ zr_MS lv 3 c32 c33 c35 c36 c37 c38 c39 c41 c42 (zm_fc zr_ro zr_of (τ a) (τ (21 + p)) (c24 (7 * lv + a)) (c28 (6 * lv + p)) (c25 (7 * lv + a)) (c29 (6 * lv + p)) (τ 69) (τ (27 + 6 * a + p)) p) 100 rv)))) rv (-1)) ∧ (∀ j, j < 6 → zz_ok 7 (d52 j))) := by
  refine zz_enteri (by decide +kernel) (Nat.le_of_ble_eq_true rfl) ?_
  intro p e s m args below meth c A Q ls S hnm hret hw hl
  have hl : lv_has ls 3 [(0, .ref (r 0)), (1, .int ar1), (2, .int ar2)] := hl
  have hx := S.1
  have hb := S.2.1
  refine lv_aload_n hx hb dX10_part_0 rfl (lv_at hl 0 rfl) ?_
  refine lv_iload_n hx hb dX10_part_1 rfl (lv_at hl 1 rfl) ?_
  refine zz_callV (qb := 0) (As := [.int ar1]) (rest := []) (wr := [((r 22), .inl (G.2 0, 2, .inl c22)), ((r 24), .inl (G.2 0, 14, .inl c24)), ((r 25), .inl (G.2 0, 14, .inl c25)), ((r 27), .inl (G.2 0, 12, .inl c27)), ((r 28), .inl (G.2 0, 12, .inl c28)), ((r 29), .inl (G.2 0, 12, .inl c29)), ((r 30), .inl (G.2 0, 2, .inl c30)), ((r 31), .inl (G.2 0, 2, .inl c31)), ((r 32), .inl (G.2 0, 8, .inl c32)), ((r 33), .inl (G.2 0, 8, .inl c33)), ((r 35), .inl (G.2 2, 260, .inl c35)), ((r 36), .inl (G.2 0, 260, .inl c36)), ((r 37), .inl (G.2 0, 260, .inl c37)), ((r 38), .inl (G.2 0, 260, .inl c38)), ((r 39), .inl (G.2 0, 260, .inl c39)), ((r 41), .inl (G.2 0, 840, .inl c41)), ((r 42), .inl (G.2 0, 840, .inl c42)), ((r 45), .inl (G.2 0, 9, .inl c45)), ((r 46), .inl (G.2 0, 400, .inl c46)), ((r 48), .inl (G.2 0, 71, .inl c48)), ((r 49), .inl (G.2 0, 71, .inl c49)), ((r 52), .inl (G.2 0, 6, .inl c52))]) S hw hl.1 lX10_382 (c_x_isPart l G r j0 j2 j4 j10 j11 j12 j13 j14 j15 j16 j17 j19 j20 j34 j40 j44 j47 j50 j51 j56 j61 lv pq c26 ar1 (by first | assumption | omega | exact Or.inr ⟨_, by omega, rfl⟩ | (unfold zz_sok; decide) | decide | exact (fun j hj => (hv7 j hj).1)) (by first | assumption | omega | exact Or.inr ⟨_, by omega, rfl⟩ | (unfold zz_sok; decide) | decide | exact (fun j hj => (hv7 j hj).1)) (by first | assumption | omega | exact Or.inr ⟨_, by omega, rfl⟩ | (unfold zz_sok; decide) | decide | exact (fun j hj => (hv7 j hj).1))) ⟨Nat.le_of_ble_eq_true rfl, Nat.le_of_ble_eq_true rfl⟩ ⟨Nat.le_of_ble_eq_true rfl, Nat.le_of_ble_eq_true rfl⟩ [0, 4] [1, 2, 3, 5, 6, 7, 8, 9, 10, 11, 12, 13, 14, 15, 16, 17, 18, 19, 20, 21, 22, 23] (by decide +kernel) rfl rfl (by decide +kernel) (by decide +kernel) rfl rfl rfl rfl (Nat.le_of_ble_eq_true rfl) dX10_part_2 ?_
  clear hw
  intro rr u H locs hp hw
  refine hp.elim fun rv_1 zg0 => zg0.elim fun zee1 zg1 => zg1.elim fun zee2 zg2 => zg2.elim fun hq2_0 zg3 => zg3.elim fun hq2_1 hq2_2 => ?_
  clear hp zg0 zg1 zg2 zg3
  subst zee1
  subst zee2
  replace hw : zz_w G A s [((r 22), .inl (G.2 0, 2, .inl c22)), ((r 24), .inl (G.2 0, 14, .inl c24)), ((r 25), .inl (G.2 0, 14, .inl c25)), ((r 27), .inl (G.2 0, 12, .inl c27)), ((r 28), .inl (G.2 0, 12, .inl c28)), ((r 29), .inl (G.2 0, 12, .inl c29)), ((r 30), .inl (G.2 0, 2, .inl c30)), ((r 31), .inl (G.2 0, 2, .inl c31)), ((r 32), .inl (G.2 0, 8, .inl c32)), ((r 33), .inl (G.2 0, 8, .inl c33)), ((r 35), .inl (G.2 2, 260, .inl c35)), ((r 36), .inl (G.2 0, 260, .inl c36)), ((r 37), .inl (G.2 0, 260, .inl c37)), ((r 38), .inl (G.2 0, 260, .inl c38)), ((r 39), .inl (G.2 0, 260, .inl c39)), ((r 41), .inl (G.2 0, 840, .inl c41)), ((r 42), .inl (G.2 0, 840, .inl c42)), ((r 45), .inl (G.2 0, 9, .inl c45)), ((r 46), .inl (G.2 0, 400, .inl c46)), ((r 48), .inl (G.2 0, 71, .inl c48)), ((r 49), .inl (G.2 0, 71, .inl c49)), ((r 52), .inl (G.2 0, 6, .inl c52)), ((r 0), .inr (10, (zz_mo r [(0, j0), (2, j2), (4, j4), (10, j10), (11, j11), (12, j12), (13, j13), (14, j14), (15, j15), (16, j16), (17, j17), (18, (nI lv)), (19, j19), (20, j20), (34, j34), (40, j40), (44, j44), (47, j47), (50, j50), (51, j51), (56, j56), (61, j61)]))), ((r 26), .inl (G.2 0, 2, .inl c26))] H _ := hw
  refine W.eq (g2 := F0 m 5 ls [.int rv_1]) rfl ?_
  refine lv_if_ne (tgt := 10) hx hb dX10_part_5 (by decide) (fun c5_2 => ?_) (fun c5_2 => ?_)
  · skip
    obtain ⟨vq3, hvq3, rfl⟩ := hq2_0.resolve_left c5_2
    refine lv_aload_n hx hb dX10_part_10 rfl (lv_at hl 0 rfl) ?_
    refine zz_callV (qb := 22) (As := []) (rest := []) (wr := [((r 22), .inl (G.2 0, 2, .inl c22)), ((r 24), .inl (G.2 0, 14, .inl c24)), ((r 25), .inl (G.2 0, 14, .inl c25)), ((r 27), .inl (G.2 0, 12, .inl c27)), ((r 28), .inl (G.2 0, 12, .inl c28)), ((r 29), .inl (G.2 0, 12, .inl c29)), ((r 30), .inl (G.2 0, 2, .inl c30)), ((r 32), .inl (G.2 0, 8, .inl c32)), ((r 33), .inl (G.2 0, 8, .inl c33)), ((r 35), .inl (G.2 2, 260, .inl c35)), ((r 36), .inl (G.2 0, 260, .inl c36)), ((r 37), .inl (G.2 0, 260, .inl c37)), ((r 38), .inl (G.2 0, 260, .inl c38)), ((r 39), .inl (G.2 0, 260, .inl c39)), ((r 41), .inl (G.2 0, 840, .inl c41)), ((r 42), .inl (G.2 0, 840, .inl c42)), ((r 45), .inl (G.2 0, 9, .inl c45)), ((r 46), .inl (G.2 0, 400, .inl c46)), ((r 52), .inl (G.2 0, 6, .inl c52)), ((r 26), .inl (G.2 0, 2, .inl c26))]) S hw hl.1 lX10_323 (c_x_copies l G r j0 j2 j4 j10 j11 j12 j13 j14 j15 j16 j17 j19 j20 j34 j40 j44 j47 j50 j51 j56 j61 lv c31 c48 c49 (by first | assumption | omega | exact Or.inr ⟨_, by omega, rfl⟩ | (unfold zz_sok; decide) | decide | exact (fun j hj => (hv7 j hj).1))) ⟨Nat.le_of_ble_eq_true rfl, Nat.le_of_ble_eq_true rfl⟩ ⟨Nat.le_of_ble_eq_true rfl, Nat.le_of_ble_eq_true rfl⟩ [22, 7, 19, 20] [0, 1, 2, 3, 4, 5, 6, 8, 9, 10, 11, 12, 13, 14, 15, 16, 17, 18, 21, 23] (by decide +kernel) rfl rfl (by decide +kernel) (by decide +kernel) rfl rfl rfl rfl (Nat.le_of_ble_eq_true rfl) dX10_part_11 ?_
    clear hw
    intro rr u H locs hp hw
    refine hp.elim fun k50_4 zg0 => zg0.elim fun k51_5 zg1 => zg1.elim fun d49_6 zg2 => zg2.elim fun zee1 zg3 => zg3.elim fun zee2 zg4 => zg4.elim fun hq11_0 zg5 => zg5.elim fun hq11_1 hq11_2 => ?_
    clear hp zg0 zg1 zg2 zg3 zg4 zg5
    subst zee1
    subst zee2
    replace hw : zz_w G A s [((r 22), .inl (G.2 0, 2, .inl c22)), ((r 24), .inl (G.2 0, 14, .inl c24)), ((r 25), .inl (G.2 0, 14, .inl c25)), ((r 27), .inl (G.2 0, 12, .inl c27)), ((r 28), .inl (G.2 0, 12, .inl c28)), ((r 29), .inl (G.2 0, 12, .inl c29)), ((r 30), .inl (G.2 0, 2, .inl c30)), ((r 32), .inl (G.2 0, 8, .inl c32)), ((r 33), .inl (G.2 0, 8, .inl c33)), ((r 35), .inl (G.2 2, 260, .inl c35)), ((r 36), .inl (G.2 0, 260, .inl c36)), ((r 37), .inl (G.2 0, 260, .inl c37)), ((r 38), .inl (G.2 0, 260, .inl c38)), ((r 39), .inl (G.2 0, 260, .inl c39)), ((r 41), .inl (G.2 0, 840, .inl c41)), ((r 42), .inl (G.2 0, 840, .inl c42)), ((r 45), .inl (G.2 0, 9, .inl c45)), ((r 46), .inl (G.2 0, 400, .inl c46)), ((r 52), .inl (G.2 0, 6, .inl c52)), ((r 26), .inl (G.2 0, 2, .inl c26)), ((r 0), .inr (10, (zz_mo r [(0, j0), (2, j2), (4, j4), (10, j10), (11, j11), (12, j12), (13, j13), (14, j14), (15, j15), (16, j16), (17, j17), (18, (nI lv)), (19, j19), (20, j20), (34, j34), (40, j40), (44, j44), (47, j47), (50, k50_4), (51, k51_5), (56, j56), (61, j61)]))), ((r 31), .inl (G.2 0, 2, .inl c31)), ((r 48), .inl (G.2 0, 71, .inl c48)), ((r 49), .inl (G.2 0, 71, .inl d49_6))] H _ := hw
    refine W.eq (g2 := F0 m 14 ls []) rfl ?_
    refine lv_aload_n hx hb dX10_part_14 rfl (lv_at hl 0 rfl) ?_
    refine zz_callV (qb := 20) (As := []) (rest := []) (wr := [((r 27), .inl (G.2 0, 12, .inl c27)), ((r 31), .inl (G.2 0, 2, .inl c31)), ((r 48), .inl (G.2 0, 71, .inl c48))]) S hw hl.1 lX10_351 (c_x_casts l G r j0 j2 j4 j10 j11 j12 j13 j14 j15 j16 j17 j19 j20 j34 j40 j44 j47 k50_4 k51_5 j56 j61 lv pp pq c22 c24 c25 c26 c28 c29 c30 c32 c33 c35 c36 c37 c38 c39 c41 c42 c45 c46 d49_6 c52 (by first | assumption | omega | exact Or.inr ⟨_, by omega, rfl⟩ | (unfold zz_sok; decide) | decide | exact (fun j hj => (hv7 j hj).1)) (by first | assumption | omega | exact Or.inr ⟨_, by omega, rfl⟩ | (unfold zz_sok; decide) | decide | exact (fun j hj => (hv7 j hj).1)) (by first | assumption | omega | exact Or.inr ⟨_, by omega, rfl⟩ | (unfold zz_sok; decide) | decide | exact (fun j hj => (hv7 j hj).1)) (by first | assumption | omega | exact Or.inr ⟨_, by omega, rfl⟩ | (unfold zz_sok; decide) | decide | exact (fun j hj => (hv7 j hj).1)) (by first | assumption | omega | exact Or.inr ⟨_, by omega, rfl⟩ | (unfold zz_sok; decide) | decide | exact (fun j hj => (hv7 j hj).1)) (by first | assumption | omega | exact Or.inr ⟨_, by omega, rfl⟩ | (unfold zz_sok; decide) | decide | exact (fun j hj => (hv7 j hj).1)) (by first | assumption | omega | exact Or.inr ⟨_, by omega, rfl⟩ | (unfold zz_sok; decide) | decide | exact (fun j hj => (hv7 j hj).1))) ⟨Nat.le_of_ble_eq_true rfl, Nat.le_of_ble_eq_true rfl⟩ ⟨Nat.le_of_ble_eq_true rfl, Nat.le_of_ble_eq_true rfl⟩ [20, 0, 1, 2, 19, 4, 5, 6, 7, 8, 9, 10, 11, 12, 13, 14, 15, 16, 17, 23, 18] [3, 21, 22] (by decide +kernel) rfl rfl (by decide +kernel) (by decide +kernel) rfl rfl rfl rfl (Nat.le_of_ble_eq_true rfl) dX10_part_15 ?_
    clear hw
    intro rr u H locs hp hw
    refine hp.elim fun k47_7 zg0 => zg0.elim fun d45_8 zg1 => zg1.elim fun d46_9 zg2 => zg2.elim fun d52_10 zg3 => zg3.elim fun zee1 zg4 => zg4.elim fun zee2 zg5 => zg5.elim fun hq15_0 hq15_1 => ?_
    clear hp zg0 zg1 zg2 zg3 zg4 zg5
    subst zee1
    subst zee2
    replace hw : zz_w G A s [((r 27), .inl (G.2 0, 12, .inl c27)), ((r 31), .inl (G.2 0, 2, .inl c31)), ((r 48), .inl (G.2 0, 71, .inl c48)), ((r 0), .inr (10, (zz_mo r [(0, j0), (2, j2), (4, j4), (10, j10), (11, j11), (12, j12), (13, j13), (14, j14), (15, j15), (16, j16), (17, j17), (18, (nI lv)), (19, j19), (20, j20), (34, j34), (40, j40), (44, j44), (47, k47_7), (50, k50_4), (51, k51_5), (56, j56), (61, j61)]))), ((r 22), .inl (G.2 0, 2, .inl c22)), ((r 24), .inl (G.2 0, 14, .inl c24)), ((r 25), .inl (G.2 0, 14, .inl c25)), ((r 26), .inl (G.2 0, 2, .inl c26)), ((r 28), .inl (G.2 0, 12, .inl c28)), ((r 29), .inl (G.2 0, 12, .inl c29)), ((r 30), .inl (G.2 0, 2, .inl c30)), ((r 32), .inl (G.2 0, 8, .inl c32)), ((r 33), .inl (G.2 0, 8, .inl c33)), ((r 35), .inl (G.2 2, 260, .inl c35)), ((r 36), .inl (G.2 0, 260, .inl c36)), ((r 37), .inl (G.2 0, 260, .inl c37)), ((r 38), .inl (G.2 0, 260, .inl c38)), ((r 39), .inl (G.2 0, 260, .inl c39)), ((r 41), .inl (G.2 0, 840, .inl c41)), ((r 42), .inl (G.2 0, 840, .inl c42)), ((r 45), .inl (G.2 0, 9, .inl d45_8)), ((r 46), .inl (G.2 0, 400, .inl d46_9)), ((r 49), .inl (G.2 0, 71, .inl d49_6)), ((r 52), .inl (G.2 0, 6, .inl d52_10))] H _ := hw
    refine W.eq (g2 := F0 m 18 ls []) rfl ?_
    refine lv_iload_n hx hb dX10_part_18 rfl (lv_at hl 2 rfl) ?_
    rcases zz_sw ar2 0 5 (by decide) (by decide) with hw11 | hw11
    · skip
      refine lv_tableOut (tgt := 143) hx hb dX10_part_19 hw11 (by decide) ?_
      refine lv_iconst (v := (-1)) hx hb dX10_part_143 (by decide) ?_
      exact hret _ _ _ _ _ _ ⟨(-1), k47_7, k50_4, k51_5, d45_8, d46_9, d49_6, d52_10, rfl, rfl, (by first | exact zA0 (fun z => hq2_1 (by assumption) z.1) | exact zA0 (fun z => zA_o (n := 6) (hi := 5) (by decide) (by decide) (by assumption) z.2) | exact zA_pe (by assumption) (by decide) (zA_i.1 (by assumption)) ⟨_, _, hq11_0, hq15_0, Or.inl (⟨zA_i.1 (by assumption), rfl⟩)⟩ | exact zA_pe (by assumption) (by decide) (zA_i.2.1 (by assumption)) ⟨_, _, hq11_0, hq15_0, Or.inr (Or.inl (⟨zA_i.2.1 (by assumption), rfl⟩))⟩ | exact zA_pe (by assumption) (by decide) (zA_i.2.2.1 (by assumption)) ⟨_, _, hq11_0, hq15_0, Or.inr (Or.inr (Or.inl (⟨zA_i.2.2.1 (by assumption), rfl⟩)))⟩ | exact zA_pe (by assumption) (by decide) (zA_i.2.2.2.1 (by assumption)) ⟨_, _, hq11_0, hq15_0, Or.inr (Or.inr (Or.inr (Or.inl (⟨zA_i.2.2.2.1 (by assumption), Eq.symm (by assumption)⟩))))⟩ | exact zA_pe (by assumption) (by decide) (zA_i.2.2.2.2.1 (by assumption)) ⟨_, _, hq11_0, hq15_0, Or.inr (Or.inr (Or.inr (Or.inr (Or.inl (⟨zA_i.2.2.2.2.1 (by assumption), rfl⟩)))))⟩ | exact zA_pe (by assumption) (by decide) (zA_i.2.2.2.2.2.1 (by assumption)) ⟨_, _, hq11_0, hq15_0, Or.inr (Or.inr (Or.inr (Or.inr (Or.inr (⟨zA_i.2.2.2.2.2.1 (by assumption), Or.inl ⟨zA_lz (by assumption) (by first | assumption | exact Int32.not_le.mp (by assumption)), rfl⟩⟩)))))⟩ | exact zA_pe (by assumption) (by decide) (zA_i.2.2.2.2.2.1 (by assumption)) ⟨_, _, hq11_0, hq15_0, Or.inr (Or.inr (Or.inr (Or.inr (Or.inr (⟨zA_i.2.2.2.2.2.1 (by assumption), Or.inr ⟨_, by assumption, by assumption, hq139_0⟩⟩)))))⟩), (by first | assumption | exact Or.inl rfl | exact Or.inr rfl | omega | exact Or.inr (by assumption) | exact zz_oku (by assumption) (by first | exact Or.inl rfl | exact Or.inr ⟨_, by omega, rfl⟩))⟩ (hw.sub [3, 4, 5, 6, 7, 0, 8, 9, 10, 1, 11, 12, 13, 14, 15, 16, 17, 18, 19, 20, 21, 2, 22, 23] (by decide +kernel) rfl) rfl dX10_part_144
    · rcases (show (ar2 : Int32).toInt = 0 ∨ (ar2 : Int32).toInt = 1 ∨ (ar2 : Int32).toInt = 2 ∨ (ar2 : Int32).toInt = 3 ∨ (ar2 : Int32).toInt = 4 ∨ (ar2 : Int32).toInt = 5 by omega) with qw11 | qw11 | qw11 | qw11 | qw11 | qw11
      · skip
        refine lv_tableIn (off := 37) (tgt := 56) hx hb dX10_part_19 (by rw [qw11]; decide) (by rw [qw11]; decide) (by rw [qw11]; rfl) (by decide) ?_
        refine lv_aload_n hx hb dX10_part_56 rfl (lv_at hl 0 rfl) ?_
        refine zz_get (v := .ref (r 49)) S hw fgX10_113 3 rfl rfl dX10_part_57 ?_
        refine lv_bipush (v := 21) hx hb dX10_part_60 (by decide) ?_
        refine lv_iload_n hx hb dX10_part_62 rfl (lv_at hl 1 rfl) ?_
        refine lv_iadd hx hb dX10_part_63 ?_
        refine zz_topi (y := (nI (21 + vq3))) (nI_add _ _) ?_
        refine W.eq (g2 := F0 m 64 ls [.int (nI (21 + vq3)), .ref (r 49)]) rfl ?_
        refine zz_iald (v := (d49_6 (21 + vq3))) S hw 22 rfl (vp_in_nI (n := (21 + vq3)) (by omega) (by decide)) (congrArg d49_6 (nI_clamp (n := (21 + vq3)) (by omega))) dX10_part_64 ?_
        exact hret _ _ _ _ _ _ ⟨(d49_6 (21 + vq3)), k47_7, k50_4, k51_5, d45_8, d46_9, d49_6, d52_10, rfl, rfl, (by first | exact zA0 (fun z => hq2_1 (by assumption) z.1) | exact zA0 (fun z => zA_o (n := 6) (hi := 5) (by decide) (by decide) (by assumption) z.2) | exact zA_pe (by assumption) (by decide) (zA_i.1 (by assumption)) ⟨_, _, hq11_0, hq15_0, Or.inl (⟨zA_i.1 (by assumption), rfl⟩)⟩ | exact zA_pe (by assumption) (by decide) (zA_i.2.1 (by assumption)) ⟨_, _, hq11_0, hq15_0, Or.inr (Or.inl (⟨zA_i.2.1 (by assumption), rfl⟩))⟩ | exact zA_pe (by assumption) (by decide) (zA_i.2.2.1 (by assumption)) ⟨_, _, hq11_0, hq15_0, Or.inr (Or.inr (Or.inl (⟨zA_i.2.2.1 (by assumption), rfl⟩)))⟩ | exact zA_pe (by assumption) (by decide) (zA_i.2.2.2.1 (by assumption)) ⟨_, _, hq11_0, hq15_0, Or.inr (Or.inr (Or.inr (Or.inl (⟨zA_i.2.2.2.1 (by assumption), Eq.symm (by assumption)⟩))))⟩ | exact zA_pe (by assumption) (by decide) (zA_i.2.2.2.2.1 (by assumption)) ⟨_, _, hq11_0, hq15_0, Or.inr (Or.inr (Or.inr (Or.inr (Or.inl (⟨zA_i.2.2.2.2.1 (by assumption), rfl⟩)))))⟩ | exact zA_pe (by assumption) (by decide) (zA_i.2.2.2.2.2.1 (by assumption)) ⟨_, _, hq11_0, hq15_0, Or.inr (Or.inr (Or.inr (Or.inr (Or.inr (⟨zA_i.2.2.2.2.2.1 (by assumption), Or.inl ⟨zA_lz (by assumption) (by first | assumption | exact Int32.not_le.mp (by assumption)), rfl⟩⟩)))))⟩ | exact zA_pe (by assumption) (by decide) (zA_i.2.2.2.2.2.1 (by assumption)) ⟨_, _, hq11_0, hq15_0, Or.inr (Or.inr (Or.inr (Or.inr (Or.inr (⟨zA_i.2.2.2.2.2.1 (by assumption), Or.inr ⟨_, by assumption, by assumption, hq139_0⟩⟩)))))⟩), (by first | assumption | exact Or.inl rfl | exact Or.inr rfl | omega | exact Or.inr (by assumption) | exact zz_oku (by assumption) (by first | exact Or.inl rfl | exact Or.inr ⟨_, by omega, rfl⟩))⟩ (hw.sub [3, 4, 5, 6, 7, 0, 8, 9, 10, 1, 11, 12, 13, 14, 15, 16, 17, 18, 19, 20, 21, 2, 22, 23] (by decide +kernel) rfl) rfl dX10_part_65
      · skip
        refine lv_tableIn (off := 47) (tgt := 66) hx hb dX10_part_19 (by rw [qw11]; decide) (by rw [qw11]; decide) (by rw [qw11]; rfl) (by decide) ?_
        refine lv_aload_n hx hb dX10_part_66 rfl (lv_at hl 0 rfl) ?_
        refine zz_get (v := .ref (r 28)) S hw fgX10_61 3 rfl rfl dX10_part_67 ?_
        refine lv_bipush (v := 6) hx hb dX10_part_70 (by decide) ?_
        refine lv_aload_n hx hb dX10_part_72 rfl (lv_at hl 0 rfl) ?_
        refine zz_get (v := .int (nI lv)) S hw fgX10_236 3 rfl rfl dX10_part_73 ?_
        refine lv_imul hx hb dX10_part_76 ?_
        refine zz_topi (y := (nI (6 * lv))) (pk_mul _ _) ?_
        refine lv_iload_n hx hb dX10_part_77 rfl (lv_at hl 1 rfl) ?_
        refine lv_iadd hx hb dX10_part_78 ?_
        refine zz_topi (y := (nI ((6 * lv) + vq3))) (nI_add _ _) ?_
        refine zz_iald (v := (c28 ((6 * lv) + vq3))) S hw 8 rfl (vp_in_nI (n := ((6 * lv) + vq3)) (by omega) (by decide)) (congrArg c28 (nI_clamp (n := ((6 * lv) + vq3)) (by omega))) dX10_part_79 ?_
        exact hret _ _ _ _ _ _ ⟨(c28 ((6 * lv) + vq3)), k47_7, k50_4, k51_5, d45_8, d46_9, d49_6, d52_10, rfl, rfl, (by first | exact zA0 (fun z => hq2_1 (by assumption) z.1) | exact zA0 (fun z => zA_o (n := 6) (hi := 5) (by decide) (by decide) (by assumption) z.2) | exact zA_pe (by assumption) (by decide) (zA_i.1 (by assumption)) ⟨_, _, hq11_0, hq15_0, Or.inl (⟨zA_i.1 (by assumption), rfl⟩)⟩ | exact zA_pe (by assumption) (by decide) (zA_i.2.1 (by assumption)) ⟨_, _, hq11_0, hq15_0, Or.inr (Or.inl (⟨zA_i.2.1 (by assumption), rfl⟩))⟩ | exact zA_pe (by assumption) (by decide) (zA_i.2.2.1 (by assumption)) ⟨_, _, hq11_0, hq15_0, Or.inr (Or.inr (Or.inl (⟨zA_i.2.2.1 (by assumption), rfl⟩)))⟩ | exact zA_pe (by assumption) (by decide) (zA_i.2.2.2.1 (by assumption)) ⟨_, _, hq11_0, hq15_0, Or.inr (Or.inr (Or.inr (Or.inl (⟨zA_i.2.2.2.1 (by assumption), Eq.symm (by assumption)⟩))))⟩ | exact zA_pe (by assumption) (by decide) (zA_i.2.2.2.2.1 (by assumption)) ⟨_, _, hq11_0, hq15_0, Or.inr (Or.inr (Or.inr (Or.inr (Or.inl (⟨zA_i.2.2.2.2.1 (by assumption), rfl⟩)))))⟩ | exact zA_pe (by assumption) (by decide) (zA_i.2.2.2.2.2.1 (by assumption)) ⟨_, _, hq11_0, hq15_0, Or.inr (Or.inr (Or.inr (Or.inr (Or.inr (⟨zA_i.2.2.2.2.2.1 (by assumption), Or.inl ⟨zA_lz (by assumption) (by first | assumption | exact Int32.not_le.mp (by assumption)), rfl⟩⟩)))))⟩ | exact zA_pe (by assumption) (by decide) (zA_i.2.2.2.2.2.1 (by assumption)) ⟨_, _, hq11_0, hq15_0, Or.inr (Or.inr (Or.inr (Or.inr (Or.inr (⟨zA_i.2.2.2.2.2.1 (by assumption), Or.inr ⟨_, by assumption, by assumption, hq139_0⟩⟩)))))⟩), (by first | assumption | exact Or.inl rfl | exact Or.inr rfl | omega | exact Or.inr (by assumption) | exact zz_oku (by assumption) (by first | exact Or.inl rfl | exact Or.inr ⟨_, by omega, rfl⟩))⟩ (hw.sub [3, 4, 5, 6, 7, 0, 8, 9, 10, 1, 11, 12, 13, 14, 15, 16, 17, 18, 19, 20, 21, 2, 22, 23] (by decide +kernel) rfl) rfl dX10_part_80
      · skip
        refine lv_tableIn (off := 62) (tgt := 81) hx hb dX10_part_19 (by rw [qw11]; decide) (by rw [qw11]; decide) (by rw [qw11]; rfl) (by decide) ?_
        refine lv_aload_n hx hb dX10_part_81 rfl (lv_at hl 0 rfl) ?_
        refine zz_get (v := .ref (r 29)) S hw fgX10_64 3 rfl rfl dX10_part_82 ?_
        refine lv_bipush (v := 6) hx hb dX10_part_85 (by decide) ?_
        refine lv_aload_n hx hb dX10_part_87 rfl (lv_at hl 0 rfl) ?_
        refine W.eq (g2 := F0 m 88 ls [.ref (r 0), .int 6, .ref (r 29)]) rfl ?_
        refine zz_get (v := .int (nI lv)) S hw fgX10_236 3 rfl rfl dX10_part_88 ?_
        refine lv_imul hx hb dX10_part_91 ?_
        refine zz_topi (y := (nI (6 * lv))) (pk_mul _ _) ?_
        refine lv_iload_n hx hb dX10_part_92 rfl (lv_at hl 1 rfl) ?_
        refine lv_iadd hx hb dX10_part_93 ?_
        refine zz_topi (y := (nI ((6 * lv) + vq3))) (nI_add _ _) ?_
        refine zz_iald (v := (c29 ((6 * lv) + vq3))) S hw 9 rfl (vp_in_nI (n := ((6 * lv) + vq3)) (by omega) (by decide)) (congrArg c29 (nI_clamp (n := ((6 * lv) + vq3)) (by omega))) dX10_part_94 ?_
        exact hret _ _ _ _ _ _ ⟨(c29 ((6 * lv) + vq3)), k47_7, k50_4, k51_5, d45_8, d46_9, d49_6, d52_10, rfl, rfl, (by first | exact zA0 (fun z => hq2_1 (by assumption) z.1) | exact zA0 (fun z => zA_o (n := 6) (hi := 5) (by decide) (by decide) (by assumption) z.2) | exact zA_pe (by assumption) (by decide) (zA_i.1 (by assumption)) ⟨_, _, hq11_0, hq15_0, Or.inl (⟨zA_i.1 (by assumption), rfl⟩)⟩ | exact zA_pe (by assumption) (by decide) (zA_i.2.1 (by assumption)) ⟨_, _, hq11_0, hq15_0, Or.inr (Or.inl (⟨zA_i.2.1 (by assumption), rfl⟩))⟩ | exact zA_pe (by assumption) (by decide) (zA_i.2.2.1 (by assumption)) ⟨_, _, hq11_0, hq15_0, Or.inr (Or.inr (Or.inl (⟨zA_i.2.2.1 (by assumption), rfl⟩)))⟩ | exact zA_pe (by assumption) (by decide) (zA_i.2.2.2.1 (by assumption)) ⟨_, _, hq11_0, hq15_0, Or.inr (Or.inr (Or.inr (Or.inl (⟨zA_i.2.2.2.1 (by assumption), Eq.symm (by assumption)⟩))))⟩ | exact zA_pe (by assumption) (by decide) (zA_i.2.2.2.2.1 (by assumption)) ⟨_, _, hq11_0, hq15_0, Or.inr (Or.inr (Or.inr (Or.inr (Or.inl (⟨zA_i.2.2.2.2.1 (by assumption), rfl⟩)))))⟩ | exact zA_pe (by assumption) (by decide) (zA_i.2.2.2.2.2.1 (by assumption)) ⟨_, _, hq11_0, hq15_0, Or.inr (Or.inr (Or.inr (Or.inr (Or.inr (⟨zA_i.2.2.2.2.2.1 (by assumption), Or.inl ⟨zA_lz (by assumption) (by first | assumption | exact Int32.not_le.mp (by assumption)), rfl⟩⟩)))))⟩ | exact zA_pe (by assumption) (by decide) (zA_i.2.2.2.2.2.1 (by assumption)) ⟨_, _, hq11_0, hq15_0, Or.inr (Or.inr (Or.inr (Or.inr (Or.inr (⟨zA_i.2.2.2.2.2.1 (by assumption), Or.inr ⟨_, by assumption, by assumption, hq139_0⟩⟩)))))⟩), (by first | assumption | exact Or.inl rfl | exact Or.inr rfl | omega | exact Or.inr (by assumption) | exact zz_oku (by assumption) (by first | exact Or.inl rfl | exact Or.inr ⟨_, by omega, rfl⟩))⟩ (hw.sub [3, 4, 5, 6, 7, 0, 8, 9, 10, 1, 11, 12, 13, 14, 15, 16, 17, 18, 19, 20, 21, 2, 22, 23] (by decide +kernel) rfl) rfl dX10_part_95
      · skip
        refine lv_tableIn (off := 77) (tgt := 96) hx hb dX10_part_19 (by rw [qw11]; decide) (by rw [qw11]; decide) (by rw [qw11]; rfl) (by decide) ?_
        refine lv_aload_n hx hb dX10_part_96 rfl (lv_at hl 0 rfl) ?_
        refine zz_get (v := .ref (r 52)) S hw fgX10_116 3 rfl rfl dX10_part_97 ?_
        refine lv_iload_n hx hb dX10_part_100 rfl (lv_at hl 1 rfl) ?_
        obtain ⟨vz12, hvz12, evz12⟩ : ∃ z : Int32, zz_ok 7 z ∧ d52_10 vq3 = z := ⟨_, (show ∀ j, j < 6 → zz_ok 7 (d52_10 j) from by assumption) vq3 (by omega), rfl⟩
        refine zz_iald (v := vz12) S hw 23 rfl (vp_in_nI (n := vq3) (by omega) (by decide)) (by rw [show ((nI vq3) : Int32).toNatClampNeg = vq3 from nI_clamp (n := vq3) (by omega)]; exact evz12) dX10_part_101 ?_
        exact hret _ _ _ _ _ _ ⟨vz12, k47_7, k50_4, k51_5, d45_8, d46_9, d49_6, d52_10, rfl, rfl, (by first | exact zA0 (fun z => hq2_1 (by assumption) z.1) | exact zA0 (fun z => zA_o (n := 6) (hi := 5) (by decide) (by decide) (by assumption) z.2) | exact zA_pe (by assumption) (by decide) (zA_i.1 (by assumption)) ⟨_, _, hq11_0, hq15_0, Or.inl (⟨zA_i.1 (by assumption), rfl⟩)⟩ | exact zA_pe (by assumption) (by decide) (zA_i.2.1 (by assumption)) ⟨_, _, hq11_0, hq15_0, Or.inr (Or.inl (⟨zA_i.2.1 (by assumption), rfl⟩))⟩ | exact zA_pe (by assumption) (by decide) (zA_i.2.2.1 (by assumption)) ⟨_, _, hq11_0, hq15_0, Or.inr (Or.inr (Or.inl (⟨zA_i.2.2.1 (by assumption), rfl⟩)))⟩ | exact zA_pe (by assumption) (by decide) (zA_i.2.2.2.1 (by assumption)) ⟨_, _, hq11_0, hq15_0, Or.inr (Or.inr (Or.inr (Or.inl (⟨zA_i.2.2.2.1 (by assumption), Eq.symm (by assumption)⟩))))⟩ | exact zA_pe (by assumption) (by decide) (zA_i.2.2.2.2.1 (by assumption)) ⟨_, _, hq11_0, hq15_0, Or.inr (Or.inr (Or.inr (Or.inr (Or.inl (⟨zA_i.2.2.2.2.1 (by assumption), rfl⟩)))))⟩ | exact zA_pe (by assumption) (by decide) (zA_i.2.2.2.2.2.1 (by assumption)) ⟨_, _, hq11_0, hq15_0, Or.inr (Or.inr (Or.inr (Or.inr (Or.inr (⟨zA_i.2.2.2.2.2.1 (by assumption), Or.inl ⟨zA_lz (by assumption) (by first | assumption | exact Int32.not_le.mp (by assumption)), rfl⟩⟩)))))⟩ | exact zA_pe (by assumption) (by decide) (zA_i.2.2.2.2.2.1 (by assumption)) ⟨_, _, hq11_0, hq15_0, Or.inr (Or.inr (Or.inr (Or.inr (Or.inr (⟨zA_i.2.2.2.2.2.1 (by assumption), Or.inr ⟨_, by assumption, by assumption, hq139_0⟩⟩)))))⟩), (by first | assumption | exact Or.inl rfl | exact Or.inr rfl | omega | exact Or.inr (by assumption) | exact zz_oku (by assumption) (by first | exact Or.inl rfl | exact Or.inr ⟨_, by omega, rfl⟩))⟩ (hw.sub [3, 4, 5, 6, 7, 0, 8, 9, 10, 1, 11, 12, 13, 14, 15, 16, 17, 18, 19, 20, 21, 2, 22, 23] (by decide +kernel) rfl) rfl dX10_part_102
      · skip
        refine lv_tableIn (off := 84) (tgt := 103) hx hb dX10_part_19 (by rw [qw11]; decide) (by rw [qw11]; decide) (by rw [qw11]; rfl) (by decide) ?_
        refine lv_aload_n hx hb dX10_part_103 rfl (lv_at hl 0 rfl) ?_
        refine zz_get (v := .ref (r 27)) S hw fgX10_58 3 rfl rfl dX10_part_104 ?_
        refine lv_bipush (v := 6) hx hb dX10_part_107 (by decide) ?_
        refine lv_aload_n hx hb dX10_part_109 rfl (lv_at hl 0 rfl) ?_
        refine zz_get (v := .int (nI lv)) S hw fgX10_236 3 rfl rfl dX10_part_110 ?_
        refine W.eq (g2 := F0 m 113 ls [.int (nI lv), .int 6, .ref (r 27)]) rfl ?_
        refine lv_imul hx hb dX10_part_113 ?_
        refine zz_topi (y := (nI (6 * lv))) (pk_mul _ _) ?_
        refine lv_iload_n hx hb dX10_part_114 rfl (lv_at hl 1 rfl) ?_
        refine lv_iadd hx hb dX10_part_115 ?_
        refine zz_topi (y := (nI ((6 * lv) + vq3))) (nI_add _ _) ?_
        refine zz_iald (v := (c27 ((6 * lv) + vq3))) S hw 0 rfl (vp_in_nI (n := ((6 * lv) + vq3)) (by omega) (by decide)) (congrArg c27 (nI_clamp (n := ((6 * lv) + vq3)) (by omega))) dX10_part_116 ?_
        exact hret _ _ _ _ _ _ ⟨(c27 ((6 * lv) + vq3)), k47_7, k50_4, k51_5, d45_8, d46_9, d49_6, d52_10, rfl, rfl, (by first | exact zA0 (fun z => hq2_1 (by assumption) z.1) | exact zA0 (fun z => zA_o (n := 6) (hi := 5) (by decide) (by decide) (by assumption) z.2) | exact zA_pe (by assumption) (by decide) (zA_i.1 (by assumption)) ⟨_, _, hq11_0, hq15_0, Or.inl (⟨zA_i.1 (by assumption), rfl⟩)⟩ | exact zA_pe (by assumption) (by decide) (zA_i.2.1 (by assumption)) ⟨_, _, hq11_0, hq15_0, Or.inr (Or.inl (⟨zA_i.2.1 (by assumption), rfl⟩))⟩ | exact zA_pe (by assumption) (by decide) (zA_i.2.2.1 (by assumption)) ⟨_, _, hq11_0, hq15_0, Or.inr (Or.inr (Or.inl (⟨zA_i.2.2.1 (by assumption), rfl⟩)))⟩ | exact zA_pe (by assumption) (by decide) (zA_i.2.2.2.1 (by assumption)) ⟨_, _, hq11_0, hq15_0, Or.inr (Or.inr (Or.inr (Or.inl (⟨zA_i.2.2.2.1 (by assumption), Eq.symm (by assumption)⟩))))⟩ | exact zA_pe (by assumption) (by decide) (zA_i.2.2.2.2.1 (by assumption)) ⟨_, _, hq11_0, hq15_0, Or.inr (Or.inr (Or.inr (Or.inr (Or.inl (⟨zA_i.2.2.2.2.1 (by assumption), rfl⟩)))))⟩ | exact zA_pe (by assumption) (by decide) (zA_i.2.2.2.2.2.1 (by assumption)) ⟨_, _, hq11_0, hq15_0, Or.inr (Or.inr (Or.inr (Or.inr (Or.inr (⟨zA_i.2.2.2.2.2.1 (by assumption), Or.inl ⟨zA_lz (by assumption) (by first | assumption | exact Int32.not_le.mp (by assumption)), rfl⟩⟩)))))⟩ | exact zA_pe (by assumption) (by decide) (zA_i.2.2.2.2.2.1 (by assumption)) ⟨_, _, hq11_0, hq15_0, Or.inr (Or.inr (Or.inr (Or.inr (Or.inr (⟨zA_i.2.2.2.2.2.1 (by assumption), Or.inr ⟨_, by assumption, by assumption, hq139_0⟩⟩)))))⟩), (by first | assumption | exact Or.inl rfl | exact Or.inr rfl | omega | exact Or.inr (by assumption) | exact zz_oku (by assumption) (by first | exact Or.inl rfl | exact Or.inr ⟨_, by omega, rfl⟩))⟩ (hw.sub [3, 4, 5, 6, 7, 0, 8, 9, 10, 1, 11, 12, 13, 14, 15, 16, 17, 18, 19, 20, 21, 2, 22, 23] (by decide +kernel) rfl) rfl dX10_part_117
      · skip
        refine lv_tableIn (off := 99) (tgt := 118) hx hb dX10_part_19 (by rw [qw11]; decide) (by rw [qw11]; decide) (by rw [qw11]; rfl) (by decide) ?_
        refine lv_aload_n hx hb dX10_part_118 rfl (lv_at hl 0 rfl) ?_
        refine zz_get (v := .ref (r 52)) S hw fgX10_116 3 rfl rfl dX10_part_119 ?_
        refine lv_iload_n hx hb dX10_part_122 rfl (lv_at hl 1 rfl) ?_
        obtain ⟨vz13, hvz13, evz13⟩ : ∃ z : Int32, zz_ok 7 z ∧ d52_10 vq3 = z := ⟨_, (show ∀ j, j < 6 → zz_ok 7 (d52_10 j) from by assumption) vq3 (by omega), rfl⟩
        refine zz_iald (v := vz13) S hw 23 rfl (vp_in_nI (n := vq3) (by omega) (by decide)) (by rw [show ((nI vq3) : Int32).toNatClampNeg = vq3 from nI_clamp (n := vq3) (by omega)]; exact evz13) dX10_part_123 ?_
        refine lv_if_ge (tgt := 131) hx hb dX10_part_124 (by decide) (fun c124_14 => ?_) (fun c124_14 => ?_)
        · skip
          obtain ⟨vq15, hvq15, rfl⟩ := zz_okn hvz13 (Int32.not_lt.mpr c124_14)
          refine lv_aload_n hx hb dX10_part_131 rfl (lv_at hl 0 rfl) ?_
          refine lv_aload_n hx hb dX10_part_132 rfl (lv_at hl 0 rfl) ?_
          refine zz_get (v := .ref (r 52)) S hw fgX10_116 3 rfl rfl dX10_part_133 ?_
          refine lv_iload_n hx hb dX10_part_136 rfl (lv_at hl 1 rfl) ?_
          refine zz_iald (v := (nI vq15)) S hw 23 rfl (vp_in_nI (n := vq3) (by omega) (by decide)) (by rw [show ((nI vq3) : Int32).toNatClampNeg = vq3 from nI_clamp (n := vq3) (by omega)]; exact evz13) dX10_part_137 ?_
          refine lv_iload_n hx hb dX10_part_138 rfl (lv_at hl 1 rfl) ?_
          refine W.eq (g2 := F0 m 139 ls [.int (nI vq3), .int (nI vq15), .ref (r 0)]) rfl ?_
          refine zz_callV (qb := 3) (As := [.int (nI vq15), .int (nI vq3)]) (rest := []) (wr := [((r 27), .inl (G.2 0, 12, .inl c27)), ((r 31), .inl (G.2 0, 2, .inl c31)), ((r 48), .inl (G.2 0, 71, .inl c48)), ((r 22), .inl (G.2 0, 2, .inl c22)), ((r 26), .inl (G.2 0, 2, .inl c26)), ((r 30), .inl (G.2 0, 2, .inl c30)), ((r 52), .inl (G.2 0, 6, .inl d52_10))]) S hw hl.1 lX10_360 (c_x_dogsOf l G r j0 j2 j4 j10 j11 j12 j13 j14 j15 j16 j17 j19 j20 j34 j40 j44 k47_7 k50_4 k51_5 j56 j61 lv c24 c25 c28 c29 c32 c33 c35 c36 c37 c38 c39 c41 c42 d45_8 d46_9 d49_6 vq15 vq3 (by first | assumption | omega | exact Or.inr ⟨_, by omega, rfl⟩ | (unfold zz_sok; decide) | decide | exact (fun j hj => (hv7 j hj).1)) (by first | assumption | omega | exact Or.inr ⟨_, by omega, rfl⟩ | (unfold zz_sok; decide) | decide | exact (fun j hj => (hv7 j hj).1)) (by first | assumption | omega | exact Or.inr ⟨_, by omega, rfl⟩ | (unfold zz_sok; decide) | decide | exact (fun j hj => (hv7 j hj).1)) (by first | assumption | omega | exact Or.inr ⟨_, by omega, rfl⟩ | (unfold zz_sok; decide) | decide | exact (fun j hj => (hv7 j hj).1))) ⟨Nat.le_of_ble_eq_true rfl, Nat.le_of_ble_eq_true rfl⟩ ⟨Nat.le_of_ble_eq_true rfl, Nat.le_of_ble_eq_true rfl⟩ [3, 5, 6, 8, 9, 11, 12, 13, 14, 15, 16, 17, 18, 19, 20, 21, 22] [0, 1, 2, 4, 7, 10, 23] (by decide +kernel) rfl rfl (by decide +kernel) (by decide +kernel) rfl rfl rfl rfl (Nat.le_of_ble_eq_true rfl) dX10_part_139 ?_
          clear hw
          intro rr u H locs hp hw
          refine hp.elim fun rv_16 zg0 => zg0.elim fun k47_17 zg1 => zg1.elim fun d45_18 zg2 => zg2.elim fun d46_19 zg3 => zg3.elim fun zee1 zg4 => zg4.elim fun zee2 hq139_0 => ?_
          clear hp zg0 zg1 zg2 zg3 zg4
          subst zee1
          subst zee2
          replace hw : zz_w G A s [((r 27), .inl (G.2 0, 12, .inl c27)), ((r 31), .inl (G.2 0, 2, .inl c31)), ((r 48), .inl (G.2 0, 71, .inl c48)), ((r 22), .inl (G.2 0, 2, .inl c22)), ((r 26), .inl (G.2 0, 2, .inl c26)), ((r 30), .inl (G.2 0, 2, .inl c30)), ((r 52), .inl (G.2 0, 6, .inl d52_10)), ((r 0), .inr (10, (zz_mo r [(0, j0), (2, j2), (4, j4), (10, j10), (11, j11), (12, j12), (13, j13), (14, j14), (15, j15), (16, j16), (17, j17), (18, (nI lv)), (19, j19), (20, j20), (34, j34), (40, j40), (44, j44), (47, k47_17), (50, k50_4), (51, k51_5), (56, j56), (61, j61)]))), ((r 24), .inl (G.2 0, 14, .inl c24)), ((r 25), .inl (G.2 0, 14, .inl c25)), ((r 28), .inl (G.2 0, 12, .inl c28)), ((r 29), .inl (G.2 0, 12, .inl c29)), ((r 32), .inl (G.2 0, 8, .inl c32)), ((r 33), .inl (G.2 0, 8, .inl c33)), ((r 35), .inl (G.2 2, 260, .inl c35)), ((r 36), .inl (G.2 0, 260, .inl c36)), ((r 37), .inl (G.2 0, 260, .inl c37)), ((r 38), .inl (G.2 0, 260, .inl c38)), ((r 39), .inl (G.2 0, 260, .inl c39)), ((r 41), .inl (G.2 0, 840, .inl c41)), ((r 42), .inl (G.2 0, 840, .inl c42)), ((r 45), .inl (G.2 0, 9, .inl d45_18)), ((r 46), .inl (G.2 0, 400, .inl d46_19)), ((r 49), .inl (G.2 0, 71, .inl d49_6))] H _ := hw
          refine W.eq (g2 := F0 m 142 ls [.int rv_16]) rfl ?_
          exact hret _ _ _ _ _ _ ⟨rv_16, k47_17, k50_4, k51_5, d45_18, d46_19, d49_6, d52_10, rfl, rfl, (by first | exact zA0 (fun z => hq2_1 (by assumption) z.1) | exact zA0 (fun z => zA_o (n := 6) (hi := 5) (by decide) (by decide) (by assumption) z.2) | exact zA_pe (by assumption) (by decide) (zA_i.1 (by assumption)) ⟨_, _, hq11_0, hq15_0, Or.inl (⟨zA_i.1 (by assumption), rfl⟩)⟩ | exact zA_pe (by assumption) (by decide) (zA_i.2.1 (by assumption)) ⟨_, _, hq11_0, hq15_0, Or.inr (Or.inl (⟨zA_i.2.1 (by assumption), rfl⟩))⟩ | exact zA_pe (by assumption) (by decide) (zA_i.2.2.1 (by assumption)) ⟨_, _, hq11_0, hq15_0, Or.inr (Or.inr (Or.inl (⟨zA_i.2.2.1 (by assumption), rfl⟩)))⟩ | exact zA_pe (by assumption) (by decide) (zA_i.2.2.2.1 (by assumption)) ⟨_, _, hq11_0, hq15_0, Or.inr (Or.inr (Or.inr (Or.inl (⟨zA_i.2.2.2.1 (by assumption), Eq.symm (by assumption)⟩))))⟩ | exact zA_pe (by assumption) (by decide) (zA_i.2.2.2.2.1 (by assumption)) ⟨_, _, hq11_0, hq15_0, Or.inr (Or.inr (Or.inr (Or.inr (Or.inl (⟨zA_i.2.2.2.2.1 (by assumption), rfl⟩)))))⟩ | exact zA_pe (by assumption) (by decide) (zA_i.2.2.2.2.2.1 (by assumption)) ⟨_, _, hq11_0, hq15_0, Or.inr (Or.inr (Or.inr (Or.inr (Or.inr (⟨zA_i.2.2.2.2.2.1 (by assumption), Or.inl ⟨zA_lz (by assumption) (by first | assumption | exact Int32.not_le.mp (by assumption)), rfl⟩⟩)))))⟩ | exact zA_pe (by assumption) (by decide) (zA_i.2.2.2.2.2.1 (by assumption)) ⟨_, _, hq11_0, hq15_0, Or.inr (Or.inr (Or.inr (Or.inr (Or.inr (⟨zA_i.2.2.2.2.2.1 (by assumption), Or.inr ⟨_, by assumption, by assumption, hq139_0⟩⟩)))))⟩), (by first | assumption | exact Or.inl rfl | exact Or.inr rfl | omega | exact Or.inr (by assumption) | exact zz_oku (by assumption) (by first | exact Or.inl rfl | exact Or.inr ⟨_, by omega, rfl⟩))⟩ (hw.sub [7, 3, 8, 9, 4, 0, 10, 11, 5, 1, 12, 13, 14, 15, 16, 17, 18, 19, 20, 21, 22, 2, 23, 6] (by decide +kernel) rfl) rfl dX10_part_142
        · skip
          refine lv_iconst (v := 0) hx hb dX10_part_127 (by decide) ?_
          refine lv_goto (tgt := 142) hx hb dX10_part_128 (by decide) ?_
          exact hret _ _ _ _ _ _ ⟨0, k47_7, k50_4, k51_5, d45_8, d46_9, d49_6, d52_10, rfl, rfl, (by first | exact zA0 (fun z => hq2_1 (by assumption) z.1) | exact zA0 (fun z => zA_o (n := 6) (hi := 5) (by decide) (by decide) (by assumption) z.2) | exact zA_pe (by assumption) (by decide) (zA_i.1 (by assumption)) ⟨_, _, hq11_0, hq15_0, Or.inl (⟨zA_i.1 (by assumption), rfl⟩)⟩ | exact zA_pe (by assumption) (by decide) (zA_i.2.1 (by assumption)) ⟨_, _, hq11_0, hq15_0, Or.inr (Or.inl (⟨zA_i.2.1 (by assumption), rfl⟩))⟩ | exact zA_pe (by assumption) (by decide) (zA_i.2.2.1 (by assumption)) ⟨_, _, hq11_0, hq15_0, Or.inr (Or.inr (Or.inl (⟨zA_i.2.2.1 (by assumption), rfl⟩)))⟩ | exact zA_pe (by assumption) (by decide) (zA_i.2.2.2.1 (by assumption)) ⟨_, _, hq11_0, hq15_0, Or.inr (Or.inr (Or.inr (Or.inl (⟨zA_i.2.2.2.1 (by assumption), Eq.symm (by assumption)⟩))))⟩ | exact zA_pe (by assumption) (by decide) (zA_i.2.2.2.2.1 (by assumption)) ⟨_, _, hq11_0, hq15_0, Or.inr (Or.inr (Or.inr (Or.inr (Or.inl (⟨zA_i.2.2.2.2.1 (by assumption), rfl⟩)))))⟩ | exact zA_pe (by assumption) (by decide) (zA_i.2.2.2.2.2.1 (by assumption)) ⟨_, _, hq11_0, hq15_0, Or.inr (Or.inr (Or.inr (Or.inr (Or.inr (⟨zA_i.2.2.2.2.2.1 (by assumption), Or.inl ⟨zA_lz (by assumption) (by first | assumption | exact Int32.not_le.mp (by assumption)), rfl⟩⟩)))))⟩ | exact zA_pe (by assumption) (by decide) (zA_i.2.2.2.2.2.1 (by assumption)) ⟨_, _, hq11_0, hq15_0, Or.inr (Or.inr (Or.inr (Or.inr (Or.inr (⟨zA_i.2.2.2.2.2.1 (by assumption), Or.inr ⟨_, by assumption, by assumption, hq139_0⟩⟩)))))⟩), (by first | assumption | exact Or.inl rfl | exact Or.inr rfl | omega | exact Or.inr (by assumption) | exact zz_oku (by assumption) (by first | exact Or.inl rfl | exact Or.inr ⟨_, by omega, rfl⟩))⟩ (hw.sub [3, 4, 5, 6, 7, 0, 8, 9, 10, 1, 11, 12, 13, 14, 15, 16, 17, 18, 19, 20, 21, 2, 22, 23] (by decide +kernel) rfl) rfl dX10_part_142
  · skip
    refine lv_iconst (v := (-1)) hx hb dX10_part_8 (by decide) ?_
    exact hret _ _ _ _ _ _ ⟨(-1), j47, j50, j51, c45, c46, c49, c52, rfl, rfl, (by first | exact zA0 (fun z => hq2_1 (by assumption) z.1) | exact zA0 (fun z => zA_o (n := 6) (hi := 5) (by decide) (by decide) (by assumption) z.2) | exact zA_pe (by assumption) (by decide) (zA_i.1 (by assumption)) ⟨_, _, hq11_0, hq15_0, Or.inl (⟨zA_i.1 (by assumption), rfl⟩)⟩ | exact zA_pe (by assumption) (by decide) (zA_i.2.1 (by assumption)) ⟨_, _, hq11_0, hq15_0, Or.inr (Or.inl (⟨zA_i.2.1 (by assumption), rfl⟩))⟩ | exact zA_pe (by assumption) (by decide) (zA_i.2.2.1 (by assumption)) ⟨_, _, hq11_0, hq15_0, Or.inr (Or.inr (Or.inl (⟨zA_i.2.2.1 (by assumption), rfl⟩)))⟩ | exact zA_pe (by assumption) (by decide) (zA_i.2.2.2.1 (by assumption)) ⟨_, _, hq11_0, hq15_0, Or.inr (Or.inr (Or.inr (Or.inl (⟨zA_i.2.2.2.1 (by assumption), Eq.symm (by assumption)⟩))))⟩ | exact zA_pe (by assumption) (by decide) (zA_i.2.2.2.2.1 (by assumption)) ⟨_, _, hq11_0, hq15_0, Or.inr (Or.inr (Or.inr (Or.inr (Or.inl (⟨zA_i.2.2.2.2.1 (by assumption), rfl⟩)))))⟩ | exact zA_pe (by assumption) (by decide) (zA_i.2.2.2.2.2.1 (by assumption)) ⟨_, _, hq11_0, hq15_0, Or.inr (Or.inr (Or.inr (Or.inr (Or.inr (⟨zA_i.2.2.2.2.2.1 (by assumption), Or.inl ⟨zA_lz (by assumption) (by first | assumption | exact Int32.not_le.mp (by assumption)), rfl⟩⟩)))))⟩ | exact zA_pe (by assumption) (by decide) (zA_i.2.2.2.2.2.1 (by assumption)) ⟨_, _, hq11_0, hq15_0, Or.inr (Or.inr (Or.inr (Or.inr (Or.inr (⟨zA_i.2.2.2.2.2.1 (by assumption), Or.inr ⟨_, by assumption, by assumption, hq139_0⟩⟩)))))⟩), (by first | assumption | exact Or.inl rfl | exact Or.inr rfl | omega | exact Or.inr (by assumption) | exact zz_oku (by assumption) (by first | exact Or.inl rfl | exact Or.inr ⟨_, by omega, rfl⟩))⟩ (hw.sub [22, 0, 1, 2, 23, 3, 4, 5, 6, 7, 8, 9, 10, 11, 12, 13, 14, 15, 16, 17, 18, 19, 20, 21] (by decide +kernel) rfl) rfl dX10_part_9
theorem kd_ncX10_tells : kd_ck 90872175501930117581593654683560117337315957885964365486097527857774516829739089794727294226100464871545161878487381016417257807435547609742594178879136407700499113324847524818481319685870103400550053582172762555534260450992831300403069706314106231913611538543693018831658 113 cX10_tells.data.toList 0 = true := by decide +kernel
theorem dX10_tells_0 : decode cX10_tells 0 = .ok (.aload_n 0, 1) := kd_dk0 kd_o42 kd_ncX10_tells rfl
theorem dX10_tells_1 : decode cX10_tells 1 = .ok (.iload_n 1, 1) := kd_dk0 kd_o27 kd_ncX10_tells rfl
theorem dX10_tells_2 : decode cX10_tells 2 = .ok (.invokevirtual 373, 3) := kd_dk2 kd_o182 kd_ncX10_tells rfl
theorem dX10_tells_5 : decode cX10_tells 5 = .ok (.ifCond .eq 11, 3) := kd_dj2 kd_o153 (w := 11) kd_ncX10_tells rfl rfl
theorem dX10_tells_8 : decode cX10_tells 8 = .ok (.aload_n 0, 1) := kd_dk0 kd_o42 kd_ncX10_tells rfl
theorem dX10_tells_9 : decode cX10_tells 9 = .ok (.iload_n 2, 1) := kd_dk0 kd_o28 kd_ncX10_tells rfl
theorem dX10_tells_10 : decode cX10_tells 10 = .ok (.invokevirtual 382, 3) := kd_dk2 kd_o182 kd_ncX10_tells rfl
theorem dX10_tells_13 : decode cX10_tells 13 = .ok (.ifCond .ne 5, 3) := kd_dj2 kd_o154 (w := 5) kd_ncX10_tells rfl rfl
theorem dX10_tells_16 : decode cX10_tells 16 = .ok (.iconst (-1), 1) := kd_dk0 kd_o2 kd_ncX10_tells rfl
theorem dX10_tells_17 : decode cX10_tells 17 = .ok (.ireturn, 1) := kd_dk0 kd_o172 kd_ncX10_tells rfl
theorem dX10_tells_18 : decode cX10_tells 18 = .ok (.aload_n 0, 1) := kd_dk0 kd_o42 kd_ncX10_tells rfl
theorem dX10_tells_19 : decode cX10_tells 19 = .ok (.invokevirtual 323, 3) := kd_dk2 kd_o182 kd_ncX10_tells rfl
theorem dX10_tells_22 : decode cX10_tells 22 = .ok (.iload_n 3, 1) := kd_dk0 kd_o29 kd_ncX10_tells rfl
theorem dX10_tells_23 : decode cX10_tells 23 = .ok (.tableswitch 88 0 4 #[33, 40, 47, 54, 69], 33) := by decide +kernel
theorem dX10_tells_56 : decode cX10_tells 56 = .ok (.aload_n 0, 1) := kd_dk0 kd_o42 kd_ncX10_tells rfl
theorem dX10_tells_57 : decode cX10_tells 57 = .ok (.iload_n 1, 1) := kd_dk0 kd_o27 kd_ncX10_tells rfl
theorem dX10_tells_58 : decode cX10_tells 58 = .ok (.iload_n 2, 1) := kd_dk0 kd_o28 kd_ncX10_tells rfl
theorem dX10_tells_59 : decode cX10_tells 59 = .ok (.invokevirtual 348, 3) := kd_dk2 kd_o182 kd_ncX10_tells rfl
theorem dX10_tells_62 : decode cX10_tells 62 = .ok (.ireturn, 1) := kd_dk0 kd_o172 kd_ncX10_tells rfl
theorem dX10_tells_63 : decode cX10_tells 63 = .ok (.aload_n 0, 1) := kd_dk0 kd_o42 kd_ncX10_tells rfl
theorem dX10_tells_64 : decode cX10_tells 64 = .ok (.iload_n 1, 1) := kd_dk0 kd_o27 kd_ncX10_tells rfl
theorem dX10_tells_65 : decode cX10_tells 65 = .ok (.iload_n 2, 1) := kd_dk0 kd_o28 kd_ncX10_tells rfl
theorem dX10_tells_66 : decode cX10_tells 66 = .ok (.invokevirtual 354, 3) := kd_dk2 kd_o182 kd_ncX10_tells rfl
theorem dX10_tells_69 : decode cX10_tells 69 = .ok (.ireturn, 1) := kd_dk0 kd_o172 kd_ncX10_tells rfl
theorem dX10_tells_70 : decode cX10_tells 70 = .ok (.aload_n 0, 1) := kd_dk0 kd_o42 kd_ncX10_tells rfl
theorem dX10_tells_71 : decode cX10_tells 71 = .ok (.iload_n 1, 1) := kd_dk0 kd_o27 kd_ncX10_tells rfl
theorem dX10_tells_72 : decode cX10_tells 72 = .ok (.iload_n 2, 1) := kd_dk0 kd_o28 kd_ncX10_tells rfl
theorem dX10_tells_73 : decode cX10_tells 73 = .ok (.invokevirtual 363, 3) := kd_dk2 kd_o182 kd_ncX10_tells rfl
theorem dX10_tells_76 : decode cX10_tells 76 = .ok (.ireturn, 1) := kd_dk0 kd_o172 kd_ncX10_tells rfl
theorem dX10_tells_77 : decode cX10_tells 77 = .ok (.aload_n 0, 1) := kd_dk0 kd_o42 kd_ncX10_tells rfl
theorem dX10_tells_78 : decode cX10_tells 78 = .ok (.getfield 113, 3) := kd_dk2 kd_o180 kd_ncX10_tells rfl
theorem dX10_tells_81 : decode cX10_tells 81 = .ok (.bipush 27, 2) := kd_dj1 kd_o16 (w := 27) kd_ncX10_tells rfl rfl
theorem dX10_tells_83 : decode cX10_tells 83 = .ok (.bipush 6, 2) := kd_dj1 kd_o16 (w := 6) kd_ncX10_tells rfl rfl
theorem dX10_tells_85 : decode cX10_tells 85 = .ok (.iload_n 1, 1) := kd_dk0 kd_o27 kd_ncX10_tells rfl
theorem dX10_tells_86 : decode cX10_tells 86 = .ok (.imul, 1) := kd_dk0 kd_o104 kd_ncX10_tells rfl
theorem dX10_tells_87 : decode cX10_tells 87 = .ok (.iadd, 1) := kd_dk0 kd_o96 kd_ncX10_tells rfl
theorem dX10_tells_88 : decode cX10_tells 88 = .ok (.iload_n 2, 1) := kd_dk0 kd_o28 kd_ncX10_tells rfl
theorem dX10_tells_89 : decode cX10_tells 89 = .ok (.iadd, 1) := kd_dk0 kd_o96 kd_ncX10_tells rfl
theorem dX10_tells_90 : decode cX10_tells 90 = .ok (.iaload, 1) := kd_dk0 kd_o46 kd_ncX10_tells rfl
theorem dX10_tells_91 : decode cX10_tells 91 = .ok (.ireturn, 1) := kd_dk0 kd_o172 kd_ncX10_tells rfl
theorem dX10_tells_92 : decode cX10_tells 92 = .ok (.aload_n 0, 1) := kd_dk0 kd_o42 kd_ncX10_tells rfl
theorem dX10_tells_93 : decode cX10_tells 93 = .ok (.getfield 113, 3) := kd_dk2 kd_o180 kd_ncX10_tells rfl
theorem dX10_tells_96 : decode cX10_tells 96 = .ok (.iload_n 1, 1) := kd_dk0 kd_o27 kd_ncX10_tells rfl
theorem dX10_tells_97 : decode cX10_tells 97 = .ok (.iaload, 1) := kd_dk0 kd_o46 kd_ncX10_tells rfl
theorem dX10_tells_98 : decode cX10_tells 98 = .ok (.aload_n 0, 1) := kd_dk0 kd_o42 kd_ncX10_tells rfl
theorem dX10_tells_99 : decode cX10_tells 99 = .ok (.getfield 113, 3) := kd_dk2 kd_o180 kd_ncX10_tells rfl
theorem dX10_tells_102 : decode cX10_tells 102 = .ok (.bipush 21, 2) := kd_dj1 kd_o16 (w := 21) kd_ncX10_tells rfl rfl
theorem dX10_tells_104 : decode cX10_tells 104 = .ok (.iload_n 2, 1) := kd_dk0 kd_o28 kd_ncX10_tells rfl
theorem dX10_tells_105 : decode cX10_tells 105 = .ok (.iadd, 1) := kd_dk0 kd_o96 kd_ncX10_tells rfl
theorem dX10_tells_106 : decode cX10_tells 106 = .ok (.iaload, 1) := kd_dk0 kd_o46 kd_ncX10_tells rfl
theorem dX10_tells_107 : decode cX10_tells 107 = .ok (.invokestatic 330, 3) := kd_dk2 kd_o184 kd_ncX10_tells rfl
theorem dX10_tells_110 : decode cX10_tells 110 = .ok (.ireturn, 1) := kd_dk0 kd_o172 kd_ncX10_tells rfl
theorem dX10_tells_111 : decode cX10_tells 111 = .ok (.iconst (-1), 1) := kd_dk0 kd_o2 kd_ncX10_tells rfl
theorem dX10_tells_112 : decode cX10_tells 112 = .ok (.ireturn, 1) := kd_dk0 kd_o172 kd_ncX10_tells rfl
set_option maxHeartbeats 8000000 in
set_option maxRecDepth 100000 in
theorem c_x_tells (l : Launch) (G : zz_G) (r : Nat → Nat) (j0 : Int32) (j2 : Int32) (j4 : Int32) (j10 : Int32) (j11 : Int32) (j12 : Int32) (j13 : Int32) (j14 : Int32) (j15 : Int32) (j16 : Int32) (j17 : Int32) (j19 : Int32) (j20 : Int32) (j34 : Int32) (j40 : Int32) (j44 : Int32) (j47 : Int32) (j50 : Int32) (j51 : Int32) (j56 : Int32) (j61 : Int32) (lv : Nat) (pp : Nat) (pq : Nat) (c22 : Nat → Int32) (c24 : Nat → Int32) (c25 : Nat → Int32) (c26 : Nat → Int32) (c28 : Nat → Int32) (c29 : Nat → Int32) (c30 : Nat → Int32) (c31 : Nat → Int32) (c32 : Nat → Int32) (c33 : Nat → Int32) (c35 : Nat → Int32) (c36 : Nat → Int32) (c37 : Nat → Int32) (c38 : Nat → Int32) (c39 : Nat → Int32) (c41 : Nat → Int32) (c42 : Nat → Int32) (c45 : Nat → Int32) (c46 : Nat → Int32) (c48 : Nat → Int32) (c49 : Nat → Int32) (ar1 : Int32) (ar2 : Int32) (ar3 : Int32) (hlv : lv ≤ 1) (hpe : c22 lv = nI pp) (hpp : pp ≤ 7) (hpa : c26 lv = nI pq) (hpq : pq ≤ 6) (hlw : zz_LW 2 0 0 c32 c33 c35 c36 c37 c38 c39 c41 c42) : zz_M l G mX10_tells 4 0 0 [.ref (r 0), .int ar1, .int ar2, .int ar3] [((r 0), .inr (10, (zz_mo r [(0, j0), (2, j2), (4, j4), (10, j10), (11, j11), (12, j12), (13, j13), (14, j14), (15, j15), (16, j16), (17, j17), (18, (nI lv)), (19, j19), (20, j20), (34, j34), (40, j40), (44, j44), (47, j47), (50, j50), (51, j51), (56, j56), (61, j61)]))), ((r 22), .inl (G.2 0, 2, .inl c22)), ((r 24), .inl (G.2 0, 14, .inl c24)), ((r 25), .inl (G.2 0, 14, .inl c25)), ((r 26), .inl (G.2 0, 2, .inl c26)), ((r 28), .inl (G.2 0, 12, .inl c28)), ((r 29), .inl (G.2 0, 12, .inl c29)), ((r 30), .inl (G.2 0, 2, .inl c30)), ((r 31), .inl (G.2 0, 2, .inl c31)), ((r 32), .inl (G.2 0, 8, .inl c32)), ((r 33), .inl (G.2 0, 8, .inl c33)), ((r 35), .inl (G.2 2, 260, .inl c35)), ((r 36), .inl (G.2 0, 260, .inl c36)), ((r 37), .inl (G.2 0, 260, .inl c37)), ((r 38), .inl (G.2 0, 260, .inl c38)), ((r 39), .inl (G.2 0, 260, .inl c39)), ((r 41), .inl (G.2 0, 840, .inl c41)), ((r 42), .inl (G.2 0, 840, .inl c42)), ((r 45), .inl (G.2 0, 9, .inl c45)), ((r 46), .inl (G.2 0, 400, .inl c46)), ((r 48), .inl (G.2 0, 71, .inl c48)), ((r 49), .inl (G.2 0, 71, .inl c49))] (fun rr u => ∃ (rv : Int32), ∃ (k47 : Int32), ∃ (k50 : Int32), ∃ (k51 : Int32), ∃ (d45 : Nat → Int32), ∃ (d46 : Nat → Int32), ∃ (d49 : Nat → Int32), rr = some (.int rv) ∧ u = [((r 0), .inr (10, (zz_mo r [(0, j0), (2, j2), (4, j4), (10, j10), (11, j11), (12, j12), (13, j13), (14, j14), (15, j15), (16, j16), (17, j17), (18, (nI lv)), (19, j19), (20, j20), (34, j34), (40, j40), (44, j44), (47, k47), (50, k50), (51, k51), (56, j56), (61, j61)]))), ((r 22), .inl (G.2 0, 2, .inl c22)), ((r 24), .inl (G.2 0, 14, .inl c24)), ((r 25), .inl (G.2 0, 14, .inl c25)), ((r 26), .inl (G.2 0, 2, .inl c26)), ((r 28), .inl (G.2 0, 12, .inl c28)), ((r 29), .inl (G.2 0, 12, .inl c29)), ((r 30), .inl (G.2 0, 2, .inl c30)), ((r 31), .inl (G.2 0, 2, .inl c31)), ((r 32), .inl (G.2 0, 8, .inl c32)), ((r 33), .inl (G.2 0, 8, .inl c33)), ((r 35), .inl (G.2 2, 260, .inl c35)), ((r 36), .inl (G.2 0, 260, .inl c36)), ((r 37), .inl (G.2 0, 260, .inl c37)), ((r 38), .inl (G.2 0, 260, .inl c38)), ((r 39), .inl (G.2 0, 260, .inl c39)), ((r 41), .inl (G.2 0, 840, .inl c41)), ((r 42), .inl (G.2 0, 840, .inl c42)), ((r 45), .inl (G.2 0, 9, .inl d45)), ((r 46), .inl (G.2 0, 400, .inl d46)), ((r 48), .inl (G.2 0, 71, .inl c48)), ((r 49), .inl (G.2 0, 71, .inl d49))] ∧ (zA (zz_In pp ar1 ∧ zz_In pq ar2 ∧ zz_In 5 ar3) (∃ a p : Nat, a < pp ∧ p < pq ∧ ar1 = nI a ∧ ar2 = nI p ∧ ∃ τ, zy_q 71 c48 τ ∧ ((ar3 = nI 0 ∧ zr_MS lv 0 c32 c33 c35 c36 c37 c38 c39 c41 c42 (zm_fc zr_ro zr_of (τ a) (τ (21 + p)) (c24 (7 * lv + a)) (c28 (6 * lv + p)) (c25 (7 * lv + a)) (c29 (6 * lv + p)) (τ 69) (τ (27 + 6 * a + p)) p) 99 rv) ∨ (ar3 = nI 1 ∧ zr_MS lv 1 c32 c33 c35 c36 c37 c38 c39 c41 c42 (zm_fc zr_ro zr_of (τ a) (τ (21 + p)) (c24 (7 * lv + a)) (c28 (6 * lv + p)) (c25 (7 * lv + a)) (c29 (6 * lv + p)) (τ 69) (τ (27 + 6 * a + p)) p) 99 rv) ∨ (ar3 = nI 2 ∧ zr_MS lv 2 c32 c33 c35 c36 c37 c38 c39 c41 c42 (zm_fc zr_ro zr_of (τ a) (τ (21 + p)) (c24 (7 * lv + a)) (c28 (6 * lv + p)) (c25 (7 * lv + a)) (c29 (6 * lv + p)) (τ 69) (τ (27 + 6 * a + p)) p) 99 rv) ∨ (ar3 = nI 3 ∧ rv = τ (27 + 6 * a + p)) ∨ (ar3 = nI 4 ∧ rv = zr_ro (τ a) (τ (21 + p))))) rv (-1))) := by
  refine zz_enteri (by decide +kernel) (Nat.le_of_ble_eq_true rfl) ?_
  intro p e s m args below meth c A Q ls S hnm hret hw hl
  have hl : lv_has ls 4 [(0, .ref (r 0)), (1, .int ar1), (2, .int ar2), (3, .int ar3)] := hl
  have hx := S.1
  have hb := S.2.1
  refine lv_aload_n hx hb dX10_tells_0 rfl (lv_at hl 0 rfl) ?_
  refine lv_iload_n hx hb dX10_tells_1 rfl (lv_at hl 1 rfl) ?_
  refine zz_callV (qb := 0) (As := [.int ar1]) (rest := []) (wr := [((r 24), .inl (G.2 0, 14, .inl c24)), ((r 25), .inl (G.2 0, 14, .inl c25)), ((r 26), .inl (G.2 0, 2, .inl c26)), ((r 28), .inl (G.2 0, 12, .inl c28)), ((r 29), .inl (G.2 0, 12, .inl c29)), ((r 30), .inl (G.2 0, 2, .inl c30)), ((r 31), .inl (G.2 0, 2, .inl c31)), ((r 32), .inl (G.2 0, 8, .inl c32)), ((r 33), .inl (G.2 0, 8, .inl c33)), ((r 35), .inl (G.2 2, 260, .inl c35)), ((r 36), .inl (G.2 0, 260, .inl c36)), ((r 37), .inl (G.2 0, 260, .inl c37)), ((r 38), .inl (G.2 0, 260, .inl c38)), ((r 39), .inl (G.2 0, 260, .inl c39)), ((r 41), .inl (G.2 0, 840, .inl c41)), ((r 42), .inl (G.2 0, 840, .inl c42)), ((r 45), .inl (G.2 0, 9, .inl c45)), ((r 46), .inl (G.2 0, 400, .inl c46)), ((r 48), .inl (G.2 0, 71, .inl c48)), ((r 49), .inl (G.2 0, 71, .inl c49))]) S hw hl.1 lX10_373 (c_x_isPerson l G r j0 j2 j4 j10 j11 j12 j13 j14 j15 j16 j17 j19 j20 j34 j40 j44 j47 j50 j51 j56 j61 lv pp c22 ar1 (by first | assumption | omega | exact Or.inr ⟨_, by omega, rfl⟩ | (unfold zz_sok; decide) | decide | exact (fun j hj => (hv7 j hj).1)) (by first | assumption | omega | exact Or.inr ⟨_, by omega, rfl⟩ | (unfold zz_sok; decide) | decide | exact (fun j hj => (hv7 j hj).1)) (by first | assumption | omega | exact Or.inr ⟨_, by omega, rfl⟩ | (unfold zz_sok; decide) | decide | exact (fun j hj => (hv7 j hj).1))) ⟨Nat.le_of_ble_eq_true rfl, Nat.le_of_ble_eq_true rfl⟩ ⟨Nat.le_of_ble_eq_true rfl, Nat.le_of_ble_eq_true rfl⟩ [0, 1] [2, 3, 4, 5, 6, 7, 8, 9, 10, 11, 12, 13, 14, 15, 16, 17, 18, 19, 20, 21] (by decide +kernel) rfl rfl (by decide +kernel) (by decide +kernel) rfl rfl rfl rfl (Nat.le_of_ble_eq_true rfl) dX10_tells_2 ?_
  clear hw
  intro rr u H locs hp hw
  refine hp.elim fun rv_1 zg0 => zg0.elim fun zee1 zg1 => zg1.elim fun zee2 zg2 => zg2.elim fun hq2_0 zg3 => zg3.elim fun hq2_1 hq2_2 => ?_
  clear hp zg0 zg1 zg2 zg3
  subst zee1
  subst zee2
  replace hw : zz_w G A s [((r 24), .inl (G.2 0, 14, .inl c24)), ((r 25), .inl (G.2 0, 14, .inl c25)), ((r 26), .inl (G.2 0, 2, .inl c26)), ((r 28), .inl (G.2 0, 12, .inl c28)), ((r 29), .inl (G.2 0, 12, .inl c29)), ((r 30), .inl (G.2 0, 2, .inl c30)), ((r 31), .inl (G.2 0, 2, .inl c31)), ((r 32), .inl (G.2 0, 8, .inl c32)), ((r 33), .inl (G.2 0, 8, .inl c33)), ((r 35), .inl (G.2 2, 260, .inl c35)), ((r 36), .inl (G.2 0, 260, .inl c36)), ((r 37), .inl (G.2 0, 260, .inl c37)), ((r 38), .inl (G.2 0, 260, .inl c38)), ((r 39), .inl (G.2 0, 260, .inl c39)), ((r 41), .inl (G.2 0, 840, .inl c41)), ((r 42), .inl (G.2 0, 840, .inl c42)), ((r 45), .inl (G.2 0, 9, .inl c45)), ((r 46), .inl (G.2 0, 400, .inl c46)), ((r 48), .inl (G.2 0, 71, .inl c48)), ((r 49), .inl (G.2 0, 71, .inl c49)), ((r 0), .inr (10, (zz_mo r [(0, j0), (2, j2), (4, j4), (10, j10), (11, j11), (12, j12), (13, j13), (14, j14), (15, j15), (16, j16), (17, j17), (18, (nI lv)), (19, j19), (20, j20), (34, j34), (40, j40), (44, j44), (47, j47), (50, j50), (51, j51), (56, j56), (61, j61)]))), ((r 22), .inl (G.2 0, 2, .inl c22))] H _ := hw
  refine W.eq (g2 := F0 m 5 ls [.int rv_1]) rfl ?_
  refine lv_if_eq (tgt := 16) hx hb dX10_tells_5 (by decide) (fun c5_2 => ?_) (fun c5_2 => ?_)
  · skip
    refine lv_iconst (v := (-1)) hx hb dX10_tells_16 (by decide) ?_
    exact hret _ _ _ _ _ _ ⟨(-1), j47, j50, j51, c45, c46, c49, rfl, rfl, (by first | exact zA0 (fun z => hq2_1 (by assumption) z.1) | exact zA0 (fun z => hq10_1 (by assumption) z.2.1) | exact zA0 (fun z => zA_o (n := 5) (hi := 4) (by decide) (by decide) (by assumption) z.2.2) | exact zA_tl (by assumption) (by assumption) (by decide) (zA_i.1 (by assumption)) ⟨_, hq19_0, Or.inl (⟨zA_i.1 (by assumption), hq59_0⟩)⟩ | exact zA_tl (by assumption) (by assumption) (by decide) (zA_i.2.1 (by assumption)) ⟨_, hq19_0, Or.inr (Or.inl (⟨zA_i.2.1 (by assumption), hq66_0⟩))⟩ | exact zA_tl (by assumption) (by assumption) (by decide) (zA_i.2.2.1 (by assumption)) ⟨_, hq19_0, Or.inr (Or.inr (Or.inl (⟨zA_i.2.2.1 (by assumption), hq73_0⟩)))⟩ | exact zA_tl (by assumption) (by assumption) (by decide) (zA_i.2.2.2.1 (by assumption)) ⟨_, hq19_0, Or.inr (Or.inr (Or.inr (Or.inl (⟨zA_i.2.2.2.1 (by assumption), rfl⟩))))⟩ | exact zA_tl (by assumption) (by assumption) (by decide) (zA_i.2.2.2.2.1 (by assumption)) ⟨_, hq19_0, Or.inr (Or.inr (Or.inr (Or.inr (⟨zA_i.2.2.2.2.1 (by assumption), hq107_0⟩))))⟩)⟩ (hw.sub [20, 21, 0, 1, 2, 3, 4, 5, 6, 7, 8, 9, 10, 11, 12, 13, 14, 15, 16, 17, 18, 19] (by decide +kernel) rfl) rfl dX10_tells_17
  · skip
    obtain ⟨vq3, hvq3, rfl⟩ := hq2_0.resolve_left c5_2
    refine lv_aload_n hx hb dX10_tells_8 rfl (lv_at hl 0 rfl) ?_
    refine lv_iload_n hx hb dX10_tells_9 rfl (lv_at hl 2 rfl) ?_
    refine zz_callV (qb := 20) (As := [.int ar2]) (rest := []) (wr := [((r 24), .inl (G.2 0, 14, .inl c24)), ((r 25), .inl (G.2 0, 14, .inl c25)), ((r 28), .inl (G.2 0, 12, .inl c28)), ((r 29), .inl (G.2 0, 12, .inl c29)), ((r 30), .inl (G.2 0, 2, .inl c30)), ((r 31), .inl (G.2 0, 2, .inl c31)), ((r 32), .inl (G.2 0, 8, .inl c32)), ((r 33), .inl (G.2 0, 8, .inl c33)), ((r 35), .inl (G.2 2, 260, .inl c35)), ((r 36), .inl (G.2 0, 260, .inl c36)), ((r 37), .inl (G.2 0, 260, .inl c37)), ((r 38), .inl (G.2 0, 260, .inl c38)), ((r 39), .inl (G.2 0, 260, .inl c39)), ((r 41), .inl (G.2 0, 840, .inl c41)), ((r 42), .inl (G.2 0, 840, .inl c42)), ((r 45), .inl (G.2 0, 9, .inl c45)), ((r 46), .inl (G.2 0, 400, .inl c46)), ((r 48), .inl (G.2 0, 71, .inl c48)), ((r 49), .inl (G.2 0, 71, .inl c49)), ((r 22), .inl (G.2 0, 2, .inl c22))]) S hw hl.1 lX10_382 (c_x_isPart l G r j0 j2 j4 j10 j11 j12 j13 j14 j15 j16 j17 j19 j20 j34 j40 j44 j47 j50 j51 j56 j61 lv pq c26 ar2 (by first | assumption | omega | exact Or.inr ⟨_, by omega, rfl⟩ | (unfold zz_sok; decide) | decide | exact (fun j hj => (hv7 j hj).1)) (by first | assumption | omega | exact Or.inr ⟨_, by omega, rfl⟩ | (unfold zz_sok; decide) | decide | exact (fun j hj => (hv7 j hj).1)) (by first | assumption | omega | exact Or.inr ⟨_, by omega, rfl⟩ | (unfold zz_sok; decide) | decide | exact (fun j hj => (hv7 j hj).1))) ⟨Nat.le_of_ble_eq_true rfl, Nat.le_of_ble_eq_true rfl⟩ ⟨Nat.le_of_ble_eq_true rfl, Nat.le_of_ble_eq_true rfl⟩ [20, 2] [0, 1, 3, 4, 5, 6, 7, 8, 9, 10, 11, 12, 13, 14, 15, 16, 17, 18, 19, 21] (by decide +kernel) rfl rfl (by decide +kernel) (by decide +kernel) rfl rfl rfl rfl (Nat.le_of_ble_eq_true rfl) dX10_tells_10 ?_
    clear hw
    intro rr u H locs hp hw
    refine hp.elim fun rv_4 zg0 => zg0.elim fun zee1 zg1 => zg1.elim fun zee2 zg2 => zg2.elim fun hq10_0 zg3 => zg3.elim fun hq10_1 hq10_2 => ?_
    clear hp zg0 zg1 zg2 zg3
    subst zee1
    subst zee2
    replace hw : zz_w G A s [((r 24), .inl (G.2 0, 14, .inl c24)), ((r 25), .inl (G.2 0, 14, .inl c25)), ((r 28), .inl (G.2 0, 12, .inl c28)), ((r 29), .inl (G.2 0, 12, .inl c29)), ((r 30), .inl (G.2 0, 2, .inl c30)), ((r 31), .inl (G.2 0, 2, .inl c31)), ((r 32), .inl (G.2 0, 8, .inl c32)), ((r 33), .inl (G.2 0, 8, .inl c33)), ((r 35), .inl (G.2 2, 260, .inl c35)), ((r 36), .inl (G.2 0, 260, .inl c36)), ((r 37), .inl (G.2 0, 260, .inl c37)), ((r 38), .inl (G.2 0, 260, .inl c38)), ((r 39), .inl (G.2 0, 260, .inl c39)), ((r 41), .inl (G.2 0, 840, .inl c41)), ((r 42), .inl (G.2 0, 840, .inl c42)), ((r 45), .inl (G.2 0, 9, .inl c45)), ((r 46), .inl (G.2 0, 400, .inl c46)), ((r 48), .inl (G.2 0, 71, .inl c48)), ((r 49), .inl (G.2 0, 71, .inl c49)), ((r 22), .inl (G.2 0, 2, .inl c22)), ((r 0), .inr (10, (zz_mo r [(0, j0), (2, j2), (4, j4), (10, j10), (11, j11), (12, j12), (13, j13), (14, j14), (15, j15), (16, j16), (17, j17), (18, (nI lv)), (19, j19), (20, j20), (34, j34), (40, j40), (44, j44), (47, j47), (50, j50), (51, j51), (56, j56), (61, j61)]))), ((r 26), .inl (G.2 0, 2, .inl c26))] H _ := hw
    refine W.eq (g2 := F0 m 13 ls [.int rv_4]) rfl ?_
    refine lv_if_ne (tgt := 18) hx hb dX10_tells_13 (by decide) (fun c13_5 => ?_) (fun c13_5 => ?_)
    · skip
      obtain ⟨vq6, hvq6, rfl⟩ := hq10_0.resolve_left c13_5
      refine lv_aload_n hx hb dX10_tells_18 rfl (lv_at hl 0 rfl) ?_
      refine zz_callV (qb := 20) (As := []) (rest := []) (wr := [((r 24), .inl (G.2 0, 14, .inl c24)), ((r 25), .inl (G.2 0, 14, .inl c25)), ((r 28), .inl (G.2 0, 12, .inl c28)), ((r 29), .inl (G.2 0, 12, .inl c29)), ((r 30), .inl (G.2 0, 2, .inl c30)), ((r 32), .inl (G.2 0, 8, .inl c32)), ((r 33), .inl (G.2 0, 8, .inl c33)), ((r 35), .inl (G.2 2, 260, .inl c35)), ((r 36), .inl (G.2 0, 260, .inl c36)), ((r 37), .inl (G.2 0, 260, .inl c37)), ((r 38), .inl (G.2 0, 260, .inl c38)), ((r 39), .inl (G.2 0, 260, .inl c39)), ((r 41), .inl (G.2 0, 840, .inl c41)), ((r 42), .inl (G.2 0, 840, .inl c42)), ((r 45), .inl (G.2 0, 9, .inl c45)), ((r 46), .inl (G.2 0, 400, .inl c46)), ((r 22), .inl (G.2 0, 2, .inl c22)), ((r 26), .inl (G.2 0, 2, .inl c26))]) S hw hl.1 lX10_323 (c_x_copies l G r j0 j2 j4 j10 j11 j12 j13 j14 j15 j16 j17 j19 j20 j34 j40 j44 j47 j50 j51 j56 j61 lv c31 c48 c49 (by first | assumption | omega | exact Or.inr ⟨_, by omega, rfl⟩ | (unfold zz_sok; decide) | decide | exact (fun j hj => (hv7 j hj).1))) ⟨Nat.le_of_ble_eq_true rfl, Nat.le_of_ble_eq_true rfl⟩ ⟨Nat.le_of_ble_eq_true rfl, Nat.le_of_ble_eq_true rfl⟩ [20, 5, 17, 18] [0, 1, 2, 3, 4, 6, 7, 8, 9, 10, 11, 12, 13, 14, 15, 16, 19, 21] (by decide +kernel) rfl rfl (by decide +kernel) (by decide +kernel) rfl rfl rfl rfl (Nat.le_of_ble_eq_true rfl) dX10_tells_19 ?_
      clear hw
      intro rr u H locs hp hw
      refine hp.elim fun k50_7 zg0 => zg0.elim fun k51_8 zg1 => zg1.elim fun d49_9 zg2 => zg2.elim fun zee1 zg3 => zg3.elim fun zee2 zg4 => zg4.elim fun hq19_0 zg5 => zg5.elim fun hq19_1 hq19_2 => ?_
      clear hp zg0 zg1 zg2 zg3 zg4 zg5
      subst zee1
      subst zee2
      replace hw : zz_w G A s [((r 24), .inl (G.2 0, 14, .inl c24)), ((r 25), .inl (G.2 0, 14, .inl c25)), ((r 28), .inl (G.2 0, 12, .inl c28)), ((r 29), .inl (G.2 0, 12, .inl c29)), ((r 30), .inl (G.2 0, 2, .inl c30)), ((r 32), .inl (G.2 0, 8, .inl c32)), ((r 33), .inl (G.2 0, 8, .inl c33)), ((r 35), .inl (G.2 2, 260, .inl c35)), ((r 36), .inl (G.2 0, 260, .inl c36)), ((r 37), .inl (G.2 0, 260, .inl c37)), ((r 38), .inl (G.2 0, 260, .inl c38)), ((r 39), .inl (G.2 0, 260, .inl c39)), ((r 41), .inl (G.2 0, 840, .inl c41)), ((r 42), .inl (G.2 0, 840, .inl c42)), ((r 45), .inl (G.2 0, 9, .inl c45)), ((r 46), .inl (G.2 0, 400, .inl c46)), ((r 22), .inl (G.2 0, 2, .inl c22)), ((r 26), .inl (G.2 0, 2, .inl c26)), ((r 0), .inr (10, (zz_mo r [(0, j0), (2, j2), (4, j4), (10, j10), (11, j11), (12, j12), (13, j13), (14, j14), (15, j15), (16, j16), (17, j17), (18, (nI lv)), (19, j19), (20, j20), (34, j34), (40, j40), (44, j44), (47, j47), (50, k50_7), (51, k51_8), (56, j56), (61, j61)]))), ((r 31), .inl (G.2 0, 2, .inl c31)), ((r 48), .inl (G.2 0, 71, .inl c48)), ((r 49), .inl (G.2 0, 71, .inl d49_9))] H _ := hw
      refine W.eq (g2 := F0 m 22 ls []) rfl ?_
      refine lv_iload_n hx hb dX10_tells_22 rfl (lv_at hl 3 rfl) ?_
      rcases zz_sw ar3 0 4 (by decide) (by decide) with hw10 | hw10
      · skip
        refine lv_tableOut (tgt := 111) hx hb dX10_tells_23 hw10 (by decide) ?_
        refine lv_iconst (v := (-1)) hx hb dX10_tells_111 (by decide) ?_
        exact hret _ _ _ _ _ _ ⟨(-1), j47, k50_7, k51_8, c45, c46, d49_9, rfl, rfl, (by first | exact zA0 (fun z => hq2_1 (by assumption) z.1) | exact zA0 (fun z => hq10_1 (by assumption) z.2.1) | exact zA0 (fun z => zA_o (n := 5) (hi := 4) (by decide) (by decide) (by assumption) z.2.2) | exact zA_tl (by assumption) (by assumption) (by decide) (zA_i.1 (by assumption)) ⟨_, hq19_0, Or.inl (⟨zA_i.1 (by assumption), hq59_0⟩)⟩ | exact zA_tl (by assumption) (by assumption) (by decide) (zA_i.2.1 (by assumption)) ⟨_, hq19_0, Or.inr (Or.inl (⟨zA_i.2.1 (by assumption), hq66_0⟩))⟩ | exact zA_tl (by assumption) (by assumption) (by decide) (zA_i.2.2.1 (by assumption)) ⟨_, hq19_0, Or.inr (Or.inr (Or.inl (⟨zA_i.2.2.1 (by assumption), hq73_0⟩)))⟩ | exact zA_tl (by assumption) (by assumption) (by decide) (zA_i.2.2.2.1 (by assumption)) ⟨_, hq19_0, Or.inr (Or.inr (Or.inr (Or.inl (⟨zA_i.2.2.2.1 (by assumption), rfl⟩))))⟩ | exact zA_tl (by assumption) (by assumption) (by decide) (zA_i.2.2.2.2.1 (by assumption)) ⟨_, hq19_0, Or.inr (Or.inr (Or.inr (Or.inr (⟨zA_i.2.2.2.2.1 (by assumption), hq107_0⟩))))⟩)⟩ (hw.sub [18, 16, 0, 1, 17, 2, 3, 4, 19, 5, 6, 7, 8, 9, 10, 11, 12, 13, 14, 15, 20, 21] (by decide +kernel) rfl) rfl dX10_tells_112
      · rcases (show (ar3 : Int32).toInt = 0 ∨ (ar3 : Int32).toInt = 1 ∨ (ar3 : Int32).toInt = 2 ∨ (ar3 : Int32).toInt = 3 ∨ (ar3 : Int32).toInt = 4 by omega) with qw10 | qw10 | qw10 | qw10 | qw10
        · skip
          refine lv_tableIn (off := 33) (tgt := 56) hx hb dX10_tells_23 (by rw [qw10]; decide) (by rw [qw10]; decide) (by rw [qw10]; rfl) (by decide) ?_
          refine lv_aload_n hx hb dX10_tells_56 rfl (lv_at hl 0 rfl) ?_
          refine lv_iload_n hx hb dX10_tells_57 rfl (lv_at hl 1 rfl) ?_
          refine lv_iload_n hx hb dX10_tells_58 rfl (lv_at hl 2 rfl) ?_
          refine W.eq (g2 := F0 m 59 ls [.int (nI vq6), .int (nI vq3), .ref (r 0)]) rfl ?_
          refine zz_callV (qb := 18) (As := [.int (nI vq3), .int (nI vq6)]) (rest := []) (wr := [((r 30), .inl (G.2 0, 2, .inl c30)), ((r 22), .inl (G.2 0, 2, .inl c22)), ((r 26), .inl (G.2 0, 2, .inl c26)), ((r 31), .inl (G.2 0, 2, .inl c31)), ((r 48), .inl (G.2 0, 71, .inl c48))]) S hw hl.1 lX10_348 (c_x_standsOf l G r j0 j2 j4 j10 j11 j12 j13 j14 j15 j16 j17 j19 j20 j34 j40 j44 j47 k50_7 k51_8 j56 j61 lv c24 c25 c28 c29 c32 c33 c35 c36 c37 c38 c39 c41 c42 c45 c46 d49_9 vq3 vq6 (by first | assumption | omega | exact Or.inr ⟨_, by omega, rfl⟩ | (unfold zz_sok; decide) | decide | exact (fun j hj => (hv7 j hj).1)) (by first | assumption | omega | exact Or.inr ⟨_, by omega, rfl⟩ | (unfold zz_sok; decide) | decide | exact (fun j hj => (hv7 j hj).1)) (by first | assumption | omega | exact Or.inr ⟨_, by omega, rfl⟩ | (unfold zz_sok; decide) | decide | exact (fun j hj => (hv7 j hj).1)) (by first | assumption | omega | exact Or.inr ⟨_, by omega, rfl⟩ | (unfold zz_sok; decide) | decide | exact (fun j hj => (hv7 j hj).1))) ⟨Nat.le_of_ble_eq_true rfl, Nat.le_of_ble_eq_true rfl⟩ ⟨Nat.le_of_ble_eq_true rfl, Nat.le_of_ble_eq_true rfl⟩ [18, 0, 1, 2, 3, 5, 6, 7, 8, 9, 10, 11, 12, 13, 14, 15, 21] [4, 16, 17, 19, 20] (by decide +kernel) rfl rfl (by decide +kernel) (by decide +kernel) rfl rfl rfl rfl (Nat.le_of_ble_eq_true rfl) dX10_tells_59 ?_
          clear hw
          intro rr u H locs hp hw
          refine hp.elim fun rv_11 zg0 => zg0.elim fun k47_12 zg1 => zg1.elim fun d45_13 zg2 => zg2.elim fun d46_14 zg3 => zg3.elim fun zee1 zg4 => zg4.elim fun zee2 hq59_0 => ?_
          clear hp zg0 zg1 zg2 zg3 zg4
          subst zee1
          subst zee2
          replace hw : zz_w G A s [((r 30), .inl (G.2 0, 2, .inl c30)), ((r 22), .inl (G.2 0, 2, .inl c22)), ((r 26), .inl (G.2 0, 2, .inl c26)), ((r 31), .inl (G.2 0, 2, .inl c31)), ((r 48), .inl (G.2 0, 71, .inl c48)), ((r 0), .inr (10, (zz_mo r [(0, j0), (2, j2), (4, j4), (10, j10), (11, j11), (12, j12), (13, j13), (14, j14), (15, j15), (16, j16), (17, j17), (18, (nI lv)), (19, j19), (20, j20), (34, j34), (40, j40), (44, j44), (47, k47_12), (50, k50_7), (51, k51_8), (56, j56), (61, j61)]))), ((r 24), .inl (G.2 0, 14, .inl c24)), ((r 25), .inl (G.2 0, 14, .inl c25)), ((r 28), .inl (G.2 0, 12, .inl c28)), ((r 29), .inl (G.2 0, 12, .inl c29)), ((r 32), .inl (G.2 0, 8, .inl c32)), ((r 33), .inl (G.2 0, 8, .inl c33)), ((r 35), .inl (G.2 2, 260, .inl c35)), ((r 36), .inl (G.2 0, 260, .inl c36)), ((r 37), .inl (G.2 0, 260, .inl c37)), ((r 38), .inl (G.2 0, 260, .inl c38)), ((r 39), .inl (G.2 0, 260, .inl c39)), ((r 41), .inl (G.2 0, 840, .inl c41)), ((r 42), .inl (G.2 0, 840, .inl c42)), ((r 45), .inl (G.2 0, 9, .inl d45_13)), ((r 46), .inl (G.2 0, 400, .inl d46_14)), ((r 49), .inl (G.2 0, 71, .inl d49_9))] H _ := hw
          refine W.eq (g2 := F0 m 62 ls [.int rv_11]) rfl ?_
          exact hret _ _ _ _ _ _ ⟨rv_11, k47_12, k50_7, k51_8, d45_13, d46_14, d49_9, rfl, rfl, (by first | exact zA0 (fun z => hq2_1 (by assumption) z.1) | exact zA0 (fun z => hq10_1 (by assumption) z.2.1) | exact zA0 (fun z => zA_o (n := 5) (hi := 4) (by decide) (by decide) (by assumption) z.2.2) | exact zA_tl (by assumption) (by assumption) (by decide) (zA_i.1 (by assumption)) ⟨_, hq19_0, Or.inl (⟨zA_i.1 (by assumption), hq59_0⟩)⟩ | exact zA_tl (by assumption) (by assumption) (by decide) (zA_i.2.1 (by assumption)) ⟨_, hq19_0, Or.inr (Or.inl (⟨zA_i.2.1 (by assumption), hq66_0⟩))⟩ | exact zA_tl (by assumption) (by assumption) (by decide) (zA_i.2.2.1 (by assumption)) ⟨_, hq19_0, Or.inr (Or.inr (Or.inl (⟨zA_i.2.2.1 (by assumption), hq73_0⟩)))⟩ | exact zA_tl (by assumption) (by assumption) (by decide) (zA_i.2.2.2.1 (by assumption)) ⟨_, hq19_0, Or.inr (Or.inr (Or.inr (Or.inl (⟨zA_i.2.2.2.1 (by assumption), rfl⟩))))⟩ | exact zA_tl (by assumption) (by assumption) (by decide) (zA_i.2.2.2.2.1 (by assumption)) ⟨_, hq19_0, Or.inr (Or.inr (Or.inr (Or.inr (⟨zA_i.2.2.2.2.1 (by assumption), hq107_0⟩))))⟩)⟩ (hw.sub [5, 1, 6, 7, 2, 8, 9, 0, 3, 10, 11, 12, 13, 14, 15, 16, 17, 18, 19, 20, 4, 21] (by decide +kernel) rfl) rfl dX10_tells_62
        · skip
          refine lv_tableIn (off := 40) (tgt := 63) hx hb dX10_tells_23 (by rw [qw10]; decide) (by rw [qw10]; decide) (by rw [qw10]; rfl) (by decide) ?_
          refine lv_aload_n hx hb dX10_tells_63 rfl (lv_at hl 0 rfl) ?_
          refine lv_iload_n hx hb dX10_tells_64 rfl (lv_at hl 1 rfl) ?_
          refine lv_iload_n hx hb dX10_tells_65 rfl (lv_at hl 2 rfl) ?_
          refine zz_callV (qb := 18) (As := [.int (nI vq3), .int (nI vq6)]) (rest := []) (wr := [((r 30), .inl (G.2 0, 2, .inl c30)), ((r 22), .inl (G.2 0, 2, .inl c22)), ((r 26), .inl (G.2 0, 2, .inl c26)), ((r 31), .inl (G.2 0, 2, .inl c31)), ((r 48), .inl (G.2 0, 71, .inl c48))]) S hw hl.1 lX10_354 (c_x_writesOf l G r j0 j2 j4 j10 j11 j12 j13 j14 j15 j16 j17 j19 j20 j34 j40 j44 j47 k50_7 k51_8 j56 j61 lv c24 c25 c28 c29 c32 c33 c35 c36 c37 c38 c39 c41 c42 c45 c46 d49_9 vq3 vq6 (by first | assumption | omega | exact Or.inr ⟨_, by omega, rfl⟩ | (unfold zz_sok; decide) | decide | exact (fun j hj => (hv7 j hj).1)) (by first | assumption | omega | exact Or.inr ⟨_, by omega, rfl⟩ | (unfold zz_sok; decide) | decide | exact (fun j hj => (hv7 j hj).1)) (by first | assumption | omega | exact Or.inr ⟨_, by omega, rfl⟩ | (unfold zz_sok; decide) | decide | exact (fun j hj => (hv7 j hj).1)) (by first | assumption | omega | exact Or.inr ⟨_, by omega, rfl⟩ | (unfold zz_sok; decide) | decide | exact (fun j hj => (hv7 j hj).1))) ⟨Nat.le_of_ble_eq_true rfl, Nat.le_of_ble_eq_true rfl⟩ ⟨Nat.le_of_ble_eq_true rfl, Nat.le_of_ble_eq_true rfl⟩ [18, 0, 1, 2, 3, 5, 6, 7, 8, 9, 10, 11, 12, 13, 14, 15, 21] [4, 16, 17, 19, 20] (by decide +kernel) rfl rfl (by decide +kernel) (by decide +kernel) rfl rfl rfl rfl (Nat.le_of_ble_eq_true rfl) dX10_tells_66 ?_
          clear hw
          intro rr u H locs hp hw
          refine hp.elim fun rv_15 zg0 => zg0.elim fun k47_16 zg1 => zg1.elim fun d45_17 zg2 => zg2.elim fun d46_18 zg3 => zg3.elim fun zee1 zg4 => zg4.elim fun zee2 hq66_0 => ?_
          clear hp zg0 zg1 zg2 zg3 zg4
          subst zee1
          subst zee2
          replace hw : zz_w G A s [((r 30), .inl (G.2 0, 2, .inl c30)), ((r 22), .inl (G.2 0, 2, .inl c22)), ((r 26), .inl (G.2 0, 2, .inl c26)), ((r 31), .inl (G.2 0, 2, .inl c31)), ((r 48), .inl (G.2 0, 71, .inl c48)), ((r 0), .inr (10, (zz_mo r [(0, j0), (2, j2), (4, j4), (10, j10), (11, j11), (12, j12), (13, j13), (14, j14), (15, j15), (16, j16), (17, j17), (18, (nI lv)), (19, j19), (20, j20), (34, j34), (40, j40), (44, j44), (47, k47_16), (50, k50_7), (51, k51_8), (56, j56), (61, j61)]))), ((r 24), .inl (G.2 0, 14, .inl c24)), ((r 25), .inl (G.2 0, 14, .inl c25)), ((r 28), .inl (G.2 0, 12, .inl c28)), ((r 29), .inl (G.2 0, 12, .inl c29)), ((r 32), .inl (G.2 0, 8, .inl c32)), ((r 33), .inl (G.2 0, 8, .inl c33)), ((r 35), .inl (G.2 2, 260, .inl c35)), ((r 36), .inl (G.2 0, 260, .inl c36)), ((r 37), .inl (G.2 0, 260, .inl c37)), ((r 38), .inl (G.2 0, 260, .inl c38)), ((r 39), .inl (G.2 0, 260, .inl c39)), ((r 41), .inl (G.2 0, 840, .inl c41)), ((r 42), .inl (G.2 0, 840, .inl c42)), ((r 45), .inl (G.2 0, 9, .inl d45_17)), ((r 46), .inl (G.2 0, 400, .inl d46_18)), ((r 49), .inl (G.2 0, 71, .inl d49_9))] H _ := hw
          refine W.eq (g2 := F0 m 69 ls [.int rv_15]) rfl ?_
          exact hret _ _ _ _ _ _ ⟨rv_15, k47_16, k50_7, k51_8, d45_17, d46_18, d49_9, rfl, rfl, (by first | exact zA0 (fun z => hq2_1 (by assumption) z.1) | exact zA0 (fun z => hq10_1 (by assumption) z.2.1) | exact zA0 (fun z => zA_o (n := 5) (hi := 4) (by decide) (by decide) (by assumption) z.2.2) | exact zA_tl (by assumption) (by assumption) (by decide) (zA_i.1 (by assumption)) ⟨_, hq19_0, Or.inl (⟨zA_i.1 (by assumption), hq59_0⟩)⟩ | exact zA_tl (by assumption) (by assumption) (by decide) (zA_i.2.1 (by assumption)) ⟨_, hq19_0, Or.inr (Or.inl (⟨zA_i.2.1 (by assumption), hq66_0⟩))⟩ | exact zA_tl (by assumption) (by assumption) (by decide) (zA_i.2.2.1 (by assumption)) ⟨_, hq19_0, Or.inr (Or.inr (Or.inl (⟨zA_i.2.2.1 (by assumption), hq73_0⟩)))⟩ | exact zA_tl (by assumption) (by assumption) (by decide) (zA_i.2.2.2.1 (by assumption)) ⟨_, hq19_0, Or.inr (Or.inr (Or.inr (Or.inl (⟨zA_i.2.2.2.1 (by assumption), rfl⟩))))⟩ | exact zA_tl (by assumption) (by assumption) (by decide) (zA_i.2.2.2.2.1 (by assumption)) ⟨_, hq19_0, Or.inr (Or.inr (Or.inr (Or.inr (⟨zA_i.2.2.2.2.1 (by assumption), hq107_0⟩))))⟩)⟩ (hw.sub [5, 1, 6, 7, 2, 8, 9, 0, 3, 10, 11, 12, 13, 14, 15, 16, 17, 18, 19, 20, 4, 21] (by decide +kernel) rfl) rfl dX10_tells_69
        · skip
          refine lv_tableIn (off := 47) (tgt := 70) hx hb dX10_tells_23 (by rw [qw10]; decide) (by rw [qw10]; decide) (by rw [qw10]; rfl) (by decide) ?_
          refine lv_aload_n hx hb dX10_tells_70 rfl (lv_at hl 0 rfl) ?_
          refine lv_iload_n hx hb dX10_tells_71 rfl (lv_at hl 1 rfl) ?_
          refine lv_iload_n hx hb dX10_tells_72 rfl (lv_at hl 2 rfl) ?_
          refine zz_callV (qb := 18) (As := [.int (nI vq3), .int (nI vq6)]) (rest := []) (wr := [((r 30), .inl (G.2 0, 2, .inl c30)), ((r 22), .inl (G.2 0, 2, .inl c22)), ((r 26), .inl (G.2 0, 2, .inl c26)), ((r 31), .inl (G.2 0, 2, .inl c31)), ((r 48), .inl (G.2 0, 71, .inl c48))]) S hw hl.1 lX10_363 (c_x_marksOf l G r j0 j2 j4 j10 j11 j12 j13 j14 j15 j16 j17 j19 j20 j34 j40 j44 j47 k50_7 k51_8 j56 j61 lv c24 c25 c28 c29 c32 c33 c35 c36 c37 c38 c39 c41 c42 c45 c46 d49_9 vq3 vq6 (by first | assumption | omega | exact Or.inr ⟨_, by omega, rfl⟩ | (unfold zz_sok; decide) | decide | exact (fun j hj => (hv7 j hj).1)) (by first | assumption | omega | exact Or.inr ⟨_, by omega, rfl⟩ | (unfold zz_sok; decide) | decide | exact (fun j hj => (hv7 j hj).1)) (by first | assumption | omega | exact Or.inr ⟨_, by omega, rfl⟩ | (unfold zz_sok; decide) | decide | exact (fun j hj => (hv7 j hj).1)) (by first | assumption | omega | exact Or.inr ⟨_, by omega, rfl⟩ | (unfold zz_sok; decide) | decide | exact (fun j hj => (hv7 j hj).1))) ⟨Nat.le_of_ble_eq_true rfl, Nat.le_of_ble_eq_true rfl⟩ ⟨Nat.le_of_ble_eq_true rfl, Nat.le_of_ble_eq_true rfl⟩ [18, 0, 1, 2, 3, 5, 6, 7, 8, 9, 10, 11, 12, 13, 14, 15, 21] [4, 16, 17, 19, 20] (by decide +kernel) rfl rfl (by decide +kernel) (by decide +kernel) rfl rfl rfl rfl (Nat.le_of_ble_eq_true rfl) dX10_tells_73 ?_
          clear hw
          intro rr u H locs hp hw
          refine hp.elim fun rv_19 zg0 => zg0.elim fun k47_20 zg1 => zg1.elim fun d45_21 zg2 => zg2.elim fun d46_22 zg3 => zg3.elim fun zee1 zg4 => zg4.elim fun zee2 hq73_0 => ?_
          clear hp zg0 zg1 zg2 zg3 zg4
          subst zee1
          subst zee2
          replace hw : zz_w G A s [((r 30), .inl (G.2 0, 2, .inl c30)), ((r 22), .inl (G.2 0, 2, .inl c22)), ((r 26), .inl (G.2 0, 2, .inl c26)), ((r 31), .inl (G.2 0, 2, .inl c31)), ((r 48), .inl (G.2 0, 71, .inl c48)), ((r 0), .inr (10, (zz_mo r [(0, j0), (2, j2), (4, j4), (10, j10), (11, j11), (12, j12), (13, j13), (14, j14), (15, j15), (16, j16), (17, j17), (18, (nI lv)), (19, j19), (20, j20), (34, j34), (40, j40), (44, j44), (47, k47_20), (50, k50_7), (51, k51_8), (56, j56), (61, j61)]))), ((r 24), .inl (G.2 0, 14, .inl c24)), ((r 25), .inl (G.2 0, 14, .inl c25)), ((r 28), .inl (G.2 0, 12, .inl c28)), ((r 29), .inl (G.2 0, 12, .inl c29)), ((r 32), .inl (G.2 0, 8, .inl c32)), ((r 33), .inl (G.2 0, 8, .inl c33)), ((r 35), .inl (G.2 2, 260, .inl c35)), ((r 36), .inl (G.2 0, 260, .inl c36)), ((r 37), .inl (G.2 0, 260, .inl c37)), ((r 38), .inl (G.2 0, 260, .inl c38)), ((r 39), .inl (G.2 0, 260, .inl c39)), ((r 41), .inl (G.2 0, 840, .inl c41)), ((r 42), .inl (G.2 0, 840, .inl c42)), ((r 45), .inl (G.2 0, 9, .inl d45_21)), ((r 46), .inl (G.2 0, 400, .inl d46_22)), ((r 49), .inl (G.2 0, 71, .inl d49_9))] H _ := hw
          refine W.eq (g2 := F0 m 76 ls [.int rv_19]) rfl ?_
          exact hret _ _ _ _ _ _ ⟨rv_19, k47_20, k50_7, k51_8, d45_21, d46_22, d49_9, rfl, rfl, (by first | exact zA0 (fun z => hq2_1 (by assumption) z.1) | exact zA0 (fun z => hq10_1 (by assumption) z.2.1) | exact zA0 (fun z => zA_o (n := 5) (hi := 4) (by decide) (by decide) (by assumption) z.2.2) | exact zA_tl (by assumption) (by assumption) (by decide) (zA_i.1 (by assumption)) ⟨_, hq19_0, Or.inl (⟨zA_i.1 (by assumption), hq59_0⟩)⟩ | exact zA_tl (by assumption) (by assumption) (by decide) (zA_i.2.1 (by assumption)) ⟨_, hq19_0, Or.inr (Or.inl (⟨zA_i.2.1 (by assumption), hq66_0⟩))⟩ | exact zA_tl (by assumption) (by assumption) (by decide) (zA_i.2.2.1 (by assumption)) ⟨_, hq19_0, Or.inr (Or.inr (Or.inl (⟨zA_i.2.2.1 (by assumption), hq73_0⟩)))⟩ | exact zA_tl (by assumption) (by assumption) (by decide) (zA_i.2.2.2.1 (by assumption)) ⟨_, hq19_0, Or.inr (Or.inr (Or.inr (Or.inl (⟨zA_i.2.2.2.1 (by assumption), rfl⟩))))⟩ | exact zA_tl (by assumption) (by assumption) (by decide) (zA_i.2.2.2.2.1 (by assumption)) ⟨_, hq19_0, Or.inr (Or.inr (Or.inr (Or.inr (⟨zA_i.2.2.2.2.1 (by assumption), hq107_0⟩))))⟩)⟩ (hw.sub [5, 1, 6, 7, 2, 8, 9, 0, 3, 10, 11, 12, 13, 14, 15, 16, 17, 18, 19, 20, 4, 21] (by decide +kernel) rfl) rfl dX10_tells_76
        · skip
          refine lv_tableIn (off := 54) (tgt := 77) hx hb dX10_tells_23 (by rw [qw10]; decide) (by rw [qw10]; decide) (by rw [qw10]; rfl) (by decide) ?_
          refine lv_aload_n hx hb dX10_tells_77 rfl (lv_at hl 0 rfl) ?_
          refine zz_get (v := .ref (r 49)) S hw fgX10_113 18 rfl rfl dX10_tells_78 ?_
          refine lv_bipush (v := 27) hx hb dX10_tells_81 (by decide) ?_
          refine lv_bipush (v := 6) hx hb dX10_tells_83 (by decide) ?_
          refine lv_iload_n hx hb dX10_tells_85 rfl (lv_at hl 1 rfl) ?_
          refine W.eq (g2 := F0 m 86 ls [.int (nI vq3), .int 6, .int 27, .ref (r 49)]) rfl ?_
          refine lv_imul hx hb dX10_tells_86 ?_
          refine zz_topi (y := (nI (6 * vq3))) (pk_mul _ _) ?_
          refine lv_iadd hx hb dX10_tells_87 ?_
          refine zz_topi (y := (nI (27 + (6 * vq3)))) (nI_add _ _) ?_
          refine lv_iload_n hx hb dX10_tells_88 rfl (lv_at hl 2 rfl) ?_
          refine lv_iadd hx hb dX10_tells_89 ?_
          refine zz_topi (y := (nI ((27 + (6 * vq3)) + vq6))) (nI_add _ _) ?_
          refine zz_iald (v := (d49_9 ((27 + (6 * vq3)) + vq6))) S hw 21 rfl (vp_in_nI (n := ((27 + (6 * vq3)) + vq6)) (by omega) (by decide)) (congrArg d49_9 (nI_clamp (n := ((27 + (6 * vq3)) + vq6)) (by omega))) dX10_tells_90 ?_
          exact hret _ _ _ _ _ _ ⟨(d49_9 ((27 + (6 * vq3)) + vq6)), j47, k50_7, k51_8, c45, c46, d49_9, rfl, rfl, (by first | exact zA0 (fun z => hq2_1 (by assumption) z.1) | exact zA0 (fun z => hq10_1 (by assumption) z.2.1) | exact zA0 (fun z => zA_o (n := 5) (hi := 4) (by decide) (by decide) (by assumption) z.2.2) | exact zA_tl (by assumption) (by assumption) (by decide) (zA_i.1 (by assumption)) ⟨_, hq19_0, Or.inl (⟨zA_i.1 (by assumption), hq59_0⟩)⟩ | exact zA_tl (by assumption) (by assumption) (by decide) (zA_i.2.1 (by assumption)) ⟨_, hq19_0, Or.inr (Or.inl (⟨zA_i.2.1 (by assumption), hq66_0⟩))⟩ | exact zA_tl (by assumption) (by assumption) (by decide) (zA_i.2.2.1 (by assumption)) ⟨_, hq19_0, Or.inr (Or.inr (Or.inl (⟨zA_i.2.2.1 (by assumption), hq73_0⟩)))⟩ | exact zA_tl (by assumption) (by assumption) (by decide) (zA_i.2.2.2.1 (by assumption)) ⟨_, hq19_0, Or.inr (Or.inr (Or.inr (Or.inl (⟨zA_i.2.2.2.1 (by assumption), rfl⟩))))⟩ | exact zA_tl (by assumption) (by assumption) (by decide) (zA_i.2.2.2.2.1 (by assumption)) ⟨_, hq19_0, Or.inr (Or.inr (Or.inr (Or.inr (⟨zA_i.2.2.2.2.1 (by assumption), hq107_0⟩))))⟩)⟩ (hw.sub [18, 16, 0, 1, 17, 2, 3, 4, 19, 5, 6, 7, 8, 9, 10, 11, 12, 13, 14, 15, 20, 21] (by decide +kernel) rfl) rfl dX10_tells_91
        · skip
          refine lv_tableIn (off := 69) (tgt := 92) hx hb dX10_tells_23 (by rw [qw10]; decide) (by rw [qw10]; decide) (by rw [qw10]; rfl) (by decide) ?_
          refine lv_aload_n hx hb dX10_tells_92 rfl (lv_at hl 0 rfl) ?_
          refine zz_get (v := .ref (r 49)) S hw fgX10_113 18 rfl rfl dX10_tells_93 ?_
          refine lv_iload_n hx hb dX10_tells_96 rfl (lv_at hl 1 rfl) ?_
          refine zz_iald (v := (d49_9 vq3)) S hw 21 rfl (vp_in_nI (n := vq3) (by omega) (by decide)) (congrArg d49_9 (nI_clamp (n := vq3) (by omega))) dX10_tells_97 ?_
          refine lv_aload_n hx hb dX10_tells_98 rfl (lv_at hl 0 rfl) ?_
          refine zz_get (v := .ref (r 49)) S hw fgX10_113 18 rfl rfl dX10_tells_99 ?_
          refine lv_bipush (v := 21) hx hb dX10_tells_102 (by decide) ?_
          refine lv_iload_n hx hb dX10_tells_104 rfl (lv_at hl 2 rfl) ?_
          refine lv_iadd hx hb dX10_tells_105 ?_
          refine zz_topi (y := (nI (21 + vq6))) (nI_add _ _) ?_
          refine W.eq (g2 := F0 m 106 ls [.int (nI (21 + vq6)), .ref (r 49), .int (d49_9 vq3)]) rfl ?_
          refine zz_iald (v := (d49_9 (21 + vq6))) S hw 21 rfl (vp_in_nI (n := (21 + vq6)) (by omega) (by decide)) (congrArg d49_9 (nI_clamp (n := (21 + vq6)) (by omega))) dX10_tells_106 ?_
          refine zz_callS (As := [.int (d49_9 vq3), .int (d49_9 (21 + vq6))]) (rest := []) (wr := [((r 24), .inl (G.2 0, 14, .inl c24)), ((r 25), .inl (G.2 0, 14, .inl c25)), ((r 28), .inl (G.2 0, 12, .inl c28)), ((r 29), .inl (G.2 0, 12, .inl c29)), ((r 30), .inl (G.2 0, 2, .inl c30)), ((r 32), .inl (G.2 0, 8, .inl c32)), ((r 33), .inl (G.2 0, 8, .inl c33)), ((r 35), .inl (G.2 2, 260, .inl c35)), ((r 36), .inl (G.2 0, 260, .inl c36)), ((r 37), .inl (G.2 0, 260, .inl c37)), ((r 38), .inl (G.2 0, 260, .inl c38)), ((r 39), .inl (G.2 0, 260, .inl c39)), ((r 41), .inl (G.2 0, 840, .inl c41)), ((r 42), .inl (G.2 0, 840, .inl c42)), ((r 45), .inl (G.2 0, 9, .inl c45)), ((r 46), .inl (G.2 0, 400, .inl c46)), ((r 22), .inl (G.2 0, 2, .inl c22)), ((r 26), .inl (G.2 0, 2, .inl c26)), ((r 0), .inr (10, (zz_mo r [(0, j0), (2, j2), (4, j4), (10, j10), (11, j11), (12, j12), (13, j13), (14, j14), (15, j15), (16, j16), (17, j17), (18, (nI lv)), (19, j19), (20, j20), (34, j34), (40, j40), (44, j44), (47, j47), (50, k50_7), (51, k51_8), (56, j56), (61, j61)]))), ((r 31), .inl (G.2 0, 2, .inl c31)), ((r 48), .inl (G.2 0, 71, .inl c48)), ((r 49), .inl (G.2 0, 71, .inl d49_9))]) S hw hl.1 lX10_330 (c_x_roundOff l G (d49_9 vq3) (d49_9 (21 + vq6))) ⟨Nat.le_of_ble_eq_true rfl, Nat.le_of_ble_eq_true rfl⟩ ⟨Nat.le_of_ble_eq_true rfl, Nat.le_of_ble_eq_true rfl⟩ [] [0, 1, 2, 3, 4, 5, 6, 7, 8, 9, 10, 11, 12, 13, 14, 15, 16, 17, 18, 19, 20, 21] (by decide +kernel) rfl rfl (by decide +kernel) (by decide +kernel) rfl rfl (Nat.le_of_ble_eq_true rfl) dX10_tells_107 ?_
          clear hw
          intro rr u H locs hp hw
          refine hp.elim fun rv_23 zg0 => zg0.elim fun zee1 zg1 => zg1.elim fun zee2 hq107_0 => ?_
          clear hp zg0 zg1
          subst zee1
          subst zee2
          replace hw : zz_w G A s [((r 24), .inl (G.2 0, 14, .inl c24)), ((r 25), .inl (G.2 0, 14, .inl c25)), ((r 28), .inl (G.2 0, 12, .inl c28)), ((r 29), .inl (G.2 0, 12, .inl c29)), ((r 30), .inl (G.2 0, 2, .inl c30)), ((r 32), .inl (G.2 0, 8, .inl c32)), ((r 33), .inl (G.2 0, 8, .inl c33)), ((r 35), .inl (G.2 2, 260, .inl c35)), ((r 36), .inl (G.2 0, 260, .inl c36)), ((r 37), .inl (G.2 0, 260, .inl c37)), ((r 38), .inl (G.2 0, 260, .inl c38)), ((r 39), .inl (G.2 0, 260, .inl c39)), ((r 41), .inl (G.2 0, 840, .inl c41)), ((r 42), .inl (G.2 0, 840, .inl c42)), ((r 45), .inl (G.2 0, 9, .inl c45)), ((r 46), .inl (G.2 0, 400, .inl c46)), ((r 22), .inl (G.2 0, 2, .inl c22)), ((r 26), .inl (G.2 0, 2, .inl c26)), ((r 0), .inr (10, (zz_mo r [(0, j0), (2, j2), (4, j4), (10, j10), (11, j11), (12, j12), (13, j13), (14, j14), (15, j15), (16, j16), (17, j17), (18, (nI lv)), (19, j19), (20, j20), (34, j34), (40, j40), (44, j44), (47, j47), (50, k50_7), (51, k51_8), (56, j56), (61, j61)]))), ((r 31), .inl (G.2 0, 2, .inl c31)), ((r 48), .inl (G.2 0, 71, .inl c48)), ((r 49), .inl (G.2 0, 71, .inl d49_9))] H _ := hw
          refine W.eq (g2 := F0 m 110 ls [.int rv_23]) rfl ?_
          exact hret _ _ _ _ _ _ ⟨rv_23, j47, k50_7, k51_8, c45, c46, d49_9, rfl, rfl, (by first | exact zA0 (fun z => hq2_1 (by assumption) z.1) | exact zA0 (fun z => hq10_1 (by assumption) z.2.1) | exact zA0 (fun z => zA_o (n := 5) (hi := 4) (by decide) (by decide) (by assumption) z.2.2) | exact zA_tl (by assumption) (by assumption) (by decide) (zA_i.1 (by assumption)) ⟨_, hq19_0, Or.inl (⟨zA_i.1 (by assumption), hq59_0⟩)⟩ | exact zA_tl (by assumption) (by assumption) (by decide) (zA_i.2.1 (by assumption)) ⟨_, hq19_0, Or.inr (Or.inl (⟨zA_i.2.1 (by assumption), hq66_0⟩))⟩ | exact zA_tl (by assumption) (by assumption) (by decide) (zA_i.2.2.1 (by assumption)) ⟨_, hq19_0, Or.inr (Or.inr (Or.inl (⟨zA_i.2.2.1 (by assumption), hq73_0⟩)))⟩ | exact zA_tl (by assumption) (by assumption) (by decide) (zA_i.2.2.2.1 (by assumption)) ⟨_, hq19_0, Or.inr (Or.inr (Or.inr (Or.inl (⟨zA_i.2.2.2.1 (by assumption), rfl⟩))))⟩ | exact zA_tl (by assumption) (by assumption) (by decide) (zA_i.2.2.2.2.1 (by assumption)) ⟨_, hq19_0, Or.inr (Or.inr (Or.inr (Or.inr (⟨zA_i.2.2.2.2.1 (by assumption), hq107_0⟩))))⟩)⟩ (hw.sub [18, 16, 0, 1, 17, 2, 3, 4, 19, 5, 6, 7, 8, 9, 10, 11, 12, 13, 14, 15, 20, 21] (by decide +kernel) rfl) rfl dX10_tells_110
    · skip
      refine lv_iconst (v := (-1)) hx hb dX10_tells_16 (by decide) ?_
      exact hret _ _ _ _ _ _ ⟨(-1), j47, j50, j51, c45, c46, c49, rfl, rfl, (by first | exact zA0 (fun z => hq2_1 (by assumption) z.1) | exact zA0 (fun z => hq10_1 (by assumption) z.2.1) | exact zA0 (fun z => zA_o (n := 5) (hi := 4) (by decide) (by decide) (by assumption) z.2.2) | exact zA_tl (by assumption) (by assumption) (by decide) (zA_i.1 (by assumption)) ⟨_, hq19_0, Or.inl (⟨zA_i.1 (by assumption), hq59_0⟩)⟩ | exact zA_tl (by assumption) (by assumption) (by decide) (zA_i.2.1 (by assumption)) ⟨_, hq19_0, Or.inr (Or.inl (⟨zA_i.2.1 (by assumption), hq66_0⟩))⟩ | exact zA_tl (by assumption) (by assumption) (by decide) (zA_i.2.2.1 (by assumption)) ⟨_, hq19_0, Or.inr (Or.inr (Or.inl (⟨zA_i.2.2.1 (by assumption), hq73_0⟩)))⟩ | exact zA_tl (by assumption) (by assumption) (by decide) (zA_i.2.2.2.1 (by assumption)) ⟨_, hq19_0, Or.inr (Or.inr (Or.inr (Or.inl (⟨zA_i.2.2.2.1 (by assumption), rfl⟩))))⟩ | exact zA_tl (by assumption) (by assumption) (by decide) (zA_i.2.2.2.2.1 (by assumption)) ⟨_, hq19_0, Or.inr (Or.inr (Or.inr (Or.inr (⟨zA_i.2.2.2.2.1 (by assumption), hq107_0⟩))))⟩)⟩ (hw.sub [20, 19, 0, 1, 21, 2, 3, 4, 5, 6, 7, 8, 9, 10, 11, 12, 13, 14, 15, 16, 17, 18] (by decide +kernel) rfl) rfl dX10_tells_17
theorem kd_ncX10_records : kd_ck 70605422117127410125607575535225630153091385155556009260185908070845829658708884807194957393291486543904917689544904569168493134621290182599862650020788961191532617881402515934713739661640887200866839528394880951238056658423959613649962 98 cX10_records.data.toList 0 = true := by decide +kernel
theorem dX10_records_0 : decode cX10_records 0 = .ok (.aload_n 0, 1) := kd_dk0 kd_o42 kd_ncX10_records rfl
theorem dX10_records_1 : decode cX10_records 1 = .ok (.getfield 254, 3) := kd_dk2 kd_o180 kd_ncX10_records rfl
theorem dX10_records_4 : decode cX10_records 4 = .ok (.bipush 40, 2) := kd_dj1 kd_o16 (w := 40) kd_ncX10_records rfl rfl
theorem dX10_records_6 : decode cX10_records 6 = .ok (.if_icmp .ne 43, 3) := kd_dj2 kd_o160 (w := 43) kd_ncX10_records rfl rfl
theorem dX10_records_9 : decode cX10_records 9 = .ok (.iconst 0, 1) := kd_dk0 kd_o3 kd_ncX10_records rfl
theorem dX10_records_10 : decode cX10_records 10 = .ok (.istore_n 1, 1) := kd_dk0 kd_o60 kd_ncX10_records rfl
theorem dX10_records_11 : decode cX10_records 11 = .ok (.iload_n 1, 1) := kd_dk0 kd_o27 kd_ncX10_records rfl
theorem dX10_records_12 : decode cX10_records 12 = .ok (.sipush 2769, 3) := kd_dj2 kd_o17 (w := 2769) kd_ncX10_records rfl rfl
theorem dX10_records_15 : decode cX10_records 15 = .ok (.if_icmp .ge 24, 3) := kd_dj2 kd_o162 (w := 24) kd_ncX10_records rfl rfl
theorem dX10_records_18 : decode cX10_records 18 = .ok (.aload_n 0, 1) := kd_dk0 kd_o42 kd_ncX10_records rfl
theorem dX10_records_19 : decode cX10_records 19 = .ok (.getfield 128, 3) := kd_dk2 kd_o180 kd_ncX10_records rfl
theorem dX10_records_22 : decode cX10_records 22 = .ok (.iload_n 1, 1) := kd_dk0 kd_o27 kd_ncX10_records rfl
theorem dX10_records_23 : decode cX10_records 23 = .ok (.aload_n 0, 1) := kd_dk0 kd_o42 kd_ncX10_records rfl
theorem dX10_records_24 : decode cX10_records 24 = .ok (.getfield 128, 3) := kd_dk2 kd_o180 kd_ncX10_records rfl
theorem dX10_records_27 : decode cX10_records 27 = .ok (.iload_n 1, 1) := kd_dk0 kd_o27 kd_ncX10_records rfl
theorem dX10_records_28 : decode cX10_records 28 = .ok (.bipush 71, 2) := kd_dj1 kd_o16 (w := 71) kd_ncX10_records rfl rfl
theorem dX10_records_30 : decode cX10_records 30 = .ok (.iadd, 1) := kd_dk0 kd_o96 kd_ncX10_records rfl
theorem dX10_records_31 : decode cX10_records 31 = .ok (.iaload, 1) := kd_dk0 kd_o46 kd_ncX10_records rfl
theorem dX10_records_32 : decode cX10_records 32 = .ok (.iastore, 1) := kd_dk0 kd_o79 kd_ncX10_records rfl
theorem dX10_records_33 : decode cX10_records 33 = .ok (.iinc 1 1, 3) := kd_dji kd_o132 (w := 1) kd_ncX10_records rfl rfl
theorem dX10_records_36 : decode cX10_records 36 = .ok (.goto (-25), 3) := kd_dj2 kd_o167 (w := 65511) kd_ncX10_records rfl rfl
theorem dX10_records_39 : decode cX10_records 39 = .ok (.aload_n 0, 1) := kd_dk0 kd_o42 kd_ncX10_records rfl
theorem dX10_records_40 : decode cX10_records 40 = .ok (.dup, 1) := kd_dk0 kd_o89 kd_ncX10_records rfl
theorem dX10_records_41 : decode cX10_records 41 = .ok (.getfield 254, 3) := kd_dk2 kd_o180 kd_ncX10_records rfl
theorem dX10_records_44 : decode cX10_records 44 = .ok (.iconst 1, 1) := kd_dk0 kd_o4 kd_ncX10_records rfl
theorem dX10_records_45 : decode cX10_records 45 = .ok (.isub, 1) := kd_dk0 kd_o100 kd_ncX10_records rfl
theorem dX10_records_46 : decode cX10_records 46 = .ok (.putfield 254, 3) := kd_dk2 kd_o181 kd_ncX10_records rfl
theorem dX10_records_49 : decode cX10_records 49 = .ok (.iconst 0, 1) := kd_dk0 kd_o3 kd_ncX10_records rfl
theorem dX10_records_50 : decode cX10_records 50 = .ok (.istore_n 1, 1) := kd_dk0 kd_o60 kd_ncX10_records rfl
theorem dX10_records_51 : decode cX10_records 51 = .ok (.iload_n 1, 1) := kd_dk0 kd_o27 kd_ncX10_records rfl
theorem dX10_records_52 : decode cX10_records 52 = .ok (.bipush 71, 2) := kd_dj1 kd_o16 (w := 71) kd_ncX10_records rfl rfl
theorem dX10_records_54 : decode cX10_records 54 = .ok (.if_icmp .ge 29, 3) := kd_dj2 kd_o162 (w := 29) kd_ncX10_records rfl rfl
theorem dX10_records_57 : decode cX10_records 57 = .ok (.aload_n 0, 1) := kd_dk0 kd_o42 kd_ncX10_records rfl
theorem dX10_records_58 : decode cX10_records 58 = .ok (.getfield 128, 3) := kd_dk2 kd_o180 kd_ncX10_records rfl
theorem dX10_records_61 : decode cX10_records 61 = .ok (.bipush 71, 2) := kd_dj1 kd_o16 (w := 71) kd_ncX10_records rfl rfl
theorem dX10_records_63 : decode cX10_records 63 = .ok (.aload_n 0, 1) := kd_dk0 kd_o42 kd_ncX10_records rfl
theorem dX10_records_64 : decode cX10_records 64 = .ok (.getfield 254, 3) := kd_dk2 kd_o180 kd_ncX10_records rfl
theorem dX10_records_67 : decode cX10_records 67 = .ok (.imul, 1) := kd_dk0 kd_o104 kd_ncX10_records rfl
theorem dX10_records_68 : decode cX10_records 68 = .ok (.iload_n 1, 1) := kd_dk0 kd_o27 kd_ncX10_records rfl
theorem dX10_records_69 : decode cX10_records 69 = .ok (.iadd, 1) := kd_dk0 kd_o96 kd_ncX10_records rfl
theorem dX10_records_70 : decode cX10_records 70 = .ok (.aload_n 0, 1) := kd_dk0 kd_o42 kd_ncX10_records rfl
theorem dX10_records_71 : decode cX10_records 71 = .ok (.getfield 110, 3) := kd_dk2 kd_o180 kd_ncX10_records rfl
theorem dX10_records_74 : decode cX10_records 74 = .ok (.iload_n 1, 1) := kd_dk0 kd_o27 kd_ncX10_records rfl
theorem dX10_records_75 : decode cX10_records 75 = .ok (.iaload, 1) := kd_dk0 kd_o46 kd_ncX10_records rfl
theorem dX10_records_76 : decode cX10_records 76 = .ok (.iastore, 1) := kd_dk0 kd_o79 kd_ncX10_records rfl
theorem dX10_records_77 : decode cX10_records 77 = .ok (.iinc 1 1, 3) := kd_dji kd_o132 (w := 1) kd_ncX10_records rfl rfl
theorem dX10_records_80 : decode cX10_records 80 = .ok (.goto (-29), 3) := kd_dj2 kd_o167 (w := 65507) kd_ncX10_records rfl rfl
theorem dX10_records_83 : decode cX10_records 83 = .ok (.aload_n 0, 1) := kd_dk0 kd_o42 kd_ncX10_records rfl
theorem dX10_records_84 : decode cX10_records 84 = .ok (.dup, 1) := kd_dk0 kd_o89 kd_ncX10_records rfl
theorem dX10_records_85 : decode cX10_records 85 = .ok (.getfield 254, 3) := kd_dk2 kd_o180 kd_ncX10_records rfl
theorem dX10_records_88 : decode cX10_records 88 = .ok (.iconst 1, 1) := kd_dk0 kd_o4 kd_ncX10_records rfl
theorem dX10_records_89 : decode cX10_records 89 = .ok (.iadd, 1) := kd_dk0 kd_o96 kd_ncX10_records rfl
theorem dX10_records_90 : decode cX10_records 90 = .ok (.putfield 254, 3) := kd_dk2 kd_o181 kd_ncX10_records rfl
theorem dX10_records_93 : decode cX10_records 93 = .ok (.aload_n 0, 1) := kd_dk0 kd_o42 kd_ncX10_records rfl
theorem dX10_records_94 : decode cX10_records 94 = .ok (.invokevirtual 166, 3) := kd_dk2 kd_o182 kd_ncX10_records rfl
theorem dX10_records_97 : decode cX10_records 97 = .ok (.return_, 1) := kd_dk0 kd_o177 kd_ncX10_records rfl
set_option maxHeartbeats 8000000 in
set_option maxRecDepth 100000 in
theorem c_x_records (l : Launch) (G : zz_G) (r : Nat → Nat) (j0 : Int32) (j2 : Int32) (j4 : Int32) (j10 : Int32) (j11 : Int32) (j12 : Int32) (j13 : Int32) (j14 : Int32) (j15 : Int32) (j16 : Int32) (j17 : Int32) (j18 : Int32) (j19 : Int32) (j20 : Int32) (j34 : Int32) (j40 : Int32) (j44 : Int32) (j47 : Int32) (j50 : Int32) (j51 : Int32) (j61 : Int32) (c48 : Nat → Int32) (c49 : Nat → Int32) (c57 : Nat → Int32) (un : Nat) (hun : un ≤ 40) : zz_M l G mX10_records 1 0 0 [.ref (r 0)] [((r 0), .inr (10, (zz_mo r [(0, j0), (2, j2), (4, j4), (10, j10), (11, j11), (12, j12), (13, j13), (14, j14), (15, j15), (16, j16), (17, j17), (18, j18), (19, j19), (20, j20), (34, j34), (40, j40), (44, j44), (47, j47), (50, j50), (51, j51), (56, (nI un)), (61, j61)]))), ((r 48), .inl (G.2 0, 71, .inl c48)), ((r 49), .inl (G.2 0, 71, .inl c49)), ((r 57), .inl (G.2 0, 2840, .inl c57))] (fun rr u => ∃ (un2 : Nat), ∃ (d48 : Nat → Int32), ∃ (d57 : Nat → Int32), rr = none ∧ u = [((r 0), .inr (10, (zz_mo r [(0, j0), (2, j2), (4, j4), (10, j10), (11, j11), (12, j12), (13, j13), (14, j14), (15, j15), (16, j16), (17, j17), (18, j18), (19, j19), (20, j20), (34, j34), (40, j40), (44, j44), (47, j47), (50, j50), (51, j51), (56, (nI un2)), (61, j61)]))), ((r 48), .inl (G.2 0, 71, .inl d48)), ((r 49), .inl (G.2 0, 71, .inl c49)), ((r 57), .inl (G.2 0, 2840, .inl d57))] ∧ (un2 ≤ 40) ∧ (zy_rc un c48 c49 c57 un2 d48 d57)) := by
  refine zz_enterv (by decide +kernel) (Nat.le_of_ble_eq_true rfl) ?_
  intro p e s m args below meth c A Q ls S hnm hret hw hl
  have hl : lv_has ls 2 [(0, .ref (r 0))] := hl
  have hx := S.1
  have hb := S.2.1
  refine lv_aload_n hx hb dX10_records_0 rfl (lv_at hl 0 rfl) ?_
  refine zz_get (v := .int (nI un)) S hw fgX10_254 0 rfl rfl dX10_records_1 ?_
  refine lv_bipush (v := 40) hx hb dX10_records_4 (by decide) ?_
  refine lv_icmp_ne (tgt := 49) hx hb dX10_records_6 (by decide) (fun c6_1 => ?_) (fun c6_1 => ?_)
  · skip
    have c6_1n : ¬ (un = 40) := fun z => c6_1 ((zz_eq (a := un) (b := 40) rfl rfl (by omega) (by omega)).mpr z)
    refine lv_iconst (v := 0) hx hb dX10_records_49 (by decide) ?_
    refine lv_istore_n (lv' := [(1, .int 0), (0, .ref (r 0))]) hx hb dX10_records_50 rfl hl (by decide) rfl (fun ls hl => ?_)
    have lp51_10 : ∀ (vn3 vi2 : Nat) (vF6 : Nat → Int32) (H : Heap) (locs : List Loc) (ls : Array Slot), vi2 ≤ 71 → 71 < vi2 + vn3 → zy_pt vi2 (71 * un) c57 c48 vF6 → zz_w G A s [((r 0), .inr (10, (zz_mo r [(0, j0), (2, j2), (4, j4), (10, j10), (11, j11), (12, j12), (13, j13), (14, j14), (15, j15), (16, j16), (17, j17), (18, j18), (19, j19), (20, j20), (34, j34), (40, j40), (44, j44), (47, j47), (50, j50), (51, j51), (56, (nI un)), (61, j61)]))), ((r 48), .inl (G.2 0, 71, .inl c48)), ((r 49), .inl (G.2 0, 71, .inl c49)), ((r 57), .inl (G.2 0, 2840, .inl vF6))] H locs → lv_has ls 2 [(1, .int (nI vi2)), (0, .ref (r 0))] → W p l e (zz_rm 1 0 0) s m args below meth c H locs (0) (0) Q (F0 m 51 ls []) := by
      intro vn3
      induction vn3 with
      | zero => intro vi2 vF6 H locs ls hi1 hi2; exact absurd hi2 (by omega)
      | succ vn3 ih51 =>
        intro vi2 vF6 H locs ls hi51a hi51b hv51_9 hw hl
        refine lv_iload_n hx hb dX10_records_51 rfl (lv_at hl 0 rfl) ?_
        refine lv_bipush (v := 71) hx hb dX10_records_52 (by decide) ?_
        refine lv_icmp_ge (tgt := 83) hx hb dX10_records_54 (by decide) (fun c54_11 => ?_) (fun c54_11 => ?_)
        · skip
          have c54_11n : 71 ≤ vi2 := (zz_le (a := 71) (b := vi2) rfl rfl (by omega) (by omega)).mp c54_11
          refine lv_aload_n hx hb dX10_records_83 rfl (lv_at hl 1 rfl) ?_
          refine lv_dup hx hb dX10_records_84 rfl ?_
          refine zz_get (v := .int (nI un)) S hw fgX10_254 0 rfl rfl dX10_records_85 ?_
          refine lv_iconst (v := 1) hx hb dX10_records_88 (by decide) ?_
          refine lv_iadd hx hb dX10_records_89 ?_
          refine zz_topi (y := (nI (un + 1))) (nI_add _ _) ?_
          refine zz_put (ws' := [((r 0), .inr (10, (zz_mo r [(0, j0), (2, j2), (4, j4), (10, j10), (11, j11), (12, j12), (13, j13), (14, j14), (15, j15), (16, j16), (17, j17), (18, j18), (19, j19), (20, j20), (34, j34), (40, j40), (44, j44), (47, j47), (50, j50), (51, j51), (56, (nI (un + 1))), (61, j61)]))), ((r 48), .inl (G.2 0, 71, .inl c48)), ((r 49), .inl (G.2 0, 71, .inl c49)), ((r 57), .inl (G.2 0, 2840, .inl vF6))]) (v := .int (nI (un + 1))) S hw fpX10_254 0 rfl rfl rfl (Nat.le_of_ble_eq_true rfl) rfl dX10_records_90 ?_
          clear hw
          intro H locs hw
          refine lv_aload_n hx hb dX10_records_93 rfl (lv_at hl 1 rfl) ?_
          refine W.eq (g2 := F0 m 94 ls [.ref (r 0)]) rfl ?_
          refine zz_callV (qb := 0) (As := []) (rest := []) (wr := [((r 57), .inl (G.2 0, 2840, .inl vF6))]) S hw hl.1 lX10_166 (c_x_keepsRow l G r j0 j2 j4 j10 j11 j12 j13 j14 j15 j16 j17 j18 j19 j20 j34 j40 j44 j47 j50 j51 (nI (un + 1)) j61 c48 c49) ⟨Nat.le_of_ble_eq_true rfl, Nat.le_of_ble_eq_true rfl⟩ ⟨Nat.le_of_ble_eq_true rfl, Nat.le_of_ble_eq_true rfl⟩ [0, 1, 2] [3] (by decide) rfl rfl (by decide) (by decide) rfl rfl rfl rfl (Nat.le_of_ble_eq_true rfl) dX10_records_94 ?_
          clear hw
          intro rr u H locs hp hw
          refine hp.elim fun d48_12 zg0 => zg0.elim fun zee1 zg1 => zg1.elim fun zee2 hq94_0 => ?_
          clear hp zg0 zg1
          subst zee1
          subst zee2
          replace hw : zz_w G A s [((r 57), .inl (G.2 0, 2840, .inl vF6)), ((r 0), .inr (10, (zz_mo r [(0, j0), (2, j2), (4, j4), (10, j10), (11, j11), (12, j12), (13, j13), (14, j14), (15, j15), (16, j16), (17, j17), (18, j18), (19, j19), (20, j20), (34, j34), (40, j40), (44, j44), (47, j47), (50, j50), (51, j51), (56, (nI (un + 1))), (61, j61)]))), ((r 48), .inl (G.2 0, 71, .inl d48_12)), ((r 49), .inl (G.2 0, 71, .inl c49))] H _ := hw
          refine W.eq (g2 := F0 m 97 ls []) rfl ?_
          exact hret _ _ _ _ _ ⟨(un + 1), d48_12, vF6, rfl, rfl, (by omega), (by first | exact zy_rc1 hdry hv51_9 hq94_0 (by omega) (by omega) (by omega) | exact zy_rc0 hv51_9 hq94_0 (by omega) (by omega) (by omega))⟩ (hw.sub [1, 2, 3, 0] (by decide) rfl) dX10_records_97
        · skip
          have c54_11n : ¬ (71 ≤ vi2) := fun z => c54_11 ((zz_le (a := 71) (b := vi2) rfl rfl (by omega) (by omega)).mpr z)
          refine lv_aload_n hx hb dX10_records_57 rfl (lv_at hl 1 rfl) ?_
          refine zz_get (v := .ref (r 57)) S hw fgX10_128 0 rfl rfl dX10_records_58 ?_
          refine lv_bipush (v := 71) hx hb dX10_records_61 (by decide) ?_
          refine lv_aload_n hx hb dX10_records_63 rfl (lv_at hl 1 rfl) ?_
          refine zz_get (v := .int (nI un)) S hw fgX10_254 0 rfl rfl dX10_records_64 ?_
          refine lv_imul hx hb dX10_records_67 ?_
          refine zz_topi (y := (nI (71 * un))) (pk_mul _ _) ?_
          refine lv_iload_n hx hb dX10_records_68 rfl (lv_at hl 0 rfl) ?_
          refine lv_iadd hx hb dX10_records_69 ?_
          refine zz_topi (y := (nI ((71 * un) + vi2))) (nI_add _ _) ?_
          refine lv_aload_n hx hb dX10_records_70 rfl (lv_at hl 1 rfl) ?_
          refine zz_get (v := .ref (r 48)) S hw fgX10_110 0 rfl rfl dX10_records_71 ?_
          refine lv_iload_n hx hb dX10_records_74 rfl (lv_at hl 0 rfl) ?_
          refine zz_iald (v := (c48 vi2)) S hw 1 rfl (vp_in_nI (n := vi2) (by omega) (by decide)) (congrArg c48 (nI_clamp (n := vi2) (by omega))) dX10_records_75 ?_
          refine zz_iast (ws' := [((r 0), .inr (10, (zz_mo r [(0, j0), (2, j2), (4, j4), (10, j10), (11, j11), (12, j12), (13, j13), (14, j14), (15, j15), (16, j16), (17, j17), (18, j18), (19, j19), (20, j20), (34, j34), (40, j40), (44, j44), (47, j47), (50, j50), (51, j51), (56, (nI un)), (61, j61)]))), ((r 48), .inl (G.2 0, 71, .inl c48)), ((r 49), .inl (G.2 0, 71, .inl c49)), ((r 57), .inl (G.2 0, 2840, .inl (upd vF6 ((71 * un) + vi2) (c48 vi2))))]) (g := (upd vF6 ((71 * un) + vi2) (c48 vi2))) S hw 3 rfl (vp_in_nI (n := ((71 * un) + vi2)) (by omega) (by decide)) (zz_upn (n := ((71 * un) + vi2)) (by omega)) rfl dX10_records_76 ?_
          clear hw
          intro H locs hw
          refine W.eq (g2 := F0 m 77 ls []) rfl ?_
          refine lv_iinc (v := (nI (vi2 + 1))) (lv' := [(1, .int (nI (vi2 + 1))), (0, .ref (r 0))]) hx hb dX10_records_77 hl (k := 0) rfl (nI_add _ 1) (by decide) rfl (fun ls hl => ?_)
          refine lv_goto (tgt := 51) hx hb dX10_records_80 (by decide) ?_
          exact ih51 (vi2 + 1) (upd vF6 ((71 * un) + vi2) (c48 vi2)) _ _ _ (by omega) (by omega) (zy_pt1 hv51_9) hw (lv_sub hl [0, 1] rfl)
    exact lp51_10 (71 + 1 - 0) 0 c57 _ _ _ (by omega) (by omega) zy_pt0 hw (lv_sub hl [0, 1] rfl)
  · skip
    have c6_1n : un = 40 := (zz_eq (a := un) (b := 40) rfl rfl (by omega) (by omega)).mp c6_1
    refine lv_iconst (v := 0) hx hb dX10_records_9 (by decide) ?_
    refine lv_istore_n (lv' := [(1, .int 0), (0, .ref (r 0))]) hx hb dX10_records_10 rfl hl (by decide) rfl (fun ls hl => ?_)
    have lp11_41 : ∀ (vn14 vi13 : Nat) (vF27 : Nat → Int32) (H : Heap) (locs : List Loc) (ls : Array Slot), vi13 ≤ 2769 → 2769 < vi13 + vn14 → zy_sh vi13 c57 vF27 → zz_w G A s [((r 0), .inr (10, (zz_mo r [(0, j0), (2, j2), (4, j4), (10, j10), (11, j11), (12, j12), (13, j13), (14, j14), (15, j15), (16, j16), (17, j17), (18, j18), (19, j19), (20, j20), (34, j34), (40, j40), (44, j44), (47, j47), (50, j50), (51, j51), (56, (nI un)), (61, j61)]))), ((r 48), .inl (G.2 0, 71, .inl c48)), ((r 49), .inl (G.2 0, 71, .inl c49)), ((r 57), .inl (G.2 0, 2840, .inl vF27))] H locs → lv_has ls 2 [(1, .int (nI vi13)), (0, .ref (r 0))] → W p l e (zz_rm 1 0 0) s m args below meth c H locs (0) (0) Q (F0 m 11 ls []) := by
      intro vn14
      induction vn14 with
      | zero => intro vi13 vF27 H locs ls hi1 hi2; exact absurd hi2 (by omega)
      | succ vn14 ih11 =>
        intro vi13 vF27 H locs ls hi11a hi11b hv11_40 hw hl
        refine lv_iload_n hx hb dX10_records_11 rfl (lv_at hl 0 rfl) ?_
        refine lv_sipush (v := 2769) hx hb dX10_records_12 (by decide) ?_
        refine lv_icmp_ge (tgt := 39) hx hb dX10_records_15 (by decide) (fun c15_42 => ?_) (fun c15_42 => ?_)
        · skip
          have c15_42n : 2769 ≤ vi13 := (zz_le (a := 2769) (b := vi13) rfl rfl (by omega) (by omega)).mp c15_42
          refine lv_aload_n hx hb dX10_records_39 rfl (lv_at hl 1 rfl) ?_
          refine lv_dup hx hb dX10_records_40 rfl ?_
          refine zz_get (v := .int (nI un)) S hw fgX10_254 0 rfl rfl dX10_records_41 ?_
          refine lv_iconst (v := 1) hx hb dX10_records_44 (by decide) ?_
          refine lv_isub hx hb dX10_records_45 ?_
          refine zz_topi (y := (nI (un - 1))) (pk_sub (a := un) (b := 1) (by omega)) ?_
          refine zz_put (ws' := [((r 0), .inr (10, (zz_mo r [(0, j0), (2, j2), (4, j4), (10, j10), (11, j11), (12, j12), (13, j13), (14, j14), (15, j15), (16, j16), (17, j17), (18, j18), (19, j19), (20, j20), (34, j34), (40, j40), (44, j44), (47, j47), (50, j50), (51, j51), (56, (nI (un - 1))), (61, j61)]))), ((r 48), .inl (G.2 0, 71, .inl c48)), ((r 49), .inl (G.2 0, 71, .inl c49)), ((r 57), .inl (G.2 0, 2840, .inl vF27))]) (v := .int (nI (un - 1))) S hw fpX10_254 0 rfl rfl rfl (Nat.le_of_ble_eq_true rfl) rfl dX10_records_46 ?_
          clear hw
          intro H locs hw
          refine lv_iconst (v := 0) hx hb dX10_records_49 (by decide) ?_
          refine lv_istore_n (lv' := [(1, .int 0), (0, .ref (r 0))]) hx hb dX10_records_50 rfl hl (by decide) rfl (fun ls hl => ?_)
          refine W.eq (g2 := F0 m 51 ls []) rfl ?_
          have lp51_51 : ∀ (vn44 vi43 : Nat) (vF47 : Nat → Int32) (H : Heap) (locs : List Loc) (ls : Array Slot), vi43 ≤ 71 → 71 < vi43 + vn44 → zy_pt vi43 (71 * (un - 1)) vF27 c48 vF47 → zz_w G A s [((r 0), .inr (10, (zz_mo r [(0, j0), (2, j2), (4, j4), (10, j10), (11, j11), (12, j12), (13, j13), (14, j14), (15, j15), (16, j16), (17, j17), (18, j18), (19, j19), (20, j20), (34, j34), (40, j40), (44, j44), (47, j47), (50, j50), (51, j51), (56, (nI (un - 1))), (61, j61)]))), ((r 48), .inl (G.2 0, 71, .inl c48)), ((r 49), .inl (G.2 0, 71, .inl c49)), ((r 57), .inl (G.2 0, 2840, .inl vF47))] H locs → lv_has ls 2 [(1, .int (nI vi43)), (0, .ref (r 0))] → W p l e (zz_rm 1 0 0) s m args below meth c H locs (0) (0) Q (F0 m 51 ls []) := by
            intro vn44
            induction vn44 with
            | zero => intro vi43 vF47 H locs ls hi1 hi2; exact absurd hi2 (by omega)
            | succ vn44 ih51 =>
              intro vi43 vF47 H locs ls hi51a hi51b hv51_50 hw hl
              refine lv_iload_n hx hb dX10_records_51 rfl (lv_at hl 0 rfl) ?_
              refine lv_bipush (v := 71) hx hb dX10_records_52 (by decide) ?_
              refine lv_icmp_ge (tgt := 83) hx hb dX10_records_54 (by decide) (fun c54_52 => ?_) (fun c54_52 => ?_)
              · skip
                have c54_52n : 71 ≤ vi43 := (zz_le (a := 71) (b := vi43) rfl rfl (by omega) (by omega)).mp c54_52
                refine lv_aload_n hx hb dX10_records_83 rfl (lv_at hl 1 rfl) ?_
                refine lv_dup hx hb dX10_records_84 rfl ?_
                refine zz_get (v := .int (nI (un - 1))) S hw fgX10_254 0 rfl rfl dX10_records_85 ?_
                refine lv_iconst (v := 1) hx hb dX10_records_88 (by decide) ?_
                refine lv_iadd hx hb dX10_records_89 ?_
                refine zz_topi (y := (nI ((un - 1) + 1))) (nI_add _ _) ?_
                refine zz_put (ws' := [((r 0), .inr (10, (zz_mo r [(0, j0), (2, j2), (4, j4), (10, j10), (11, j11), (12, j12), (13, j13), (14, j14), (15, j15), (16, j16), (17, j17), (18, j18), (19, j19), (20, j20), (34, j34), (40, j40), (44, j44), (47, j47), (50, j50), (51, j51), (56, (nI ((un - 1) + 1))), (61, j61)]))), ((r 48), .inl (G.2 0, 71, .inl c48)), ((r 49), .inl (G.2 0, 71, .inl c49)), ((r 57), .inl (G.2 0, 2840, .inl vF47))]) (v := .int (nI ((un - 1) + 1))) S hw fpX10_254 0 rfl rfl rfl (Nat.le_of_ble_eq_true rfl) rfl dX10_records_90 ?_
                clear hw
                intro H locs hw
                refine lv_aload_n hx hb dX10_records_93 rfl (lv_at hl 1 rfl) ?_
                refine zz_callV (qb := 0) (As := []) (rest := []) (wr := [((r 57), .inl (G.2 0, 2840, .inl vF47))]) S hw hl.1 lX10_166 (c_x_keepsRow l G r j0 j2 j4 j10 j11 j12 j13 j14 j15 j16 j17 j18 j19 j20 j34 j40 j44 j47 j50 j51 (nI ((un - 1) + 1)) j61 c48 c49) ⟨Nat.le_of_ble_eq_true rfl, Nat.le_of_ble_eq_true rfl⟩ ⟨Nat.le_of_ble_eq_true rfl, Nat.le_of_ble_eq_true rfl⟩ [0, 1, 2] [3] (by decide) rfl rfl (by decide) (by decide) rfl rfl rfl rfl (Nat.le_of_ble_eq_true rfl) dX10_records_94 ?_
                clear hw
                intro rr u H locs hp hw
                refine hp.elim fun d48_53 zg0 => zg0.elim fun zee1 zg1 => zg1.elim fun zee2 hq94_0 => ?_
                clear hp zg0 zg1
                subst zee1
                subst zee2
                replace hw : zz_w G A s [((r 57), .inl (G.2 0, 2840, .inl vF47)), ((r 0), .inr (10, (zz_mo r [(0, j0), (2, j2), (4, j4), (10, j10), (11, j11), (12, j12), (13, j13), (14, j14), (15, j15), (16, j16), (17, j17), (18, j18), (19, j19), (20, j20), (34, j34), (40, j40), (44, j44), (47, j47), (50, j50), (51, j51), (56, (nI ((un - 1) + 1))), (61, j61)]))), ((r 48), .inl (G.2 0, 71, .inl d48_53)), ((r 49), .inl (G.2 0, 71, .inl c49))] H _ := hw
                refine W.eq (g2 := F0 m 97 ls []) rfl ?_
                exact hret _ _ _ _ _ ⟨((un - 1) + 1), d48_53, vF47, rfl, rfl, (by omega), (by first | exact zy_rc1 hv11_40 hv51_50 hq94_0 (by omega) (by omega) (by omega) | exact zy_rc0 hv51_50 hq94_0 (by omega) (by omega) (by omega))⟩ (hw.sub [1, 2, 3, 0] (by decide) rfl) dX10_records_97
              · skip
                have c54_52n : ¬ (71 ≤ vi43) := fun z => c54_52 ((zz_le (a := 71) (b := vi43) rfl rfl (by omega) (by omega)).mpr z)
                refine lv_aload_n hx hb dX10_records_57 rfl (lv_at hl 1 rfl) ?_
                refine zz_get (v := .ref (r 57)) S hw fgX10_128 0 rfl rfl dX10_records_58 ?_
                refine lv_bipush (v := 71) hx hb dX10_records_61 (by decide) ?_
                refine lv_aload_n hx hb dX10_records_63 rfl (lv_at hl 1 rfl) ?_
                refine W.eq (g2 := F0 m 64 ls [.ref (r 0), .int 71, .ref (r 57)]) rfl ?_
                refine zz_get (v := .int (nI (un - 1))) S hw fgX10_254 0 rfl rfl dX10_records_64 ?_
                refine lv_imul hx hb dX10_records_67 ?_
                refine zz_topi (y := (nI (71 * (un - 1)))) (pk_mul _ _) ?_
                refine lv_iload_n hx hb dX10_records_68 rfl (lv_at hl 0 rfl) ?_
                refine lv_iadd hx hb dX10_records_69 ?_
                refine zz_topi (y := (nI ((71 * (un - 1)) + vi43))) (nI_add _ _) ?_
                refine lv_aload_n hx hb dX10_records_70 rfl (lv_at hl 1 rfl) ?_
                refine zz_get (v := .ref (r 48)) S hw fgX10_110 0 rfl rfl dX10_records_71 ?_
                refine lv_iload_n hx hb dX10_records_74 rfl (lv_at hl 0 rfl) ?_
                refine zz_iald (v := (c48 vi43)) S hw 1 rfl (vp_in_nI (n := vi43) (by omega) (by decide)) (congrArg c48 (nI_clamp (n := vi43) (by omega))) dX10_records_75 ?_
                refine zz_iast (ws' := [((r 0), .inr (10, (zz_mo r [(0, j0), (2, j2), (4, j4), (10, j10), (11, j11), (12, j12), (13, j13), (14, j14), (15, j15), (16, j16), (17, j17), (18, j18), (19, j19), (20, j20), (34, j34), (40, j40), (44, j44), (47, j47), (50, j50), (51, j51), (56, (nI (un - 1))), (61, j61)]))), ((r 48), .inl (G.2 0, 71, .inl c48)), ((r 49), .inl (G.2 0, 71, .inl c49)), ((r 57), .inl (G.2 0, 2840, .inl (upd vF47 ((71 * (un - 1)) + vi43) (c48 vi43))))]) (g := (upd vF47 ((71 * (un - 1)) + vi43) (c48 vi43))) S hw 3 rfl (vp_in_nI (n := ((71 * (un - 1)) + vi43)) (by omega) (by decide)) (zz_upn (n := ((71 * (un - 1)) + vi43)) (by omega)) rfl dX10_records_76 ?_
                clear hw
                intro H locs hw
                refine lv_iinc (v := (nI (vi43 + 1))) (lv' := [(1, .int (nI (vi43 + 1))), (0, .ref (r 0))]) hx hb dX10_records_77 hl (k := 0) rfl (nI_add _ 1) (by decide) rfl (fun ls hl => ?_)
                refine lv_goto (tgt := 51) hx hb dX10_records_80 (by decide) ?_
                exact ih51 (vi43 + 1) (upd vF47 ((71 * (un - 1)) + vi43) (c48 vi43)) _ _ _ (by omega) (by omega) (zy_pt1 hv51_50) hw (lv_sub hl [0, 1] rfl)
          exact lp51_51 (71 + 1 - 0) 0 vF27 _ _ _ (by omega) (by omega) zy_pt0 hw (lv_sub hl [0, 1] rfl)
        · skip
          have c15_42n : ¬ (2769 ≤ vi13) := fun z => c15_42 ((zz_le (a := 2769) (b := vi13) rfl rfl (by omega) (by omega)).mpr z)
          refine lv_aload_n hx hb dX10_records_18 rfl (lv_at hl 1 rfl) ?_
          refine zz_get (v := .ref (r 57)) S hw fgX10_128 0 rfl rfl dX10_records_19 ?_
          refine lv_iload_n hx hb dX10_records_22 rfl (lv_at hl 0 rfl) ?_
          refine W.eq (g2 := F0 m 23 ls [.int (nI vi13), .ref (r 57)]) rfl ?_
          refine lv_aload_n hx hb dX10_records_23 rfl (lv_at hl 1 rfl) ?_
          refine zz_get (v := .ref (r 57)) S hw fgX10_128 0 rfl rfl dX10_records_24 ?_
          refine lv_iload_n hx hb dX10_records_27 rfl (lv_at hl 0 rfl) ?_
          refine lv_bipush (v := 71) hx hb dX10_records_28 (by decide) ?_
          refine lv_iadd hx hb dX10_records_30 ?_
          refine zz_topi (y := (nI (vi13 + 71))) (nI_add _ _) ?_
          refine zz_iald (v := (vF27 (vi13 + 71))) S hw 3 rfl (vp_in_nI (n := (vi13 + 71)) (by omega) (by decide)) (congrArg vF27 (nI_clamp (n := (vi13 + 71)) (by omega))) dX10_records_31 ?_
          refine zz_iast (ws' := [((r 0), .inr (10, (zz_mo r [(0, j0), (2, j2), (4, j4), (10, j10), (11, j11), (12, j12), (13, j13), (14, j14), (15, j15), (16, j16), (17, j17), (18, j18), (19, j19), (20, j20), (34, j34), (40, j40), (44, j44), (47, j47), (50, j50), (51, j51), (56, (nI un)), (61, j61)]))), ((r 48), .inl (G.2 0, 71, .inl c48)), ((r 49), .inl (G.2 0, 71, .inl c49)), ((r 57), .inl (G.2 0, 2840, .inl (upd vF27 vi13 (vF27 (vi13 + 71)))))]) (g := (upd vF27 vi13 (vF27 (vi13 + 71)))) S hw 3 rfl (vp_in_nI (n := vi13) (by omega) (by decide)) (zz_upn (n := vi13) (by omega)) rfl dX10_records_32 ?_
          clear hw
          intro H locs hw
          refine lv_iinc (v := (nI (vi13 + 1))) (lv' := [(1, .int (nI (vi13 + 1))), (0, .ref (r 0))]) hx hb dX10_records_33 hl (k := 0) rfl (nI_add _ 1) (by decide) rfl (fun ls hl => ?_)
          refine lv_goto (tgt := 11) hx hb dX10_records_36 (by decide) ?_
          exact ih11 (vi13 + 1) (upd vF27 vi13 (vF27 (vi13 + 71))) _ _ _ (by omega) (by omega) (zy_sh1 hv11_40) hw (lv_sub hl [0, 1] rfl)
    exact lp11_41 (2769 + 1 - 0) 0 c57 _ _ _ (by omega) (by omega) zy_sh0 hw (lv_sub hl [0, 1] rfl)
theorem kd_ncX10_does : kd_ck 235943196263710291800546514819698767402 16 cX10_does.data.toList 0 = true := by decide +kernel
theorem dX10_does_0 : decode cX10_does 0 = .ok (.aload_n 0, 1) := kd_dk0 kd_o42 kd_ncX10_does rfl
theorem dX10_does_1 : decode cX10_does 1 = .ok (.invokevirtual 323, 3) := kd_dk2 kd_o182 kd_ncX10_does rfl
theorem dX10_does_4 : decode cX10_does 4 = .ok (.aload_n 0, 1) := kd_dk0 kd_o42 kd_ncX10_does rfl
theorem dX10_does_5 : decode cX10_does 5 = .ok (.getfield 113, 3) := kd_dk2 kd_o180 kd_ncX10_does rfl
theorem dX10_does_8 : decode cX10_does 8 = .ok (.iload_n 1, 1) := kd_dk0 kd_o27 kd_ncX10_does rfl
theorem dX10_does_9 : decode cX10_does 9 = .ok (.iload_n 2, 1) := kd_dk0 kd_o28 kd_ncX10_does rfl
theorem dX10_does_10 : decode cX10_does 10 = .ok (.iastore, 1) := kd_dk0 kd_o79 kd_ncX10_does rfl
theorem dX10_does_11 : decode cX10_does 11 = .ok (.aload_n 0, 1) := kd_dk0 kd_o42 kd_ncX10_does rfl
theorem dX10_does_12 : decode cX10_does 12 = .ok (.invokevirtual 385, 3) := kd_dk2 kd_o182 kd_ncX10_does rfl
theorem dX10_does_15 : decode cX10_does 15 = .ok (.return_, 1) := kd_dk0 kd_o177 kd_ncX10_does rfl
set_option maxHeartbeats 8000000 in
set_option maxRecDepth 100000 in
theorem c_x_does (l : Launch) (G : zz_G) (r : Nat → Nat) (j0 : Int32) (j2 : Int32) (j4 : Int32) (j10 : Int32) (j11 : Int32) (j12 : Int32) (j13 : Int32) (j14 : Int32) (j15 : Int32) (j16 : Int32) (j17 : Int32) (j19 : Int32) (j20 : Int32) (j34 : Int32) (j40 : Int32) (j44 : Int32) (j47 : Int32) (j50 : Int32) (j51 : Int32) (j61 : Int32) (lv : Nat) (c31 : Nat → Int32) (c48 : Nat → Int32) (c49 : Nat → Int32) (c57 : Nat → Int32) (ar2 : Int32) (un : Nat) (kx : Nat) (hlv : lv ≤ 1) (hun : un ≤ 40) (hkx : kx < 71) : zz_M l G mX10_does 2 0 0 [.ref (r 0), .int (nI kx), .int ar2] [((r 0), .inr (10, (zz_mo r [(0, j0), (2, j2), (4, j4), (10, j10), (11, j11), (12, j12), (13, j13), (14, j14), (15, j15), (16, j16), (17, j17), (18, (nI lv)), (19, j19), (20, j20), (34, j34), (40, j40), (44, j44), (47, j47), (50, j50), (51, j51), (56, (nI un)), (61, j61)]))), ((r 31), .inl (G.2 0, 2, .inl c31)), ((r 48), .inl (G.2 0, 71, .inl c48)), ((r 49), .inl (G.2 0, 71, .inl c49)), ((r 57), .inl (G.2 0, 2840, .inl c57))] (fun rr u => ∃ (un2 : Nat), ∃ (k50 : Int32), ∃ (k51 : Int32), ∃ (d48 : Nat → Int32), ∃ (d49 : Nat → Int32), ∃ (d57 : Nat → Int32), rr = none ∧ u = [((r 0), .inr (10, (zz_mo r [(0, j0), (2, j2), (4, j4), (10, j10), (11, j11), (12, j12), (13, j13), (14, j14), (15, j15), (16, j16), (17, j17), (18, (nI lv)), (19, j19), (20, j20), (34, j34), (40, j40), (44, j44), (47, j47), (50, k50), (51, k51), (56, (nI un2)), (61, j61)]))), ((r 31), .inl (G.2 0, 2, .inl c31)), ((r 48), .inl (G.2 0, 71, .inl d48)), ((r 49), .inl (G.2 0, 71, .inl d49)), ((r 57), .inl (G.2 0, 2840, .inl d57))] ∧ (un2 ≤ 40) ∧ (zy_ds kx ar2 un c48 c57 un2 d48 d57)) := by
  refine zz_enterv (by decide +kernel) (Nat.le_of_ble_eq_true rfl) ?_
  intro p e s m args below meth c A Q ls S hnm hret hw hl
  have hl : lv_has ls 3 [(0, .ref (r 0)), (1, .int (nI kx)), (2, .int ar2)] := hl
  have hx := S.1
  have hb := S.2.1
  refine lv_aload_n hx hb dX10_does_0 rfl (lv_at hl 0 rfl) ?_
  refine zz_callV (qb := 0) (As := []) (rest := []) (wr := [((r 57), .inl (G.2 0, 2840, .inl c57))]) S hw hl.1 lX10_323 (c_x_copies l G r j0 j2 j4 j10 j11 j12 j13 j14 j15 j16 j17 j19 j20 j34 j40 j44 j47 j50 j51 (nI un) j61 lv c31 c48 c49 (by first | assumption | omega | exact Or.inr ⟨_, by omega, rfl⟩ | (unfold zz_sok; decide) | decide | exact (fun j hj => (hv7 j hj).1))) ⟨Nat.le_of_ble_eq_true rfl, Nat.le_of_ble_eq_true rfl⟩ ⟨Nat.le_of_ble_eq_true rfl, Nat.le_of_ble_eq_true rfl⟩ [0, 1, 2, 3] [4] (by decide) rfl rfl (by decide) (by decide) rfl rfl rfl rfl (Nat.le_of_ble_eq_true rfl) dX10_does_1 ?_
  clear hw
  intro rr u H locs hp hw
  refine hp.elim fun k50_1 zg0 => zg0.elim fun k51_2 zg1 => zg1.elim fun d49_3 zg2 => zg2.elim fun zee1 zg3 => zg3.elim fun zee2 zg4 => zg4.elim fun hq1_0 zg5 => zg5.elim fun hq1_1 hq1_2 => ?_
  clear hp zg0 zg1 zg2 zg3 zg4 zg5
  subst zee1
  subst zee2
  replace hw : zz_w G A s [((r 57), .inl (G.2 0, 2840, .inl c57)), ((r 0), .inr (10, (zz_mo r [(0, j0), (2, j2), (4, j4), (10, j10), (11, j11), (12, j12), (13, j13), (14, j14), (15, j15), (16, j16), (17, j17), (18, (nI lv)), (19, j19), (20, j20), (34, j34), (40, j40), (44, j44), (47, j47), (50, k50_1), (51, k51_2), (56, (nI un)), (61, j61)]))), ((r 31), .inl (G.2 0, 2, .inl c31)), ((r 48), .inl (G.2 0, 71, .inl c48)), ((r 49), .inl (G.2 0, 71, .inl d49_3))] H _ := hw
  refine W.eq (g2 := F0 m 4 ls []) rfl ?_
  refine lv_aload_n hx hb dX10_does_4 rfl (lv_at hl 0 rfl) ?_
  refine zz_get (v := .ref (r 49)) S hw fgX10_113 1 rfl rfl dX10_does_5 ?_
  refine lv_iload_n hx hb dX10_does_8 rfl (lv_at hl 1 rfl) ?_
  refine lv_iload_n hx hb dX10_does_9 rfl (lv_at hl 2 rfl) ?_
  refine zz_iast (ws' := [((r 57), .inl (G.2 0, 2840, .inl c57)), ((r 0), .inr (10, (zz_mo r [(0, j0), (2, j2), (4, j4), (10, j10), (11, j11), (12, j12), (13, j13), (14, j14), (15, j15), (16, j16), (17, j17), (18, (nI lv)), (19, j19), (20, j20), (34, j34), (40, j40), (44, j44), (47, j47), (50, k50_1), (51, k51_2), (56, (nI un)), (61, j61)]))), ((r 31), .inl (G.2 0, 2, .inl c31)), ((r 48), .inl (G.2 0, 71, .inl c48)), ((r 49), .inl (G.2 0, 71, .inl (upd d49_3 kx ar2)))]) (g := (upd d49_3 kx ar2)) S hw 4 rfl (vp_in_nI (n := kx) (by omega) (by decide)) (zz_upn (n := kx) (by omega)) rfl dX10_does_10 ?_
  clear hw
  intro H locs hw
  refine lv_aload_n hx hb dX10_does_11 rfl (lv_at hl 0 rfl) ?_
  refine zz_callV (qb := 1) (As := []) (rest := []) (wr := [((r 31), .inl (G.2 0, 2, .inl c31))]) S hw hl.1 lX10_385 (c_x_records l G r j0 j2 j4 j10 j11 j12 j13 j14 j15 j16 j17 (nI lv) j19 j20 j34 j40 j44 j47 k50_1 k51_2 j61 c48 (upd d49_3 kx ar2) c57 un (by first | assumption | omega | exact Or.inr ⟨_, by omega, rfl⟩ | (unfold zz_sok; decide) | decide | exact (fun j hj => (hv7 j hj).1))) ⟨Nat.le_of_ble_eq_true rfl, Nat.le_of_ble_eq_true rfl⟩ ⟨Nat.le_of_ble_eq_true rfl, Nat.le_of_ble_eq_true rfl⟩ [1, 3, 4, 0] [2] (by decide) rfl rfl (by decide) (by decide) rfl rfl rfl rfl (Nat.le_of_ble_eq_true rfl) dX10_does_12 ?_
  clear hw
  intro rr u H locs hp hw
  refine hp.elim fun un2_4 zg0 => zg0.elim fun d48_5 zg1 => zg1.elim fun d57_6 zg2 => zg2.elim fun zee1 zg3 => zg3.elim fun zee2 zg4 => zg4.elim fun hq12_0 hq12_1 => ?_
  clear hp zg0 zg1 zg2 zg3 zg4
  subst zee1
  subst zee2
  replace hw : zz_w G A s [((r 31), .inl (G.2 0, 2, .inl c31)), ((r 0), .inr (10, (zz_mo r [(0, j0), (2, j2), (4, j4), (10, j10), (11, j11), (12, j12), (13, j13), (14, j14), (15, j15), (16, j16), (17, j17), (18, (nI lv)), (19, j19), (20, j20), (34, j34), (40, j40), (44, j44), (47, j47), (50, k50_1), (51, k51_2), (56, (nI un2_4)), (61, j61)]))), ((r 48), .inl (G.2 0, 71, .inl d48_5)), ((r 49), .inl (G.2 0, 71, .inl (upd d49_3 kx ar2))), ((r 57), .inl (G.2 0, 2840, .inl d57_6))] H _ := hw
  refine W.eq (g2 := F0 m 15 ls []) rfl ?_
  exact hret _ _ _ _ _ ⟨un2_4, k50_1, k51_2, d48_5, (upd d49_3 kx ar2), d57_6, rfl, rfl, (by omega), ⟨_, hq1_0, hq12_1⟩⟩ (hw.sub [1, 0, 2, 3, 4] (by decide) rfl) dX10_does_15
theorem kd_ncX10_move : kd_ck 1305364865769660764677589670888674423052036221512905413941979701354573654601904823082 35 cX10_move.data.toList 0 = true := by decide +kernel
theorem dX10_move_0 : decode cX10_move 0 = .ok (.aload_n 0, 1) := kd_dk0 kd_o42 kd_ncX10_move rfl
theorem dX10_move_1 : decode cX10_move 1 = .ok (.iload_n 1, 1) := kd_dk0 kd_o27 kd_ncX10_move rfl
theorem dX10_move_2 : decode cX10_move 2 = .ok (.invokevirtual 373, 3) := kd_dk2 kd_o182 kd_ncX10_move rfl
theorem dX10_move_5 : decode cX10_move 5 = .ok (.ifCond .eq 20, 3) := kd_dj2 kd_o153 (w := 20) kd_ncX10_move rfl rfl
theorem dX10_move_8 : decode cX10_move 8 = .ok (.iload_n 2, 1) := kd_dk0 kd_o28 kd_ncX10_move rfl
theorem dX10_move_9 : decode cX10_move 9 = .ok (.invokestatic 388, 3) := kd_dk2 kd_o184 kd_ncX10_move rfl
theorem dX10_move_12 : decode cX10_move 12 = .ok (.ifCond .eq 13, 3) := kd_dj2 kd_o153 (w := 13) kd_ncX10_move rfl rfl
theorem dX10_move_15 : decode cX10_move 15 = .ok (.aload_n 0, 1) := kd_dk0 kd_o42 kd_ncX10_move rfl
theorem dX10_move_16 : decode cX10_move 16 = .ok (.getfield 110, 3) := kd_dk2 kd_o180 kd_ncX10_move rfl
theorem dX10_move_19 : decode cX10_move 19 = .ok (.iload_n 1, 1) := kd_dk0 kd_o27 kd_ncX10_move rfl
theorem dX10_move_20 : decode cX10_move 20 = .ok (.iaload, 1) := kd_dk0 kd_o46 kd_ncX10_move rfl
theorem dX10_move_21 : decode cX10_move 21 = .ok (.iload_n 2, 1) := kd_dk0 kd_o28 kd_ncX10_move rfl
theorem dX10_move_22 : decode cX10_move 22 = .ok (.if_icmp .ne 5, 3) := kd_dj2 kd_o160 (w := 5) kd_ncX10_move rfl rfl
theorem dX10_move_25 : decode cX10_move 25 = .ok (.iconst 0, 1) := kd_dk0 kd_o3 kd_ncX10_move rfl
theorem dX10_move_26 : decode cX10_move 26 = .ok (.ireturn, 1) := kd_dk0 kd_o172 kd_ncX10_move rfl
theorem dX10_move_27 : decode cX10_move 27 = .ok (.aload_n 0, 1) := kd_dk0 kd_o42 kd_ncX10_move rfl
theorem dX10_move_28 : decode cX10_move 28 = .ok (.iload_n 1, 1) := kd_dk0 kd_o27 kd_ncX10_move rfl
theorem dX10_move_29 : decode cX10_move 29 = .ok (.iload_n 2, 1) := kd_dk0 kd_o28 kd_ncX10_move rfl
theorem dX10_move_30 : decode cX10_move 30 = .ok (.invokevirtual 391, 3) := kd_dk2 kd_o182 kd_ncX10_move rfl
theorem dX10_move_33 : decode cX10_move 33 = .ok (.iconst 1, 1) := kd_dk0 kd_o4 kd_ncX10_move rfl
theorem dX10_move_34 : decode cX10_move 34 = .ok (.ireturn, 1) := kd_dk0 kd_o172 kd_ncX10_move rfl
set_option maxHeartbeats 8000000 in
set_option maxRecDepth 100000 in
theorem c_x_move (l : Launch) (G : zz_G) (r : Nat → Nat) (j0 : Int32) (j2 : Int32) (j4 : Int32) (j10 : Int32) (j11 : Int32) (j12 : Int32) (j13 : Int32) (j14 : Int32) (j15 : Int32) (j16 : Int32) (j17 : Int32) (j19 : Int32) (j20 : Int32) (j34 : Int32) (j40 : Int32) (j44 : Int32) (j47 : Int32) (j50 : Int32) (j51 : Int32) (j61 : Int32) (lv : Nat) (pp : Nat) (c22 : Nat → Int32) (c31 : Nat → Int32) (c48 : Nat → Int32) (c49 : Nat → Int32) (c57 : Nat → Int32) (ar1 : Int32) (ar2 : Int32) (un : Nat) (hlv : lv ≤ 1) (hpe : c22 lv = nI pp) (hpp : pp ≤ 7) (hun : un ≤ 40) : zz_M l G mX10_move 3 0 0 [.ref (r 0), .int ar1, .int ar2] [((r 0), .inr (10, (zz_mo r [(0, j0), (2, j2), (4, j4), (10, j10), (11, j11), (12, j12), (13, j13), (14, j14), (15, j15), (16, j16), (17, j17), (18, (nI lv)), (19, j19), (20, j20), (34, j34), (40, j40), (44, j44), (47, j47), (50, j50), (51, j51), (56, (nI un)), (61, j61)]))), ((r 22), .inl (G.2 0, 2, .inl c22)), ((r 31), .inl (G.2 0, 2, .inl c31)), ((r 48), .inl (G.2 0, 71, .inl c48)), ((r 49), .inl (G.2 0, 71, .inl c49)), ((r 57), .inl (G.2 0, 2840, .inl c57))] (fun rr u => ∃ (rv : Int32), ∃ (un2 : Nat), ∃ (k50 : Int32), ∃ (k51 : Int32), ∃ (d48 : Nat → Int32), ∃ (d49 : Nat → Int32), ∃ (d57 : Nat → Int32), rr = some (.int rv) ∧ u = [((r 0), .inr (10, (zz_mo r [(0, j0), (2, j2), (4, j4), (10, j10), (11, j11), (12, j12), (13, j13), (14, j14), (15, j15), (16, j16), (17, j17), (18, (nI lv)), (19, j19), (20, j20), (34, j34), (40, j40), (44, j44), (47, j47), (50, k50), (51, k51), (56, (nI un2)), (61, j61)]))), ((r 22), .inl (G.2 0, 2, .inl c22)), ((r 31), .inl (G.2 0, 2, .inl c31)), ((r 48), .inl (G.2 0, 71, .inl d48)), ((r 49), .inl (G.2 0, 71, .inl d49)), ((r 57), .inl (G.2 0, 2840, .inl d57))] ∧ (un2 ≤ 40) ∧ (zy_mR pp 0 c48 c57 un ar1 ar2 rv un2 d48 d57) ∧ (rv = 0 ∨ rv = 1)) := by
  refine zz_enteri (by decide +kernel) (Nat.le_of_ble_eq_true rfl) ?_
  intro p e s m args below meth c A Q ls S hnm hret hw hl
  have hl : lv_has ls 3 [(0, .ref (r 0)), (1, .int ar1), (2, .int ar2)] := hl
  have hx := S.1
  have hb := S.2.1
  refine lv_aload_n hx hb dX10_move_0 rfl (lv_at hl 0 rfl) ?_
  refine lv_iload_n hx hb dX10_move_1 rfl (lv_at hl 1 rfl) ?_
  refine zz_callV (qb := 0) (As := [.int ar1]) (rest := []) (wr := [((r 31), .inl (G.2 0, 2, .inl c31)), ((r 48), .inl (G.2 0, 71, .inl c48)), ((r 49), .inl (G.2 0, 71, .inl c49)), ((r 57), .inl (G.2 0, 2840, .inl c57))]) S hw hl.1 lX10_373 (c_x_isPerson l G r j0 j2 j4 j10 j11 j12 j13 j14 j15 j16 j17 j19 j20 j34 j40 j44 j47 j50 j51 (nI un) j61 lv pp c22 ar1 (by first | assumption | omega | exact Or.inr ⟨_, by omega, rfl⟩ | (unfold zz_sok; decide) | decide | exact (fun j hj => (hv7 j hj).1)) (by first | assumption | omega | exact Or.inr ⟨_, by omega, rfl⟩ | (unfold zz_sok; decide) | decide | exact (fun j hj => (hv7 j hj).1)) (by first | assumption | omega | exact Or.inr ⟨_, by omega, rfl⟩ | (unfold zz_sok; decide) | decide | exact (fun j hj => (hv7 j hj).1))) ⟨Nat.le_of_ble_eq_true rfl, Nat.le_of_ble_eq_true rfl⟩ ⟨Nat.le_of_ble_eq_true rfl, Nat.le_of_ble_eq_true rfl⟩ [0, 1] [2, 3, 4, 5] (by decide) rfl rfl (by decide) (by decide) rfl rfl rfl rfl (Nat.le_of_ble_eq_true rfl) dX10_move_2 ?_
  clear hw
  intro rr u H locs hp hw
  refine hp.elim fun rv_1 zg0 => zg0.elim fun zee1 zg1 => zg1.elim fun zee2 zg2 => zg2.elim fun hq2_0 zg3 => zg3.elim fun hq2_1 hq2_2 => ?_
  clear hp zg0 zg1 zg2 zg3
  subst zee1
  subst zee2
  replace hw : zz_w G A s [((r 31), .inl (G.2 0, 2, .inl c31)), ((r 48), .inl (G.2 0, 71, .inl c48)), ((r 49), .inl (G.2 0, 71, .inl c49)), ((r 57), .inl (G.2 0, 2840, .inl c57)), ((r 0), .inr (10, (zz_mo r [(0, j0), (2, j2), (4, j4), (10, j10), (11, j11), (12, j12), (13, j13), (14, j14), (15, j15), (16, j16), (17, j17), (18, (nI lv)), (19, j19), (20, j20), (34, j34), (40, j40), (44, j44), (47, j47), (50, j50), (51, j51), (56, (nI un)), (61, j61)]))), ((r 22), .inl (G.2 0, 2, .inl c22))] H _ := hw
  refine W.eq (g2 := F0 m 5 ls [.int rv_1]) rfl ?_
  refine lv_if_eq (tgt := 25) hx hb dX10_move_5 (by decide) (fun c5_2 => ?_) (fun c5_2 => ?_)
  · skip
    refine lv_iconst (v := 0) hx hb dX10_move_25 (by decide) ?_
    exact hret _ _ _ _ _ _ ⟨0, un, j50, j51, c48, c49, c57, rfl, rfl, (by omega), (by first | exact zy_mR1 (by omega) (by omega) (by assumption) (by assumption) (by omega) hq30_1 | exact zy_mR0 (by omega) (by omega) (by assumption) (by omega) | exact zy_mRa (hq2_1 (by assumption)) | exact zy_mRb (hq9_1 (by assumption))), (by first | exact Or.inl rfl | exact Or.inr rfl | assumption)⟩ (hw.sub [4, 5, 0, 1, 2, 3] (by decide) rfl) rfl dX10_move_26
  · skip
    obtain ⟨vq3, hvq3, rfl⟩ := hq2_0.resolve_left c5_2
    refine lv_iload_n hx hb dX10_move_8 rfl (lv_at hl 2 rfl) ?_
    refine zz_callS (As := [.int ar2]) (rest := []) (wr := [((r 31), .inl (G.2 0, 2, .inl c31)), ((r 48), .inl (G.2 0, 71, .inl c48)), ((r 49), .inl (G.2 0, 71, .inl c49)), ((r 57), .inl (G.2 0, 2840, .inl c57)), ((r 0), .inr (10, (zz_mo r [(0, j0), (2, j2), (4, j4), (10, j10), (11, j11), (12, j12), (13, j13), (14, j14), (15, j15), (16, j16), (17, j17), (18, (nI lv)), (19, j19), (20, j20), (34, j34), (40, j40), (44, j44), (47, j47), (50, j50), (51, j51), (56, (nI un)), (61, j61)]))), ((r 22), .inl (G.2 0, 2, .inl c22))]) S hw hl.1 lX10_388 (c_x_isHour l G ar2) ⟨Nat.le_of_ble_eq_true rfl, Nat.le_of_ble_eq_true rfl⟩ ⟨Nat.le_of_ble_eq_true rfl, Nat.le_of_ble_eq_true rfl⟩ [] [0, 1, 2, 3, 4, 5] (by decide) rfl rfl (by decide) (by decide) rfl rfl (Nat.le_of_ble_eq_true rfl) dX10_move_9 ?_
    clear hw
    intro rr u H locs hp hw
    refine hp.elim fun rv_4 zg0 => zg0.elim fun zee1 zg1 => zg1.elim fun zee2 zg2 => zg2.elim fun hq9_0 zg3 => zg3.elim fun hq9_1 hq9_2 => ?_
    clear hp zg0 zg1 zg2 zg3
    subst zee1
    subst zee2
    replace hw : zz_w G A s [((r 31), .inl (G.2 0, 2, .inl c31)), ((r 48), .inl (G.2 0, 71, .inl c48)), ((r 49), .inl (G.2 0, 71, .inl c49)), ((r 57), .inl (G.2 0, 2840, .inl c57)), ((r 0), .inr (10, (zz_mo r [(0, j0), (2, j2), (4, j4), (10, j10), (11, j11), (12, j12), (13, j13), (14, j14), (15, j15), (16, j16), (17, j17), (18, (nI lv)), (19, j19), (20, j20), (34, j34), (40, j40), (44, j44), (47, j47), (50, j50), (51, j51), (56, (nI un)), (61, j61)]))), ((r 22), .inl (G.2 0, 2, .inl c22))] H _ := hw
    refine W.eq (g2 := F0 m 12 ls [.int rv_4]) rfl ?_
    refine lv_if_eq (tgt := 25) hx hb dX10_move_12 (by decide) (fun c12_5 => ?_) (fun c12_5 => ?_)
    · skip
      refine lv_iconst (v := 0) hx hb dX10_move_25 (by decide) ?_
      exact hret _ _ _ _ _ _ ⟨0, un, j50, j51, c48, c49, c57, rfl, rfl, (by omega), (by first | exact zy_mR1 (by omega) (by omega) (by assumption) (by assumption) (by omega) hq30_1 | exact zy_mR0 (by omega) (by omega) (by assumption) (by omega) | exact zy_mRa (hq2_1 (by assumption)) | exact zy_mRb (hq9_1 (by assumption))), (by first | exact Or.inl rfl | exact Or.inr rfl | assumption)⟩ (hw.sub [4, 5, 0, 1, 2, 3] (by decide) rfl) rfl dX10_move_26
    · skip
      obtain ⟨vq6, hvq6, rfl⟩ := hq9_0.resolve_left c12_5
      refine lv_aload_n hx hb dX10_move_15 rfl (lv_at hl 0 rfl) ?_
      refine zz_get (v := .ref (r 48)) S hw fgX10_110 4 rfl rfl dX10_move_16 ?_
      refine lv_iload_n hx hb dX10_move_19 rfl (lv_at hl 1 rfl) ?_
      refine zz_iald (v := (c48 vq3)) S hw 1 rfl (vp_in_nI (n := vq3) (by omega) (by decide)) (congrArg c48 (nI_clamp (n := vq3) (by omega))) dX10_move_20 ?_
      refine lv_iload_n hx hb dX10_move_21 rfl (lv_at hl 2 rfl) ?_
      refine lv_icmp_ne (tgt := 27) hx hb dX10_move_22 (by decide) (fun c22_7 => ?_) (fun c22_7 => ?_)
      · skip
        refine lv_aload_n hx hb dX10_move_27 rfl (lv_at hl 0 rfl) ?_
        refine lv_iload_n hx hb dX10_move_28 rfl (lv_at hl 1 rfl) ?_
        refine W.eq (g2 := F0 m 29 ls [.int (nI vq3), .ref (r 0)]) rfl ?_
        refine lv_iload_n hx hb dX10_move_29 rfl (lv_at hl 2 rfl) ?_
        refine zz_callV (qb := 4) (As := [.int (nI vq3), .int (nI vq6)]) (rest := []) (wr := [((r 22), .inl (G.2 0, 2, .inl c22))]) S hw hl.1 lX10_391 (c_x_does l G r j0 j2 j4 j10 j11 j12 j13 j14 j15 j16 j17 j19 j20 j34 j40 j44 j47 j50 j51 j61 lv c31 c48 c49 c57 (nI vq6) un vq3 (by first | assumption | omega | exact Or.inr ⟨_, by omega, rfl⟩ | (unfold zz_sok; decide) | decide | exact (fun j hj => (hv7 j hj).1)) (by first | assumption | omega | exact Or.inr ⟨_, by omega, rfl⟩ | (unfold zz_sok; decide) | decide | exact (fun j hj => (hv7 j hj).1)) (by first | assumption | omega | exact Or.inr ⟨_, by omega, rfl⟩ | (unfold zz_sok; decide) | decide | exact (fun j hj => (hv7 j hj).1))) ⟨Nat.le_of_ble_eq_true rfl, Nat.le_of_ble_eq_true rfl⟩ ⟨Nat.le_of_ble_eq_true rfl, Nat.le_of_ble_eq_true rfl⟩ [4, 0, 1, 2, 3] [5] (by decide) rfl rfl (by decide) (by decide) rfl rfl rfl rfl (Nat.le_of_ble_eq_true rfl) dX10_move_30 ?_
        clear hw
        intro rr u H locs hp hw
        refine hp.elim fun un2_8 zg0 => zg0.elim fun k50_9 zg1 => zg1.elim fun k51_10 zg2 => zg2.elim fun d48_11 zg3 => zg3.elim fun d49_12 zg4 => zg4.elim fun d57_13 zg5 => zg5.elim fun zee1 zg6 => zg6.elim fun zee2 zg7 => zg7.elim fun hq30_0 hq30_1 => ?_
        clear hp zg0 zg1 zg2 zg3 zg4 zg5 zg6 zg7
        subst zee1
        subst zee2
        replace hw : zz_w G A s [((r 22), .inl (G.2 0, 2, .inl c22)), ((r 0), .inr (10, (zz_mo r [(0, j0), (2, j2), (4, j4), (10, j10), (11, j11), (12, j12), (13, j13), (14, j14), (15, j15), (16, j16), (17, j17), (18, (nI lv)), (19, j19), (20, j20), (34, j34), (40, j40), (44, j44), (47, j47), (50, k50_9), (51, k51_10), (56, (nI un2_8)), (61, j61)]))), ((r 31), .inl (G.2 0, 2, .inl c31)), ((r 48), .inl (G.2 0, 71, .inl d48_11)), ((r 49), .inl (G.2 0, 71, .inl d49_12)), ((r 57), .inl (G.2 0, 2840, .inl d57_13))] H _ := hw
        refine W.eq (g2 := F0 m 33 ls []) rfl ?_
        refine lv_iconst (v := 1) hx hb dX10_move_33 (by decide) ?_
        exact hret _ _ _ _ _ _ ⟨1, un2_8, k50_9, k51_10, d48_11, d49_12, d57_13, rfl, rfl, (by omega), (by first | exact zy_mR1 (by omega) (by omega) (by assumption) (by assumption) (by omega) hq30_1 | exact zy_mR0 (by omega) (by omega) (by assumption) (by omega) | exact zy_mRa (hq2_1 (by assumption)) | exact zy_mRb (hq9_1 (by assumption))), (by first | exact Or.inl rfl | exact Or.inr rfl | assumption)⟩ (hw.sub [1, 0, 2, 3, 4, 5] (by decide) rfl) rfl dX10_move_34
      · skip
        refine lv_iconst (v := 0) hx hb dX10_move_25 (by decide) ?_
        exact hret _ _ _ _ _ _ ⟨0, un, j50, j51, c48, c49, c57, rfl, rfl, (by omega), (by first | exact zy_mR1 (by omega) (by omega) (by assumption) (by assumption) (by omega) hq30_1 | exact zy_mR0 (by omega) (by omega) (by assumption) (by omega) | exact zy_mRa (hq2_1 (by assumption)) | exact zy_mRb (hq9_1 (by assumption))), (by first | exact Or.inl rfl | exact Or.inr rfl | assumption)⟩ (hw.sub [4, 5, 0, 1, 2, 3] (by decide) rfl) rfl dX10_move_26
theorem kd_ncX10_write : kd_ck 367427545191424382462024816927102605772894565534452306472851511173125474682764720826804479326559018 41 cX10_write.data.toList 0 = true := by decide +kernel
theorem dX10_write_0 : decode cX10_write 0 = .ok (.aload_n 0, 1) := kd_dk0 kd_o42 kd_ncX10_write rfl
theorem dX10_write_1 : decode cX10_write 1 = .ok (.iload_n 1, 1) := kd_dk0 kd_o27 kd_ncX10_write rfl
theorem dX10_write_2 : decode cX10_write 2 = .ok (.invokevirtual 382, 3) := kd_dk2 kd_o182 kd_ncX10_write rfl
theorem dX10_write_5 : decode cX10_write 5 = .ok (.ifCond .eq 23, 3) := kd_dj2 kd_o153 (w := 23) kd_ncX10_write rfl rfl
theorem dX10_write_8 : decode cX10_write 8 = .ok (.iload_n 2, 1) := kd_dk0 kd_o28 kd_ncX10_write rfl
theorem dX10_write_9 : decode cX10_write 9 = .ok (.invokestatic 388, 3) := kd_dk2 kd_o184 kd_ncX10_write rfl
theorem dX10_write_12 : decode cX10_write 12 = .ok (.ifCond .eq 16, 3) := kd_dj2 kd_o153 (w := 16) kd_ncX10_write rfl rfl
theorem dX10_write_15 : decode cX10_write 15 = .ok (.aload_n 0, 1) := kd_dk0 kd_o42 kd_ncX10_write rfl
theorem dX10_write_16 : decode cX10_write 16 = .ok (.getfield 110, 3) := kd_dk2 kd_o180 kd_ncX10_write rfl
theorem dX10_write_19 : decode cX10_write 19 = .ok (.bipush 21, 2) := kd_dj1 kd_o16 (w := 21) kd_ncX10_write rfl rfl
theorem dX10_write_21 : decode cX10_write 21 = .ok (.iload_n 1, 1) := kd_dk0 kd_o27 kd_ncX10_write rfl
theorem dX10_write_22 : decode cX10_write 22 = .ok (.iadd, 1) := kd_dk0 kd_o96 kd_ncX10_write rfl
theorem dX10_write_23 : decode cX10_write 23 = .ok (.iaload, 1) := kd_dk0 kd_o46 kd_ncX10_write rfl
theorem dX10_write_24 : decode cX10_write 24 = .ok (.iload_n 2, 1) := kd_dk0 kd_o28 kd_ncX10_write rfl
theorem dX10_write_25 : decode cX10_write 25 = .ok (.if_icmp .ne 5, 3) := kd_dj2 kd_o160 (w := 5) kd_ncX10_write rfl rfl
theorem dX10_write_28 : decode cX10_write 28 = .ok (.iconst 0, 1) := kd_dk0 kd_o3 kd_ncX10_write rfl
theorem dX10_write_29 : decode cX10_write 29 = .ok (.ireturn, 1) := kd_dk0 kd_o172 kd_ncX10_write rfl
theorem dX10_write_30 : decode cX10_write 30 = .ok (.aload_n 0, 1) := kd_dk0 kd_o42 kd_ncX10_write rfl
theorem dX10_write_31 : decode cX10_write 31 = .ok (.bipush 21, 2) := kd_dj1 kd_o16 (w := 21) kd_ncX10_write rfl rfl
theorem dX10_write_33 : decode cX10_write 33 = .ok (.iload_n 1, 1) := kd_dk0 kd_o27 kd_ncX10_write rfl
theorem dX10_write_34 : decode cX10_write 34 = .ok (.iadd, 1) := kd_dk0 kd_o96 kd_ncX10_write rfl
theorem dX10_write_35 : decode cX10_write 35 = .ok (.iload_n 2, 1) := kd_dk0 kd_o28 kd_ncX10_write rfl
theorem dX10_write_36 : decode cX10_write 36 = .ok (.invokevirtual 391, 3) := kd_dk2 kd_o182 kd_ncX10_write rfl
theorem dX10_write_39 : decode cX10_write 39 = .ok (.iconst 1, 1) := kd_dk0 kd_o4 kd_ncX10_write rfl
theorem dX10_write_40 : decode cX10_write 40 = .ok (.ireturn, 1) := kd_dk0 kd_o172 kd_ncX10_write rfl
set_option maxHeartbeats 8000000 in
set_option maxRecDepth 100000 in
theorem c_x_write (l : Launch) (G : zz_G) (r : Nat → Nat) (j0 : Int32) (j2 : Int32) (j4 : Int32) (j10 : Int32) (j11 : Int32) (j12 : Int32) (j13 : Int32) (j14 : Int32) (j15 : Int32) (j16 : Int32) (j17 : Int32) (j19 : Int32) (j20 : Int32) (j34 : Int32) (j40 : Int32) (j44 : Int32) (j47 : Int32) (j50 : Int32) (j51 : Int32) (j61 : Int32) (lv : Nat) (pq : Nat) (c26 : Nat → Int32) (c31 : Nat → Int32) (c48 : Nat → Int32) (c49 : Nat → Int32) (c57 : Nat → Int32) (ar1 : Int32) (ar2 : Int32) (un : Nat) (hlv : lv ≤ 1) (hpa : c26 lv = nI pq) (hpq : pq ≤ 6) (hun : un ≤ 40) : zz_M l G mX10_write 3 0 0 [.ref (r 0), .int ar1, .int ar2] [((r 0), .inr (10, (zz_mo r [(0, j0), (2, j2), (4, j4), (10, j10), (11, j11), (12, j12), (13, j13), (14, j14), (15, j15), (16, j16), (17, j17), (18, (nI lv)), (19, j19), (20, j20), (34, j34), (40, j40), (44, j44), (47, j47), (50, j50), (51, j51), (56, (nI un)), (61, j61)]))), ((r 26), .inl (G.2 0, 2, .inl c26)), ((r 31), .inl (G.2 0, 2, .inl c31)), ((r 48), .inl (G.2 0, 71, .inl c48)), ((r 49), .inl (G.2 0, 71, .inl c49)), ((r 57), .inl (G.2 0, 2840, .inl c57))] (fun rr u => ∃ (rv : Int32), ∃ (un2 : Nat), ∃ (k50 : Int32), ∃ (k51 : Int32), ∃ (d48 : Nat → Int32), ∃ (d49 : Nat → Int32), ∃ (d57 : Nat → Int32), rr = some (.int rv) ∧ u = [((r 0), .inr (10, (zz_mo r [(0, j0), (2, j2), (4, j4), (10, j10), (11, j11), (12, j12), (13, j13), (14, j14), (15, j15), (16, j16), (17, j17), (18, (nI lv)), (19, j19), (20, j20), (34, j34), (40, j40), (44, j44), (47, j47), (50, k50), (51, k51), (56, (nI un2)), (61, j61)]))), ((r 26), .inl (G.2 0, 2, .inl c26)), ((r 31), .inl (G.2 0, 2, .inl c31)), ((r 48), .inl (G.2 0, 71, .inl d48)), ((r 49), .inl (G.2 0, 71, .inl d49)), ((r 57), .inl (G.2 0, 2840, .inl d57))] ∧ (un2 ≤ 40) ∧ (zy_mR pq 21 c48 c57 un ar1 ar2 rv un2 d48 d57) ∧ (rv = 0 ∨ rv = 1)) := by
  refine zz_enteri (by decide +kernel) (Nat.le_of_ble_eq_true rfl) ?_
  intro p e s m args below meth c A Q ls S hnm hret hw hl
  have hl : lv_has ls 3 [(0, .ref (r 0)), (1, .int ar1), (2, .int ar2)] := hl
  have hx := S.1
  have hb := S.2.1
  refine lv_aload_n hx hb dX10_write_0 rfl (lv_at hl 0 rfl) ?_
  refine lv_iload_n hx hb dX10_write_1 rfl (lv_at hl 1 rfl) ?_
  refine zz_callV (qb := 0) (As := [.int ar1]) (rest := []) (wr := [((r 31), .inl (G.2 0, 2, .inl c31)), ((r 48), .inl (G.2 0, 71, .inl c48)), ((r 49), .inl (G.2 0, 71, .inl c49)), ((r 57), .inl (G.2 0, 2840, .inl c57))]) S hw hl.1 lX10_382 (c_x_isPart l G r j0 j2 j4 j10 j11 j12 j13 j14 j15 j16 j17 j19 j20 j34 j40 j44 j47 j50 j51 (nI un) j61 lv pq c26 ar1 (by first | assumption | omega | exact Or.inr ⟨_, by omega, rfl⟩ | (unfold zz_sok; decide) | decide | exact (fun j hj => (hv7 j hj).1)) (by first | assumption | omega | exact Or.inr ⟨_, by omega, rfl⟩ | (unfold zz_sok; decide) | decide | exact (fun j hj => (hv7 j hj).1)) (by first | assumption | omega | exact Or.inr ⟨_, by omega, rfl⟩ | (unfold zz_sok; decide) | decide | exact (fun j hj => (hv7 j hj).1))) ⟨Nat.le_of_ble_eq_true rfl, Nat.le_of_ble_eq_true rfl⟩ ⟨Nat.le_of_ble_eq_true rfl, Nat.le_of_ble_eq_true rfl⟩ [0, 1] [2, 3, 4, 5] (by decide) rfl rfl (by decide) (by decide) rfl rfl rfl rfl (Nat.le_of_ble_eq_true rfl) dX10_write_2 ?_
  clear hw
  intro rr u H locs hp hw
  refine hp.elim fun rv_1 zg0 => zg0.elim fun zee1 zg1 => zg1.elim fun zee2 zg2 => zg2.elim fun hq2_0 zg3 => zg3.elim fun hq2_1 hq2_2 => ?_
  clear hp zg0 zg1 zg2 zg3
  subst zee1
  subst zee2
  replace hw : zz_w G A s [((r 31), .inl (G.2 0, 2, .inl c31)), ((r 48), .inl (G.2 0, 71, .inl c48)), ((r 49), .inl (G.2 0, 71, .inl c49)), ((r 57), .inl (G.2 0, 2840, .inl c57)), ((r 0), .inr (10, (zz_mo r [(0, j0), (2, j2), (4, j4), (10, j10), (11, j11), (12, j12), (13, j13), (14, j14), (15, j15), (16, j16), (17, j17), (18, (nI lv)), (19, j19), (20, j20), (34, j34), (40, j40), (44, j44), (47, j47), (50, j50), (51, j51), (56, (nI un)), (61, j61)]))), ((r 26), .inl (G.2 0, 2, .inl c26))] H _ := hw
  refine W.eq (g2 := F0 m 5 ls [.int rv_1]) rfl ?_
  refine lv_if_eq (tgt := 28) hx hb dX10_write_5 (by decide) (fun c5_2 => ?_) (fun c5_2 => ?_)
  · skip
    refine lv_iconst (v := 0) hx hb dX10_write_28 (by decide) ?_
    exact hret _ _ _ _ _ _ ⟨0, un, j50, j51, c48, c49, c57, rfl, rfl, (by omega), (by first | exact zy_mR1 (by omega) (by omega) (by assumption) (by assumption) (by omega) hq36_1 | exact zy_mR0 (by omega) (by omega) (by assumption) (by omega) | exact zy_mRa (hq2_1 (by assumption)) | exact zy_mRb (hq9_1 (by assumption))), (by first | exact Or.inl rfl | exact Or.inr rfl | assumption)⟩ (hw.sub [4, 5, 0, 1, 2, 3] (by decide) rfl) rfl dX10_write_29
  · skip
    obtain ⟨vq3, hvq3, rfl⟩ := hq2_0.resolve_left c5_2
    refine lv_iload_n hx hb dX10_write_8 rfl (lv_at hl 2 rfl) ?_
    refine zz_callS (As := [.int ar2]) (rest := []) (wr := [((r 31), .inl (G.2 0, 2, .inl c31)), ((r 48), .inl (G.2 0, 71, .inl c48)), ((r 49), .inl (G.2 0, 71, .inl c49)), ((r 57), .inl (G.2 0, 2840, .inl c57)), ((r 0), .inr (10, (zz_mo r [(0, j0), (2, j2), (4, j4), (10, j10), (11, j11), (12, j12), (13, j13), (14, j14), (15, j15), (16, j16), (17, j17), (18, (nI lv)), (19, j19), (20, j20), (34, j34), (40, j40), (44, j44), (47, j47), (50, j50), (51, j51), (56, (nI un)), (61, j61)]))), ((r 26), .inl (G.2 0, 2, .inl c26))]) S hw hl.1 lX10_388 (c_x_isHour l G ar2) ⟨Nat.le_of_ble_eq_true rfl, Nat.le_of_ble_eq_true rfl⟩ ⟨Nat.le_of_ble_eq_true rfl, Nat.le_of_ble_eq_true rfl⟩ [] [0, 1, 2, 3, 4, 5] (by decide) rfl rfl (by decide) (by decide) rfl rfl (Nat.le_of_ble_eq_true rfl) dX10_write_9 ?_
    clear hw
    intro rr u H locs hp hw
    refine hp.elim fun rv_4 zg0 => zg0.elim fun zee1 zg1 => zg1.elim fun zee2 zg2 => zg2.elim fun hq9_0 zg3 => zg3.elim fun hq9_1 hq9_2 => ?_
    clear hp zg0 zg1 zg2 zg3
    subst zee1
    subst zee2
    replace hw : zz_w G A s [((r 31), .inl (G.2 0, 2, .inl c31)), ((r 48), .inl (G.2 0, 71, .inl c48)), ((r 49), .inl (G.2 0, 71, .inl c49)), ((r 57), .inl (G.2 0, 2840, .inl c57)), ((r 0), .inr (10, (zz_mo r [(0, j0), (2, j2), (4, j4), (10, j10), (11, j11), (12, j12), (13, j13), (14, j14), (15, j15), (16, j16), (17, j17), (18, (nI lv)), (19, j19), (20, j20), (34, j34), (40, j40), (44, j44), (47, j47), (50, j50), (51, j51), (56, (nI un)), (61, j61)]))), ((r 26), .inl (G.2 0, 2, .inl c26))] H _ := hw
    refine W.eq (g2 := F0 m 12 ls [.int rv_4]) rfl ?_
    refine lv_if_eq (tgt := 28) hx hb dX10_write_12 (by decide) (fun c12_5 => ?_) (fun c12_5 => ?_)
    · skip
      refine lv_iconst (v := 0) hx hb dX10_write_28 (by decide) ?_
      exact hret _ _ _ _ _ _ ⟨0, un, j50, j51, c48, c49, c57, rfl, rfl, (by omega), (by first | exact zy_mR1 (by omega) (by omega) (by assumption) (by assumption) (by omega) hq36_1 | exact zy_mR0 (by omega) (by omega) (by assumption) (by omega) | exact zy_mRa (hq2_1 (by assumption)) | exact zy_mRb (hq9_1 (by assumption))), (by first | exact Or.inl rfl | exact Or.inr rfl | assumption)⟩ (hw.sub [4, 5, 0, 1, 2, 3] (by decide) rfl) rfl dX10_write_29
    · skip
      obtain ⟨vq6, hvq6, rfl⟩ := hq9_0.resolve_left c12_5
      refine lv_aload_n hx hb dX10_write_15 rfl (lv_at hl 0 rfl) ?_
      refine zz_get (v := .ref (r 48)) S hw fgX10_110 4 rfl rfl dX10_write_16 ?_
      refine lv_bipush (v := 21) hx hb dX10_write_19 (by decide) ?_
      refine lv_iload_n hx hb dX10_write_21 rfl (lv_at hl 1 rfl) ?_
      refine lv_iadd hx hb dX10_write_22 ?_
      refine zz_topi (y := (nI (21 + vq3))) (nI_add _ _) ?_
      refine zz_iald (v := (c48 (21 + vq3))) S hw 1 rfl (vp_in_nI (n := (21 + vq3)) (by omega) (by decide)) (congrArg c48 (nI_clamp (n := (21 + vq3)) (by omega))) dX10_write_23 ?_
      refine lv_iload_n hx hb dX10_write_24 rfl (lv_at hl 2 rfl) ?_
      refine W.eq (g2 := F0 m 25 ls [.int (nI vq6), .int (c48 (21 + vq3))]) rfl ?_
      refine lv_icmp_ne (tgt := 30) hx hb dX10_write_25 (by decide) (fun c25_7 => ?_) (fun c25_7 => ?_)
      · skip
        refine lv_aload_n hx hb dX10_write_30 rfl (lv_at hl 0 rfl) ?_
        refine lv_bipush (v := 21) hx hb dX10_write_31 (by decide) ?_
        refine lv_iload_n hx hb dX10_write_33 rfl (lv_at hl 1 rfl) ?_
        refine lv_iadd hx hb dX10_write_34 ?_
        refine zz_topi (y := (nI (21 + vq3))) (nI_add _ _) ?_
        refine lv_iload_n hx hb dX10_write_35 rfl (lv_at hl 2 rfl) ?_
        refine zz_callV (qb := 4) (As := [.int (nI (21 + vq3)), .int (nI vq6)]) (rest := []) (wr := [((r 26), .inl (G.2 0, 2, .inl c26))]) S hw hl.1 lX10_391 (c_x_does l G r j0 j2 j4 j10 j11 j12 j13 j14 j15 j16 j17 j19 j20 j34 j40 j44 j47 j50 j51 j61 lv c31 c48 c49 c57 (nI vq6) un (21 + vq3) (by first | assumption | omega | exact Or.inr ⟨_, by omega, rfl⟩ | (unfold zz_sok; decide) | decide | exact (fun j hj => (hv7 j hj).1)) (by first | assumption | omega | exact Or.inr ⟨_, by omega, rfl⟩ | (unfold zz_sok; decide) | decide | exact (fun j hj => (hv7 j hj).1)) (by first | assumption | omega | exact Or.inr ⟨_, by omega, rfl⟩ | (unfold zz_sok; decide) | decide | exact (fun j hj => (hv7 j hj).1))) ⟨Nat.le_of_ble_eq_true rfl, Nat.le_of_ble_eq_true rfl⟩ ⟨Nat.le_of_ble_eq_true rfl, Nat.le_of_ble_eq_true rfl⟩ [4, 0, 1, 2, 3] [5] (by decide) rfl rfl (by decide) (by decide) rfl rfl rfl rfl (Nat.le_of_ble_eq_true rfl) dX10_write_36 ?_
        clear hw
        intro rr u H locs hp hw
        refine hp.elim fun un2_8 zg0 => zg0.elim fun k50_9 zg1 => zg1.elim fun k51_10 zg2 => zg2.elim fun d48_11 zg3 => zg3.elim fun d49_12 zg4 => zg4.elim fun d57_13 zg5 => zg5.elim fun zee1 zg6 => zg6.elim fun zee2 zg7 => zg7.elim fun hq36_0 hq36_1 => ?_
        clear hp zg0 zg1 zg2 zg3 zg4 zg5 zg6 zg7
        subst zee1
        subst zee2
        replace hw : zz_w G A s [((r 26), .inl (G.2 0, 2, .inl c26)), ((r 0), .inr (10, (zz_mo r [(0, j0), (2, j2), (4, j4), (10, j10), (11, j11), (12, j12), (13, j13), (14, j14), (15, j15), (16, j16), (17, j17), (18, (nI lv)), (19, j19), (20, j20), (34, j34), (40, j40), (44, j44), (47, j47), (50, k50_9), (51, k51_10), (56, (nI un2_8)), (61, j61)]))), ((r 31), .inl (G.2 0, 2, .inl c31)), ((r 48), .inl (G.2 0, 71, .inl d48_11)), ((r 49), .inl (G.2 0, 71, .inl d49_12)), ((r 57), .inl (G.2 0, 2840, .inl d57_13))] H _ := hw
        refine W.eq (g2 := F0 m 39 ls []) rfl ?_
        refine lv_iconst (v := 1) hx hb dX10_write_39 (by decide) ?_
        exact hret _ _ _ _ _ _ ⟨1, un2_8, k50_9, k51_10, d48_11, d49_12, d57_13, rfl, rfl, (by omega), (by first | exact zy_mR1 (by omega) (by omega) (by assumption) (by assumption) (by omega) hq36_1 | exact zy_mR0 (by omega) (by omega) (by assumption) (by omega) | exact zy_mRa (hq2_1 (by assumption)) | exact zy_mRb (hq9_1 (by assumption))), (by first | exact Or.inl rfl | exact Or.inr rfl | assumption)⟩ (hw.sub [1, 0, 2, 3, 4, 5] (by decide) rfl) rfl dX10_write_40
      · skip
        refine lv_iconst (v := 0) hx hb dX10_write_28 (by decide) ?_
        exact hret _ _ _ _ _ _ ⟨0, un, j50, j51, c48, c49, c57, rfl, rfl, (by omega), (by first | exact zy_mR1 (by omega) (by omega) (by assumption) (by assumption) (by omega) hq36_1 | exact zy_mR0 (by omega) (by omega) (by assumption) (by omega) | exact zy_mRa (hq2_1 (by assumption)) | exact zy_mRb (hq9_1 (by assumption))), (by first | exact Or.inl rfl | exact Or.inr rfl | assumption)⟩ (hw.sub [4, 5, 0, 1, 2, 3] (by decide) rfl) rfl dX10_write_29
theorem kd_ncX10_keepOff : kd_ck 444192646219474363690595216463718785989432093555267284510159150267238589280034946166555574557814372441888855534030432901930 51 cX10_keepOff.data.toList 0 = true := by decide +kernel
theorem dX10_keepOff_0 : decode cX10_keepOff 0 = .ok (.aload_n 0, 1) := kd_dk0 kd_o42 kd_ncX10_keepOff rfl
theorem dX10_keepOff_1 : decode cX10_keepOff 1 = .ok (.iload_n 1, 1) := kd_dk0 kd_o27 kd_ncX10_keepOff rfl
theorem dX10_keepOff_2 : decode cX10_keepOff 2 = .ok (.invokevirtual 373, 3) := kd_dk2 kd_o182 kd_ncX10_keepOff rfl
theorem dX10_keepOff_5 : decode cX10_keepOff 5 = .ok (.ifCond .eq 25, 3) := kd_dj2 kd_o153 (w := 25) kd_ncX10_keepOff rfl rfl
theorem dX10_keepOff_8 : decode cX10_keepOff 8 = .ok (.aload_n 0, 1) := kd_dk0 kd_o42 kd_ncX10_keepOff rfl
theorem dX10_keepOff_9 : decode cX10_keepOff 9 = .ok (.getfield 110, 3) := kd_dk2 kd_o180 kd_ncX10_keepOff rfl
theorem dX10_keepOff_12 : decode cX10_keepOff 12 = .ok (.bipush 14, 2) := kd_dj1 kd_o16 (w := 14) kd_ncX10_keepOff rfl rfl
theorem dX10_keepOff_14 : decode cX10_keepOff 14 = .ok (.iload_n 1, 1) := kd_dk0 kd_o27 kd_ncX10_keepOff rfl
theorem dX10_keepOff_15 : decode cX10_keepOff 15 = .ok (.iadd, 1) := kd_dk0 kd_o96 kd_ncX10_keepOff rfl
theorem dX10_keepOff_16 : decode cX10_keepOff 16 = .ok (.iaload, 1) := kd_dk0 kd_o46 kd_ncX10_keepOff rfl
theorem dX10_keepOff_17 : decode cX10_keepOff 17 = .ok (.iconst 1, 1) := kd_dk0 kd_o4 kd_ncX10_keepOff rfl
theorem dX10_keepOff_18 : decode cX10_keepOff 18 = .ok (.if_icmp .ne 7, 3) := kd_dj2 kd_o160 (w := 7) kd_ncX10_keepOff rfl rfl
theorem dX10_keepOff_21 : decode cX10_keepOff 21 = .ok (.iconst 1, 1) := kd_dk0 kd_o4 kd_ncX10_keepOff rfl
theorem dX10_keepOff_22 : decode cX10_keepOff 22 = .ok (.goto 4, 3) := kd_dj2 kd_o167 (w := 4) kd_ncX10_keepOff rfl rfl
theorem dX10_keepOff_25 : decode cX10_keepOff 25 = .ok (.iconst 0, 1) := kd_dk0 kd_o3 kd_ncX10_keepOff rfl
theorem dX10_keepOff_26 : decode cX10_keepOff 26 = .ok (.iload_n 2, 1) := kd_dk0 kd_o28 kd_ncX10_keepOff rfl
theorem dX10_keepOff_27 : decode cX10_keepOff 27 = .ok (.if_icmp .ne 5, 3) := kd_dj2 kd_o160 (w := 5) kd_ncX10_keepOff rfl rfl
theorem dX10_keepOff_30 : decode cX10_keepOff 30 = .ok (.iconst 0, 1) := kd_dk0 kd_o3 kd_ncX10_keepOff rfl
theorem dX10_keepOff_31 : decode cX10_keepOff 31 = .ok (.ireturn, 1) := kd_dk0 kd_o172 kd_ncX10_keepOff rfl
theorem dX10_keepOff_32 : decode cX10_keepOff 32 = .ok (.aload_n 0, 1) := kd_dk0 kd_o42 kd_ncX10_keepOff rfl
theorem dX10_keepOff_33 : decode cX10_keepOff 33 = .ok (.bipush 14, 2) := kd_dj1 kd_o16 (w := 14) kd_ncX10_keepOff rfl rfl
theorem dX10_keepOff_35 : decode cX10_keepOff 35 = .ok (.iload_n 1, 1) := kd_dk0 kd_o27 kd_ncX10_keepOff rfl
theorem dX10_keepOff_36 : decode cX10_keepOff 36 = .ok (.iadd, 1) := kd_dk0 kd_o96 kd_ncX10_keepOff rfl
theorem dX10_keepOff_37 : decode cX10_keepOff 37 = .ok (.iload_n 2, 1) := kd_dk0 kd_o28 kd_ncX10_keepOff rfl
theorem dX10_keepOff_38 : decode cX10_keepOff 38 = .ok (.ifCond .eq 7, 3) := kd_dj2 kd_o153 (w := 7) kd_ncX10_keepOff rfl rfl
theorem dX10_keepOff_41 : decode cX10_keepOff 41 = .ok (.iconst 1, 1) := kd_dk0 kd_o4 kd_ncX10_keepOff rfl
theorem dX10_keepOff_42 : decode cX10_keepOff 42 = .ok (.goto 4, 3) := kd_dj2 kd_o167 (w := 4) kd_ncX10_keepOff rfl rfl
theorem dX10_keepOff_45 : decode cX10_keepOff 45 = .ok (.iconst 0, 1) := kd_dk0 kd_o3 kd_ncX10_keepOff rfl
theorem dX10_keepOff_46 : decode cX10_keepOff 46 = .ok (.invokevirtual 391, 3) := kd_dk2 kd_o182 kd_ncX10_keepOff rfl
theorem dX10_keepOff_49 : decode cX10_keepOff 49 = .ok (.iconst 1, 1) := kd_dk0 kd_o4 kd_ncX10_keepOff rfl
theorem dX10_keepOff_50 : decode cX10_keepOff 50 = .ok (.ireturn, 1) := kd_dk0 kd_o172 kd_ncX10_keepOff rfl
set_option maxHeartbeats 8000000 in
set_option maxRecDepth 100000 in
theorem c_x_keepOff (l : Launch) (G : zz_G) (r : Nat → Nat) (j0 : Int32) (j2 : Int32) (j4 : Int32) (j10 : Int32) (j11 : Int32) (j12 : Int32) (j13 : Int32) (j14 : Int32) (j15 : Int32) (j16 : Int32) (j17 : Int32) (j19 : Int32) (j20 : Int32) (j34 : Int32) (j40 : Int32) (j44 : Int32) (j47 : Int32) (j50 : Int32) (j51 : Int32) (j61 : Int32) (lv : Nat) (pp : Nat) (c22 : Nat → Int32) (c31 : Nat → Int32) (c48 : Nat → Int32) (c49 : Nat → Int32) (c57 : Nat → Int32) (ar1 : Int32) (ar2 : Int32) (un : Nat) (hlv : lv ≤ 1) (hpe : c22 lv = nI pp) (hpp : pp ≤ 7) (hun : un ≤ 40) : zz_M l G mX10_keepOff 3 0 0 [.ref (r 0), .int ar1, .int ar2] [((r 0), .inr (10, (zz_mo r [(0, j0), (2, j2), (4, j4), (10, j10), (11, j11), (12, j12), (13, j13), (14, j14), (15, j15), (16, j16), (17, j17), (18, (nI lv)), (19, j19), (20, j20), (34, j34), (40, j40), (44, j44), (47, j47), (50, j50), (51, j51), (56, (nI un)), (61, j61)]))), ((r 22), .inl (G.2 0, 2, .inl c22)), ((r 31), .inl (G.2 0, 2, .inl c31)), ((r 48), .inl (G.2 0, 71, .inl c48)), ((r 49), .inl (G.2 0, 71, .inl c49)), ((r 57), .inl (G.2 0, 2840, .inl c57))] (fun rr u => ∃ (rv : Int32), ∃ (un2 : Nat), ∃ (k50 : Int32), ∃ (k51 : Int32), ∃ (d48 : Nat → Int32), ∃ (d49 : Nat → Int32), ∃ (d57 : Nat → Int32), rr = some (.int rv) ∧ u = [((r 0), .inr (10, (zz_mo r [(0, j0), (2, j2), (4, j4), (10, j10), (11, j11), (12, j12), (13, j13), (14, j14), (15, j15), (16, j16), (17, j17), (18, (nI lv)), (19, j19), (20, j20), (34, j34), (40, j40), (44, j44), (47, j47), (50, k50), (51, k51), (56, (nI un2)), (61, j61)]))), ((r 22), .inl (G.2 0, 2, .inl c22)), ((r 31), .inl (G.2 0, 2, .inl c31)), ((r 48), .inl (G.2 0, 71, .inl d48)), ((r 49), .inl (G.2 0, 71, .inl d49)), ((r 57), .inl (G.2 0, 2840, .inl d57))] ∧ (un2 ≤ 40) ∧ (zy_kR pp c48 c57 un ar1 ar2 rv un2 d48 d57) ∧ (rv = 0 ∨ rv = 1)) := by
  refine zz_enteri (by decide +kernel) (Nat.le_of_ble_eq_true rfl) ?_
  intro p e s m args below meth c A Q ls S hnm hret hw hl
  have hl : lv_has ls 3 [(0, .ref (r 0)), (1, .int ar1), (2, .int ar2)] := hl
  have hx := S.1
  have hb := S.2.1
  refine lv_aload_n hx hb dX10_keepOff_0 rfl (lv_at hl 0 rfl) ?_
  refine lv_iload_n hx hb dX10_keepOff_1 rfl (lv_at hl 1 rfl) ?_
  refine zz_callV (qb := 0) (As := [.int ar1]) (rest := []) (wr := [((r 31), .inl (G.2 0, 2, .inl c31)), ((r 48), .inl (G.2 0, 71, .inl c48)), ((r 49), .inl (G.2 0, 71, .inl c49)), ((r 57), .inl (G.2 0, 2840, .inl c57))]) S hw hl.1 lX10_373 (c_x_isPerson l G r j0 j2 j4 j10 j11 j12 j13 j14 j15 j16 j17 j19 j20 j34 j40 j44 j47 j50 j51 (nI un) j61 lv pp c22 ar1 (by first | assumption | omega | exact Or.inr ⟨_, by omega, rfl⟩ | (unfold zz_sok; decide) | decide | exact (fun j hj => (hv7 j hj).1)) (by first | assumption | omega | exact Or.inr ⟨_, by omega, rfl⟩ | (unfold zz_sok; decide) | decide | exact (fun j hj => (hv7 j hj).1)) (by first | assumption | omega | exact Or.inr ⟨_, by omega, rfl⟩ | (unfold zz_sok; decide) | decide | exact (fun j hj => (hv7 j hj).1))) ⟨Nat.le_of_ble_eq_true rfl, Nat.le_of_ble_eq_true rfl⟩ ⟨Nat.le_of_ble_eq_true rfl, Nat.le_of_ble_eq_true rfl⟩ [0, 1] [2, 3, 4, 5] (by decide) rfl rfl (by decide) (by decide) rfl rfl rfl rfl (Nat.le_of_ble_eq_true rfl) dX10_keepOff_2 ?_
  clear hw
  intro rr u H locs hp hw
  refine hp.elim fun rv_1 zg0 => zg0.elim fun zee1 zg1 => zg1.elim fun zee2 zg2 => zg2.elim fun hq2_0 zg3 => zg3.elim fun hq2_1 hq2_2 => ?_
  clear hp zg0 zg1 zg2 zg3
  subst zee1
  subst zee2
  replace hw : zz_w G A s [((r 31), .inl (G.2 0, 2, .inl c31)), ((r 48), .inl (G.2 0, 71, .inl c48)), ((r 49), .inl (G.2 0, 71, .inl c49)), ((r 57), .inl (G.2 0, 2840, .inl c57)), ((r 0), .inr (10, (zz_mo r [(0, j0), (2, j2), (4, j4), (10, j10), (11, j11), (12, j12), (13, j13), (14, j14), (15, j15), (16, j16), (17, j17), (18, (nI lv)), (19, j19), (20, j20), (34, j34), (40, j40), (44, j44), (47, j47), (50, j50), (51, j51), (56, (nI un)), (61, j61)]))), ((r 22), .inl (G.2 0, 2, .inl c22))] H _ := hw
  refine W.eq (g2 := F0 m 5 ls [.int rv_1]) rfl ?_
  refine lv_if_eq (tgt := 30) hx hb dX10_keepOff_5 (by decide) (fun c5_2 => ?_) (fun c5_2 => ?_)
  · skip
    refine lv_iconst (v := 0) hx hb dX10_keepOff_30 (by decide) ?_
    exact hret _ _ _ _ _ _ ⟨0, un, j50, j51, c48, c49, c57, rfl, rfl, (by omega), (by first | exact zy_kR1 (by omega) (by omega) (by first | exact Or.inl ⟨by assumption, rfl⟩ | exact Or.inr ⟨by assumption, rfl⟩) (by assumption) (by first | exact Or.inl ⟨by assumption, rfl⟩ | exact Or.inr ⟨by assumption, rfl⟩) hq46_1 | exact zy_kR0 (by omega) (by omega) (by first | exact Or.inl ⟨by assumption, rfl⟩ | exact Or.inr ⟨by assumption, rfl⟩) (by assumption) | exact zy_kRa (hq2_1 (by assumption))), (by first | exact Or.inl rfl | exact Or.inr rfl | assumption)⟩ (hw.sub [4, 5, 0, 1, 2, 3] (by decide) rfl) rfl dX10_keepOff_31
  · skip
    obtain ⟨vq3, hvq3, rfl⟩ := hq2_0.resolve_left c5_2
    refine lv_aload_n hx hb dX10_keepOff_8 rfl (lv_at hl 0 rfl) ?_
    refine zz_get (v := .ref (r 48)) S hw fgX10_110 4 rfl rfl dX10_keepOff_9 ?_
    refine lv_bipush (v := 14) hx hb dX10_keepOff_12 (by decide) ?_
    refine lv_iload_n hx hb dX10_keepOff_14 rfl (lv_at hl 1 rfl) ?_
    refine lv_iadd hx hb dX10_keepOff_15 ?_
    refine zz_topi (y := (nI (14 + vq3))) (nI_add _ _) ?_
    refine zz_iald (v := (c48 (14 + vq3))) S hw 1 rfl (vp_in_nI (n := (14 + vq3)) (by omega) (by decide)) (congrArg c48 (nI_clamp (n := (14 + vq3)) (by omega))) dX10_keepOff_16 ?_
    refine lv_iconst (v := 1) hx hb dX10_keepOff_17 (by decide) ?_
    refine lv_icmp_ne (tgt := 25) hx hb dX10_keepOff_18 (by decide) (fun c18_4 => ?_) (fun c18_4 => ?_)
    · skip
      refine lv_iconst (v := 0) hx hb dX10_keepOff_25 (by decide) ?_
      refine lv_iload_n hx hb dX10_keepOff_26 rfl (lv_at hl 2 rfl) ?_
      refine lv_icmp_ne (tgt := 32) hx hb dX10_keepOff_27 (by decide) (fun c27_5 => ?_) (fun c27_5 => ?_)
      · skip
        refine lv_aload_n hx hb dX10_keepOff_32 rfl (lv_at hl 0 rfl) ?_
        refine W.eq (g2 := F0 m 33 ls [.ref (r 0)]) rfl ?_
        refine lv_bipush (v := 14) hx hb dX10_keepOff_33 (by decide) ?_
        refine lv_iload_n hx hb dX10_keepOff_35 rfl (lv_at hl 1 rfl) ?_
        refine lv_iadd hx hb dX10_keepOff_36 ?_
        refine zz_topi (y := (nI (14 + vq3))) (nI_add _ _) ?_
        refine lv_iload_n hx hb dX10_keepOff_37 rfl (lv_at hl 2 rfl) ?_
        refine lv_if_eq (tgt := 45) hx hb dX10_keepOff_38 (by decide) (fun c38_6 => ?_) (fun c38_6 => ?_)
        · skip
          refine lv_iconst (v := 0) hx hb dX10_keepOff_45 (by decide) ?_
          refine zz_callV (qb := 4) (As := [.int (nI (14 + vq3)), .int 0]) (rest := []) (wr := [((r 22), .inl (G.2 0, 2, .inl c22))]) S hw hl.1 lX10_391 (c_x_does l G r j0 j2 j4 j10 j11 j12 j13 j14 j15 j16 j17 j19 j20 j34 j40 j44 j47 j50 j51 j61 lv c31 c48 c49 c57 0 un (14 + vq3) (by first | assumption | omega | exact Or.inr ⟨_, by omega, rfl⟩ | (unfold zz_sok; decide) | decide | exact (fun j hj => (hv7 j hj).1)) (by first | assumption | omega | exact Or.inr ⟨_, by omega, rfl⟩ | (unfold zz_sok; decide) | decide | exact (fun j hj => (hv7 j hj).1)) (by first | assumption | omega | exact Or.inr ⟨_, by omega, rfl⟩ | (unfold zz_sok; decide) | decide | exact (fun j hj => (hv7 j hj).1))) ⟨Nat.le_of_ble_eq_true rfl, Nat.le_of_ble_eq_true rfl⟩ ⟨Nat.le_of_ble_eq_true rfl, Nat.le_of_ble_eq_true rfl⟩ [4, 0, 1, 2, 3] [5] (by decide) rfl rfl (by decide) (by decide) rfl rfl rfl rfl (Nat.le_of_ble_eq_true rfl) dX10_keepOff_46 ?_
          clear hw
          intro rr u H locs hp hw
          refine hp.elim fun un2_7 zg0 => zg0.elim fun k50_8 zg1 => zg1.elim fun k51_9 zg2 => zg2.elim fun d48_10 zg3 => zg3.elim fun d49_11 zg4 => zg4.elim fun d57_12 zg5 => zg5.elim fun zee1 zg6 => zg6.elim fun zee2 zg7 => zg7.elim fun hq46_0 hq46_1 => ?_
          clear hp zg0 zg1 zg2 zg3 zg4 zg5 zg6 zg7
          subst zee1
          subst zee2
          replace hw : zz_w G A s [((r 22), .inl (G.2 0, 2, .inl c22)), ((r 0), .inr (10, (zz_mo r [(0, j0), (2, j2), (4, j4), (10, j10), (11, j11), (12, j12), (13, j13), (14, j14), (15, j15), (16, j16), (17, j17), (18, (nI lv)), (19, j19), (20, j20), (34, j34), (40, j40), (44, j44), (47, j47), (50, k50_8), (51, k51_9), (56, (nI un2_7)), (61, j61)]))), ((r 31), .inl (G.2 0, 2, .inl c31)), ((r 48), .inl (G.2 0, 71, .inl d48_10)), ((r 49), .inl (G.2 0, 71, .inl d49_11)), ((r 57), .inl (G.2 0, 2840, .inl d57_12))] H _ := hw
          refine W.eq (g2 := F0 m 49 ls []) rfl ?_
          refine lv_iconst (v := 1) hx hb dX10_keepOff_49 (by decide) ?_
          exact hret _ _ _ _ _ _ ⟨1, un2_7, k50_8, k51_9, d48_10, d49_11, d57_12, rfl, rfl, (by omega), (by first | exact zy_kR1 (by omega) (by omega) (by first | exact Or.inl ⟨by assumption, rfl⟩ | exact Or.inr ⟨by assumption, rfl⟩) (by assumption) (by first | exact Or.inl ⟨by assumption, rfl⟩ | exact Or.inr ⟨by assumption, rfl⟩) hq46_1 | exact zy_kR0 (by omega) (by omega) (by first | exact Or.inl ⟨by assumption, rfl⟩ | exact Or.inr ⟨by assumption, rfl⟩) (by assumption) | exact zy_kRa (hq2_1 (by assumption))), (by first | exact Or.inl rfl | exact Or.inr rfl | assumption)⟩ (hw.sub [1, 0, 2, 3, 4, 5] (by decide) rfl) rfl dX10_keepOff_50
        · skip
          refine lv_iconst (v := 1) hx hb dX10_keepOff_41 (by decide) ?_
          refine lv_goto (tgt := 46) hx hb dX10_keepOff_42 (by decide) ?_
          refine zz_callV (qb := 4) (As := [.int (nI (14 + vq3)), .int 1]) (rest := []) (wr := [((r 22), .inl (G.2 0, 2, .inl c22))]) S hw hl.1 lX10_391 (c_x_does l G r j0 j2 j4 j10 j11 j12 j13 j14 j15 j16 j17 j19 j20 j34 j40 j44 j47 j50 j51 j61 lv c31 c48 c49 c57 1 un (14 + vq3) (by first | assumption | omega | exact Or.inr ⟨_, by omega, rfl⟩ | (unfold zz_sok; decide) | decide | exact (fun j hj => (hv7 j hj).1)) (by first | assumption | omega | exact Or.inr ⟨_, by omega, rfl⟩ | (unfold zz_sok; decide) | decide | exact (fun j hj => (hv7 j hj).1)) (by first | assumption | omega | exact Or.inr ⟨_, by omega, rfl⟩ | (unfold zz_sok; decide) | decide | exact (fun j hj => (hv7 j hj).1))) ⟨Nat.le_of_ble_eq_true rfl, Nat.le_of_ble_eq_true rfl⟩ ⟨Nat.le_of_ble_eq_true rfl, Nat.le_of_ble_eq_true rfl⟩ [4, 0, 1, 2, 3] [5] (by decide) rfl rfl (by decide) (by decide) rfl rfl rfl rfl (Nat.le_of_ble_eq_true rfl) dX10_keepOff_46 ?_
          clear hw
          intro rr u H locs hp hw
          refine hp.elim fun un2_13 zg0 => zg0.elim fun k50_14 zg1 => zg1.elim fun k51_15 zg2 => zg2.elim fun d48_16 zg3 => zg3.elim fun d49_17 zg4 => zg4.elim fun d57_18 zg5 => zg5.elim fun zee1 zg6 => zg6.elim fun zee2 zg7 => zg7.elim fun hq46_0 hq46_1 => ?_
          clear hp zg0 zg1 zg2 zg3 zg4 zg5 zg6 zg7
          subst zee1
          subst zee2
          replace hw : zz_w G A s [((r 22), .inl (G.2 0, 2, .inl c22)), ((r 0), .inr (10, (zz_mo r [(0, j0), (2, j2), (4, j4), (10, j10), (11, j11), (12, j12), (13, j13), (14, j14), (15, j15), (16, j16), (17, j17), (18, (nI lv)), (19, j19), (20, j20), (34, j34), (40, j40), (44, j44), (47, j47), (50, k50_14), (51, k51_15), (56, (nI un2_13)), (61, j61)]))), ((r 31), .inl (G.2 0, 2, .inl c31)), ((r 48), .inl (G.2 0, 71, .inl d48_16)), ((r 49), .inl (G.2 0, 71, .inl d49_17)), ((r 57), .inl (G.2 0, 2840, .inl d57_18))] H _ := hw
          refine W.eq (g2 := F0 m 49 ls []) rfl ?_
          refine lv_iconst (v := 1) hx hb dX10_keepOff_49 (by decide) ?_
          exact hret _ _ _ _ _ _ ⟨1, un2_13, k50_14, k51_15, d48_16, d49_17, d57_18, rfl, rfl, (by omega), (by first | exact zy_kR1 (by omega) (by omega) (by first | exact Or.inl ⟨by assumption, rfl⟩ | exact Or.inr ⟨by assumption, rfl⟩) (by assumption) (by first | exact Or.inl ⟨by assumption, rfl⟩ | exact Or.inr ⟨by assumption, rfl⟩) hq46_1 | exact zy_kR0 (by omega) (by omega) (by first | exact Or.inl ⟨by assumption, rfl⟩ | exact Or.inr ⟨by assumption, rfl⟩) (by assumption) | exact zy_kRa (hq2_1 (by assumption))), (by first | exact Or.inl rfl | exact Or.inr rfl | assumption)⟩ (hw.sub [1, 0, 2, 3, 4, 5] (by decide) rfl) rfl dX10_keepOff_50
      · skip
        refine lv_iconst (v := 0) hx hb dX10_keepOff_30 (by decide) ?_
        exact hret _ _ _ _ _ _ ⟨0, un, j50, j51, c48, c49, c57, rfl, rfl, (by omega), (by first | exact zy_kR1 (by omega) (by omega) (by first | exact Or.inl ⟨by assumption, rfl⟩ | exact Or.inr ⟨by assumption, rfl⟩) (by assumption) (by first | exact Or.inl ⟨by assumption, rfl⟩ | exact Or.inr ⟨by assumption, rfl⟩) hq46_1 | exact zy_kR0 (by omega) (by omega) (by first | exact Or.inl ⟨by assumption, rfl⟩ | exact Or.inr ⟨by assumption, rfl⟩) (by assumption) | exact zy_kRa (hq2_1 (by assumption))), (by first | exact Or.inl rfl | exact Or.inr rfl | assumption)⟩ (hw.sub [4, 5, 0, 1, 2, 3] (by decide) rfl) rfl dX10_keepOff_31
    · skip
      refine lv_iconst (v := 1) hx hb dX10_keepOff_21 (by decide) ?_
      refine lv_goto (tgt := 26) hx hb dX10_keepOff_22 (by decide) ?_
      refine W.eq (g2 := F0 m 26 ls [.int 1]) rfl ?_
      refine lv_iload_n hx hb dX10_keepOff_26 rfl (lv_at hl 2 rfl) ?_
      refine lv_icmp_ne (tgt := 32) hx hb dX10_keepOff_27 (by decide) (fun c27_19 => ?_) (fun c27_19 => ?_)
      · skip
        refine lv_aload_n hx hb dX10_keepOff_32 rfl (lv_at hl 0 rfl) ?_
        refine lv_bipush (v := 14) hx hb dX10_keepOff_33 (by decide) ?_
        refine lv_iload_n hx hb dX10_keepOff_35 rfl (lv_at hl 1 rfl) ?_
        refine lv_iadd hx hb dX10_keepOff_36 ?_
        refine zz_topi (y := (nI (14 + vq3))) (nI_add _ _) ?_
        refine lv_iload_n hx hb dX10_keepOff_37 rfl (lv_at hl 2 rfl) ?_
        refine lv_if_eq (tgt := 45) hx hb dX10_keepOff_38 (by decide) (fun c38_20 => ?_) (fun c38_20 => ?_)
        · skip
          refine lv_iconst (v := 0) hx hb dX10_keepOff_45 (by decide) ?_
          refine zz_callV (qb := 4) (As := [.int (nI (14 + vq3)), .int 0]) (rest := []) (wr := [((r 22), .inl (G.2 0, 2, .inl c22))]) S hw hl.1 lX10_391 (c_x_does l G r j0 j2 j4 j10 j11 j12 j13 j14 j15 j16 j17 j19 j20 j34 j40 j44 j47 j50 j51 j61 lv c31 c48 c49 c57 0 un (14 + vq3) (by first | assumption | omega | exact Or.inr ⟨_, by omega, rfl⟩ | (unfold zz_sok; decide) | decide | exact (fun j hj => (hv7 j hj).1)) (by first | assumption | omega | exact Or.inr ⟨_, by omega, rfl⟩ | (unfold zz_sok; decide) | decide | exact (fun j hj => (hv7 j hj).1)) (by first | assumption | omega | exact Or.inr ⟨_, by omega, rfl⟩ | (unfold zz_sok; decide) | decide | exact (fun j hj => (hv7 j hj).1))) ⟨Nat.le_of_ble_eq_true rfl, Nat.le_of_ble_eq_true rfl⟩ ⟨Nat.le_of_ble_eq_true rfl, Nat.le_of_ble_eq_true rfl⟩ [4, 0, 1, 2, 3] [5] (by decide) rfl rfl (by decide) (by decide) rfl rfl rfl rfl (Nat.le_of_ble_eq_true rfl) dX10_keepOff_46 ?_
          clear hw
          intro rr u H locs hp hw
          refine hp.elim fun un2_21 zg0 => zg0.elim fun k50_22 zg1 => zg1.elim fun k51_23 zg2 => zg2.elim fun d48_24 zg3 => zg3.elim fun d49_25 zg4 => zg4.elim fun d57_26 zg5 => zg5.elim fun zee1 zg6 => zg6.elim fun zee2 zg7 => zg7.elim fun hq46_0 hq46_1 => ?_
          clear hp zg0 zg1 zg2 zg3 zg4 zg5 zg6 zg7
          subst zee1
          subst zee2
          replace hw : zz_w G A s [((r 22), .inl (G.2 0, 2, .inl c22)), ((r 0), .inr (10, (zz_mo r [(0, j0), (2, j2), (4, j4), (10, j10), (11, j11), (12, j12), (13, j13), (14, j14), (15, j15), (16, j16), (17, j17), (18, (nI lv)), (19, j19), (20, j20), (34, j34), (40, j40), (44, j44), (47, j47), (50, k50_22), (51, k51_23), (56, (nI un2_21)), (61, j61)]))), ((r 31), .inl (G.2 0, 2, .inl c31)), ((r 48), .inl (G.2 0, 71, .inl d48_24)), ((r 49), .inl (G.2 0, 71, .inl d49_25)), ((r 57), .inl (G.2 0, 2840, .inl d57_26))] H _ := hw
          refine W.eq (g2 := F0 m 49 ls []) rfl ?_
          refine lv_iconst (v := 1) hx hb dX10_keepOff_49 (by decide) ?_
          exact hret _ _ _ _ _ _ ⟨1, un2_21, k50_22, k51_23, d48_24, d49_25, d57_26, rfl, rfl, (by omega), (by first | exact zy_kR1 (by omega) (by omega) (by first | exact Or.inl ⟨by assumption, rfl⟩ | exact Or.inr ⟨by assumption, rfl⟩) (by assumption) (by first | exact Or.inl ⟨by assumption, rfl⟩ | exact Or.inr ⟨by assumption, rfl⟩) hq46_1 | exact zy_kR0 (by omega) (by omega) (by first | exact Or.inl ⟨by assumption, rfl⟩ | exact Or.inr ⟨by assumption, rfl⟩) (by assumption) | exact zy_kRa (hq2_1 (by assumption))), (by first | exact Or.inl rfl | exact Or.inr rfl | assumption)⟩ (hw.sub [1, 0, 2, 3, 4, 5] (by decide) rfl) rfl dX10_keepOff_50
        · skip
          refine lv_iconst (v := 1) hx hb dX10_keepOff_41 (by decide) ?_
          refine lv_goto (tgt := 46) hx hb dX10_keepOff_42 (by decide) ?_
          refine zz_callV (qb := 4) (As := [.int (nI (14 + vq3)), .int 1]) (rest := []) (wr := [((r 22), .inl (G.2 0, 2, .inl c22))]) S hw hl.1 lX10_391 (c_x_does l G r j0 j2 j4 j10 j11 j12 j13 j14 j15 j16 j17 j19 j20 j34 j40 j44 j47 j50 j51 j61 lv c31 c48 c49 c57 1 un (14 + vq3) (by first | assumption | omega | exact Or.inr ⟨_, by omega, rfl⟩ | (unfold zz_sok; decide) | decide | exact (fun j hj => (hv7 j hj).1)) (by first | assumption | omega | exact Or.inr ⟨_, by omega, rfl⟩ | (unfold zz_sok; decide) | decide | exact (fun j hj => (hv7 j hj).1)) (by first | assumption | omega | exact Or.inr ⟨_, by omega, rfl⟩ | (unfold zz_sok; decide) | decide | exact (fun j hj => (hv7 j hj).1))) ⟨Nat.le_of_ble_eq_true rfl, Nat.le_of_ble_eq_true rfl⟩ ⟨Nat.le_of_ble_eq_true rfl, Nat.le_of_ble_eq_true rfl⟩ [4, 0, 1, 2, 3] [5] (by decide) rfl rfl (by decide) (by decide) rfl rfl rfl rfl (Nat.le_of_ble_eq_true rfl) dX10_keepOff_46 ?_
          clear hw
          intro rr u H locs hp hw
          refine hp.elim fun un2_27 zg0 => zg0.elim fun k50_28 zg1 => zg1.elim fun k51_29 zg2 => zg2.elim fun d48_30 zg3 => zg3.elim fun d49_31 zg4 => zg4.elim fun d57_32 zg5 => zg5.elim fun zee1 zg6 => zg6.elim fun zee2 zg7 => zg7.elim fun hq46_0 hq46_1 => ?_
          clear hp zg0 zg1 zg2 zg3 zg4 zg5 zg6 zg7
          subst zee1
          subst zee2
          replace hw : zz_w G A s [((r 22), .inl (G.2 0, 2, .inl c22)), ((r 0), .inr (10, (zz_mo r [(0, j0), (2, j2), (4, j4), (10, j10), (11, j11), (12, j12), (13, j13), (14, j14), (15, j15), (16, j16), (17, j17), (18, (nI lv)), (19, j19), (20, j20), (34, j34), (40, j40), (44, j44), (47, j47), (50, k50_28), (51, k51_29), (56, (nI un2_27)), (61, j61)]))), ((r 31), .inl (G.2 0, 2, .inl c31)), ((r 48), .inl (G.2 0, 71, .inl d48_30)), ((r 49), .inl (G.2 0, 71, .inl d49_31)), ((r 57), .inl (G.2 0, 2840, .inl d57_32))] H _ := hw
          refine W.eq (g2 := F0 m 49 ls []) rfl ?_
          refine lv_iconst (v := 1) hx hb dX10_keepOff_49 (by decide) ?_
          exact hret _ _ _ _ _ _ ⟨1, un2_27, k50_28, k51_29, d48_30, d49_31, d57_32, rfl, rfl, (by omega), (by first | exact zy_kR1 (by omega) (by omega) (by first | exact Or.inl ⟨by assumption, rfl⟩ | exact Or.inr ⟨by assumption, rfl⟩) (by assumption) (by first | exact Or.inl ⟨by assumption, rfl⟩ | exact Or.inr ⟨by assumption, rfl⟩) hq46_1 | exact zy_kR0 (by omega) (by omega) (by first | exact Or.inl ⟨by assumption, rfl⟩ | exact Or.inr ⟨by assumption, rfl⟩) (by assumption) | exact zy_kRa (hq2_1 (by assumption))), (by first | exact Or.inl rfl | exact Or.inr rfl | assumption)⟩ (hw.sub [1, 0, 2, 3, 4, 5] (by decide) rfl) rfl dX10_keepOff_50
      · skip
        refine lv_iconst (v := 0) hx hb dX10_keepOff_30 (by decide) ?_
        refine W.eq (g2 := F0 m 31 ls [.int 0]) rfl ?_
        exact hret _ _ _ _ _ _ ⟨0, un, j50, j51, c48, c49, c57, rfl, rfl, (by omega), (by first | exact zy_kR1 (by omega) (by omega) (by first | exact Or.inl ⟨by assumption, rfl⟩ | exact Or.inr ⟨by assumption, rfl⟩) (by assumption) (by first | exact Or.inl ⟨by assumption, rfl⟩ | exact Or.inr ⟨by assumption, rfl⟩) hq46_1 | exact zy_kR0 (by omega) (by omega) (by first | exact Or.inl ⟨by assumption, rfl⟩ | exact Or.inr ⟨by assumption, rfl⟩) (by assumption) | exact zy_kRa (hq2_1 (by assumption))), (by first | exact Or.inl rfl | exact Or.inr rfl | assumption)⟩ (hw.sub [4, 5, 0, 1, 2, 3] (by decide) rfl) rfl dX10_keepOff_31
theorem kd_ncX10_days : kd_ck 94150612820063832451475274130751439262928676011726314964243637234374807446452349027937324931787896859 42 cX10_days.data.toList 0 = true := by decide +kernel
theorem dX10_days_0 : decode cX10_days 0 = .ok (.iload_n 1, 1) := kd_dk0 kd_o27 kd_ncX10_days rfl
theorem dX10_days_1 : decode cX10_days 1 = .ok (.invokestatic 394, 3) := kd_dk2 kd_o184 kd_ncX10_days rfl
theorem dX10_days_4 : decode cX10_days 4 = .ok (.ifCond .ne 5, 3) := kd_dj2 kd_o154 (w := 5) kd_ncX10_days rfl rfl
theorem dX10_days_7 : decode cX10_days 7 = .ok (.iconst (-1), 1) := kd_dk0 kd_o2 kd_ncX10_days rfl
theorem dX10_days_8 : decode cX10_days 8 = .ok (.ireturn, 1) := kd_dk0 kd_o172 kd_ncX10_days rfl
theorem dX10_days_9 : decode cX10_days 9 = .ok (.iload_n 1, 1) := kd_dk0 kd_o27 kd_ncX10_days rfl
theorem dX10_days_10 : decode cX10_days 10 = .ok (.ifCond .ne 11, 3) := kd_dj2 kd_o154 (w := 11) kd_ncX10_days rfl rfl
theorem dX10_days_13 : decode cX10_days 13 = .ok (.aload_n 0, 1) := kd_dk0 kd_o42 kd_ncX10_days rfl
theorem dX10_days_14 : decode cX10_days 14 = .ok (.getfield 110, 3) := kd_dk2 kd_o180 kd_ncX10_days rfl
theorem dX10_days_17 : decode cX10_days 17 = .ok (.bipush 69, 2) := kd_dj1 kd_o16 (w := 69) kd_ncX10_days rfl rfl
theorem dX10_days_19 : decode cX10_days 19 = .ok (.iaload, 1) := kd_dk0 kd_o46 kd_ncX10_days rfl
theorem dX10_days_20 : decode cX10_days 20 = .ok (.ireturn, 1) := kd_dk0 kd_o172 kd_ncX10_days rfl
theorem dX10_days_21 : decode cX10_days 21 = .ok (.aload_n 0, 1) := kd_dk0 kd_o42 kd_ncX10_days rfl
theorem dX10_days_22 : decode cX10_days 22 = .ok (.invokevirtual 323, 3) := kd_dk2 kd_o182 kd_ncX10_days rfl
theorem dX10_days_25 : decode cX10_days 25 = .ok (.aload_n 0, 1) := kd_dk0 kd_o42 kd_ncX10_days rfl
theorem dX10_days_26 : decode cX10_days 26 = .ok (.iload_n 1, 1) := kd_dk0 kd_o27 kd_ncX10_days rfl
theorem dX10_days_27 : decode cX10_days 27 = .ok (.invokevirtual 397, 3) := kd_dk2 kd_o182 kd_ncX10_days rfl
theorem dX10_days_30 : decode cX10_days 30 = .ok (.aload_n 0, 1) := kd_dk0 kd_o42 kd_ncX10_days rfl
theorem dX10_days_31 : decode cX10_days 31 = .ok (.invokevirtual 385, 3) := kd_dk2 kd_o182 kd_ncX10_days rfl
theorem dX10_days_34 : decode cX10_days 34 = .ok (.aload_n 0, 1) := kd_dk0 kd_o42 kd_ncX10_days rfl
theorem dX10_days_35 : decode cX10_days 35 = .ok (.getfield 110, 3) := kd_dk2 kd_o180 kd_ncX10_days rfl
theorem dX10_days_38 : decode cX10_days 38 = .ok (.bipush 69, 2) := kd_dj1 kd_o16 (w := 69) kd_ncX10_days rfl rfl
theorem dX10_days_40 : decode cX10_days 40 = .ok (.iaload, 1) := kd_dk0 kd_o46 kd_ncX10_days rfl
theorem dX10_days_41 : decode cX10_days 41 = .ok (.ireturn, 1) := kd_dk0 kd_o172 kd_ncX10_days rfl
set_option maxHeartbeats 8000000 in
set_option maxRecDepth 100000 in
theorem c_x_days (l : Launch) (G : zz_G) (r : Nat → Nat) (j0 : Int32) (j2 : Int32) (j4 : Int32) (j10 : Int32) (j11 : Int32) (j12 : Int32) (j13 : Int32) (j14 : Int32) (j15 : Int32) (j16 : Int32) (j17 : Int32) (j19 : Int32) (j20 : Int32) (j34 : Int32) (j40 : Int32) (j44 : Int32) (j47 : Int32) (j50 : Int32) (j51 : Int32) (j61 : Int32) (lv : Nat) (pp : Nat) (pq : Nat) (c22 : Nat → Int32) (c24 : Nat → Int32) (c25 : Nat → Int32) (c26 : Nat → Int32) (c28 : Nat → Int32) (c29 : Nat → Int32) (c30 : Nat → Int32) (c31 : Nat → Int32) (c32 : Nat → Int32) (c33 : Nat → Int32) (c35 : Nat → Int32) (c36 : Nat → Int32) (c37 : Nat → Int32) (c38 : Nat → Int32) (c39 : Nat → Int32) (c41 : Nat → Int32) (c42 : Nat → Int32) (c45 : Nat → Int32) (c46 : Nat → Int32) (c48 : Nat → Int32) (c49 : Nat → Int32) (c52 : Nat → Int32) (c53 : Nat → Int32) (c54 : Nat → Int32) (c55 : Nat → Int32) (c57 : Nat → Int32) (ar1 : Int32) (un : Nat) (hlv : lv ≤ 1) (hpe : c22 lv = nI pp) (hpp : pp ≤ 7) (hpa : c26 lv = nI pq) (hpq : pq ≤ 6) (hlw : zz_LW 2 0 0 c32 c33 c35 c36 c37 c38 c39 c41 c42) (hca : ∀ j, j < 6 → zz_ok 7 (c52 j)) (hun : un ≤ 40) : zz_M l G mX10_days 7 0 0 [.ref (r 0), .int ar1] [((r 0), .inr (10, (zz_mo r [(0, j0), (2, j2), (4, j4), (10, j10), (11, j11), (12, j12), (13, j13), (14, j14), (15, j15), (16, j16), (17, j17), (18, (nI lv)), (19, j19), (20, j20), (34, j34), (40, j40), (44, j44), (47, j47), (50, j50), (51, j51), (56, (nI un)), (61, j61)]))), ((r 22), .inl (G.2 0, 2, .inl c22)), ((r 24), .inl (G.2 0, 14, .inl c24)), ((r 25), .inl (G.2 0, 14, .inl c25)), ((r 26), .inl (G.2 0, 2, .inl c26)), ((r 28), .inl (G.2 0, 12, .inl c28)), ((r 29), .inl (G.2 0, 12, .inl c29)), ((r 30), .inl (G.2 0, 2, .inl c30)), ((r 31), .inl (G.2 0, 2, .inl c31)), ((r 32), .inl (G.2 0, 8, .inl c32)), ((r 33), .inl (G.2 0, 8, .inl c33)), ((r 35), .inl (G.2 2, 260, .inl c35)), ((r 36), .inl (G.2 0, 260, .inl c36)), ((r 37), .inl (G.2 0, 260, .inl c37)), ((r 38), .inl (G.2 0, 260, .inl c38)), ((r 39), .inl (G.2 0, 260, .inl c39)), ((r 41), .inl (G.2 0, 840, .inl c41)), ((r 42), .inl (G.2 0, 840, .inl c42)), ((r 45), .inl (G.2 0, 9, .inl c45)), ((r 46), .inl (G.2 0, 400, .inl c46)), ((r 48), .inl (G.2 0, 71, .inl c48)), ((r 49), .inl (G.2 0, 71, .inl c49)), ((r 52), .inl (G.2 0, 6, .inl c52)), ((r 53), .inl (G.2 2, 6, .inl c53)), ((r 54), .inl (G.2 2, 6, .inl c54)), ((r 55), .inl (G.2 0, 6, .inl c55)), ((r 57), .inl (G.2 0, 2840, .inl c57))] (fun rr u => ∃ (rv : Int32), ∃ (un2 : Nat), ∃ (k47 : Int32), ∃ (k50 : Int32), ∃ (k51 : Int32), ∃ (d45 : Nat → Int32), ∃ (d46 : Nat → Int32), ∃ (d48 : Nat → Int32), ∃ (d49 : Nat → Int32), ∃ (d52 : Nat → Int32), ∃ (d53 : Nat → Int32), ∃ (d54 : Nat → Int32), ∃ (d55 : Nat → Int32), ∃ (d57 : Nat → Int32), rr = some (.int rv) ∧ u = [((r 0), .inr (10, (zz_mo r [(0, j0), (2, j2), (4, j4), (10, j10), (11, j11), (12, j12), (13, j13), (14, j14), (15, j15), (16, j16), (17, j17), (18, (nI lv)), (19, j19), (20, j20), (34, j34), (40, j40), (44, j44), (47, k47), (50, k50), (51, k51), (56, (nI un2)), (61, j61)]))), ((r 22), .inl (G.2 0, 2, .inl c22)), ((r 24), .inl (G.2 0, 14, .inl c24)), ((r 25), .inl (G.2 0, 14, .inl c25)), ((r 26), .inl (G.2 0, 2, .inl c26)), ((r 28), .inl (G.2 0, 12, .inl c28)), ((r 29), .inl (G.2 0, 12, .inl c29)), ((r 30), .inl (G.2 0, 2, .inl c30)), ((r 31), .inl (G.2 0, 2, .inl c31)), ((r 32), .inl (G.2 0, 8, .inl c32)), ((r 33), .inl (G.2 0, 8, .inl c33)), ((r 35), .inl (G.2 2, 260, .inl c35)), ((r 36), .inl (G.2 0, 260, .inl c36)), ((r 37), .inl (G.2 0, 260, .inl c37)), ((r 38), .inl (G.2 0, 260, .inl c38)), ((r 39), .inl (G.2 0, 260, .inl c39)), ((r 41), .inl (G.2 0, 840, .inl c41)), ((r 42), .inl (G.2 0, 840, .inl c42)), ((r 45), .inl (G.2 0, 9, .inl d45)), ((r 46), .inl (G.2 0, 400, .inl d46)), ((r 48), .inl (G.2 0, 71, .inl d48)), ((r 49), .inl (G.2 0, 71, .inl d49)), ((r 52), .inl (G.2 0, 6, .inl d52)), ((r 53), .inl (G.2 2, 6, .inl d53)), ((r 54), .inl (G.2 2, 6, .inl d54)), ((r 55), .inl (G.2 0, 6, .inl d55)), ((r 57), .inl (G.2 0, 2840, .inl d57))] ∧ (un2 ≤ 40) ∧ (zy_dR (zr_go (zr_HD lv c32 c33 c35 c36 c37 c38 c39 c41 c42 (c30 lv)) lv c24 c28 c25 c29 (c30 lv) (c31 lv) 0 pp pq) c48 c57 un ar1 rv un2 d48 d57) ∧ (∀ j, j < 6 → zz_ok 7 (d52 j))) := by
  refine zz_enteri (by decide +kernel) (Nat.le_of_ble_eq_true rfl) ?_
  intro p e s m args below meth c A Q ls S hnm hret hw hl
  have hl : lv_has ls 2 [(0, .ref (r 0)), (1, .int ar1)] := hl
  have hx := S.1
  have hb := S.2.1
  refine lv_iload_n hx hb dX10_days_0 rfl (lv_at hl 1 rfl) ?_
  refine zz_callS (As := [.int ar1]) (rest := []) (wr := [((r 0), .inr (10, (zz_mo r [(0, j0), (2, j2), (4, j4), (10, j10), (11, j11), (12, j12), (13, j13), (14, j14), (15, j15), (16, j16), (17, j17), (18, (nI lv)), (19, j19), (20, j20), (34, j34), (40, j40), (44, j44), (47, j47), (50, j50), (51, j51), (56, (nI un)), (61, j61)]))), ((r 22), .inl (G.2 0, 2, .inl c22)), ((r 24), .inl (G.2 0, 14, .inl c24)), ((r 25), .inl (G.2 0, 14, .inl c25)), ((r 26), .inl (G.2 0, 2, .inl c26)), ((r 28), .inl (G.2 0, 12, .inl c28)), ((r 29), .inl (G.2 0, 12, .inl c29)), ((r 30), .inl (G.2 0, 2, .inl c30)), ((r 31), .inl (G.2 0, 2, .inl c31)), ((r 32), .inl (G.2 0, 8, .inl c32)), ((r 33), .inl (G.2 0, 8, .inl c33)), ((r 35), .inl (G.2 2, 260, .inl c35)), ((r 36), .inl (G.2 0, 260, .inl c36)), ((r 37), .inl (G.2 0, 260, .inl c37)), ((r 38), .inl (G.2 0, 260, .inl c38)), ((r 39), .inl (G.2 0, 260, .inl c39)), ((r 41), .inl (G.2 0, 840, .inl c41)), ((r 42), .inl (G.2 0, 840, .inl c42)), ((r 45), .inl (G.2 0, 9, .inl c45)), ((r 46), .inl (G.2 0, 400, .inl c46)), ((r 48), .inl (G.2 0, 71, .inl c48)), ((r 49), .inl (G.2 0, 71, .inl c49)), ((r 52), .inl (G.2 0, 6, .inl c52)), ((r 53), .inl (G.2 2, 6, .inl c53)), ((r 54), .inl (G.2 2, 6, .inl c54)), ((r 55), .inl (G.2 0, 6, .inl c55)), ((r 57), .inl (G.2 0, 2840, .inl c57))]) S hw hl.1 lX10_394 (c_x_isLong l G ar1) ⟨Nat.le_of_ble_eq_true rfl, Nat.le_of_ble_eq_true rfl⟩ ⟨Nat.le_of_ble_eq_true rfl, Nat.le_of_ble_eq_true rfl⟩ [] [0, 1, 2, 3, 4, 5, 6, 7, 8, 9, 10, 11, 12, 13, 14, 15, 16, 17, 18, 19, 20, 21, 22, 23, 24, 25, 26] (by decide +kernel) rfl rfl (by decide +kernel) (by decide +kernel) rfl rfl (Nat.le_of_ble_eq_true rfl) dX10_days_1 ?_
  clear hw
  intro rr u H locs hp hw
  refine hp.elim fun rv_1 zg0 => zg0.elim fun zee1 zg1 => zg1.elim fun zee2 zg2 => zg2.elim fun hq1_0 zg3 => zg3.elim fun hq1_1 hq1_2 => ?_
  clear hp zg0 zg1 zg2 zg3
  subst zee1
  subst zee2
  replace hw : zz_w G A s [((r 0), .inr (10, (zz_mo r [(0, j0), (2, j2), (4, j4), (10, j10), (11, j11), (12, j12), (13, j13), (14, j14), (15, j15), (16, j16), (17, j17), (18, (nI lv)), (19, j19), (20, j20), (34, j34), (40, j40), (44, j44), (47, j47), (50, j50), (51, j51), (56, (nI un)), (61, j61)]))), ((r 22), .inl (G.2 0, 2, .inl c22)), ((r 24), .inl (G.2 0, 14, .inl c24)), ((r 25), .inl (G.2 0, 14, .inl c25)), ((r 26), .inl (G.2 0, 2, .inl c26)), ((r 28), .inl (G.2 0, 12, .inl c28)), ((r 29), .inl (G.2 0, 12, .inl c29)), ((r 30), .inl (G.2 0, 2, .inl c30)), ((r 31), .inl (G.2 0, 2, .inl c31)), ((r 32), .inl (G.2 0, 8, .inl c32)), ((r 33), .inl (G.2 0, 8, .inl c33)), ((r 35), .inl (G.2 2, 260, .inl c35)), ((r 36), .inl (G.2 0, 260, .inl c36)), ((r 37), .inl (G.2 0, 260, .inl c37)), ((r 38), .inl (G.2 0, 260, .inl c38)), ((r 39), .inl (G.2 0, 260, .inl c39)), ((r 41), .inl (G.2 0, 840, .inl c41)), ((r 42), .inl (G.2 0, 840, .inl c42)), ((r 45), .inl (G.2 0, 9, .inl c45)), ((r 46), .inl (G.2 0, 400, .inl c46)), ((r 48), .inl (G.2 0, 71, .inl c48)), ((r 49), .inl (G.2 0, 71, .inl c49)), ((r 52), .inl (G.2 0, 6, .inl c52)), ((r 53), .inl (G.2 2, 6, .inl c53)), ((r 54), .inl (G.2 2, 6, .inl c54)), ((r 55), .inl (G.2 0, 6, .inl c55)), ((r 57), .inl (G.2 0, 2840, .inl c57))] H _ := hw
  refine W.eq (g2 := F0 m 4 ls [.int rv_1]) rfl ?_
  refine lv_if_ne (tgt := 9) hx hb dX10_days_4 (by decide) (fun c4_2 => ?_) (fun c4_2 => ?_)
  · skip
    obtain ⟨vq3, hvq3, rfl⟩ := hq1_0.resolve_left c4_2
    refine lv_iload_n hx hb dX10_days_9 rfl (lv_at hl 1 rfl) ?_
    refine lv_if_ne (tgt := 21) hx hb dX10_days_10 (by decide) (fun c10_4 => ?_) (fun c10_4 => ?_)
    · skip
      have c10_4n : ¬ (vq3 = 0) := fun z => c10_4 ((zz_eq (a := vq3) (b := 0) rfl rfl (by omega) (by omega)).mpr z)
      refine lv_aload_n hx hb dX10_days_21 rfl (lv_at hl 0 rfl) ?_
      refine zz_callV (qb := 0) (As := []) (rest := []) (wr := [((r 22), .inl (G.2 0, 2, .inl c22)), ((r 24), .inl (G.2 0, 14, .inl c24)), ((r 25), .inl (G.2 0, 14, .inl c25)), ((r 26), .inl (G.2 0, 2, .inl c26)), ((r 28), .inl (G.2 0, 12, .inl c28)), ((r 29), .inl (G.2 0, 12, .inl c29)), ((r 30), .inl (G.2 0, 2, .inl c30)), ((r 32), .inl (G.2 0, 8, .inl c32)), ((r 33), .inl (G.2 0, 8, .inl c33)), ((r 35), .inl (G.2 2, 260, .inl c35)), ((r 36), .inl (G.2 0, 260, .inl c36)), ((r 37), .inl (G.2 0, 260, .inl c37)), ((r 38), .inl (G.2 0, 260, .inl c38)), ((r 39), .inl (G.2 0, 260, .inl c39)), ((r 41), .inl (G.2 0, 840, .inl c41)), ((r 42), .inl (G.2 0, 840, .inl c42)), ((r 45), .inl (G.2 0, 9, .inl c45)), ((r 46), .inl (G.2 0, 400, .inl c46)), ((r 52), .inl (G.2 0, 6, .inl c52)), ((r 53), .inl (G.2 2, 6, .inl c53)), ((r 54), .inl (G.2 2, 6, .inl c54)), ((r 55), .inl (G.2 0, 6, .inl c55)), ((r 57), .inl (G.2 0, 2840, .inl c57))]) S hw hl.1 lX10_323 (c_x_copies l G r j0 j2 j4 j10 j11 j12 j13 j14 j15 j16 j17 j19 j20 j34 j40 j44 j47 j50 j51 (nI un) j61 lv c31 c48 c49 (by first | assumption | omega | exact Or.inr ⟨_, by omega, rfl⟩ | (unfold zz_sok; decide) | decide | exact (fun j hj => (hv7 j hj).1))) ⟨Nat.le_of_ble_eq_true rfl, Nat.le_of_ble_eq_true rfl⟩ ⟨Nat.le_of_ble_eq_true rfl, Nat.le_of_ble_eq_true rfl⟩ [0, 8, 20, 21] [1, 2, 3, 4, 5, 6, 7, 9, 10, 11, 12, 13, 14, 15, 16, 17, 18, 19, 22, 23, 24, 25, 26] (by decide +kernel) rfl rfl (by decide +kernel) (by decide +kernel) rfl rfl rfl rfl (Nat.le_of_ble_eq_true rfl) dX10_days_22 ?_
      clear hw
      intro rr u H locs hp hw
      refine hp.elim fun k50_5 zg0 => zg0.elim fun k51_6 zg1 => zg1.elim fun d49_7 zg2 => zg2.elim fun zee1 zg3 => zg3.elim fun zee2 zg4 => zg4.elim fun hq22_0 zg5 => zg5.elim fun hq22_1 hq22_2 => ?_
      clear hp zg0 zg1 zg2 zg3 zg4 zg5
      subst zee1
      subst zee2
      replace hw : zz_w G A s [((r 22), .inl (G.2 0, 2, .inl c22)), ((r 24), .inl (G.2 0, 14, .inl c24)), ((r 25), .inl (G.2 0, 14, .inl c25)), ((r 26), .inl (G.2 0, 2, .inl c26)), ((r 28), .inl (G.2 0, 12, .inl c28)), ((r 29), .inl (G.2 0, 12, .inl c29)), ((r 30), .inl (G.2 0, 2, .inl c30)), ((r 32), .inl (G.2 0, 8, .inl c32)), ((r 33), .inl (G.2 0, 8, .inl c33)), ((r 35), .inl (G.2 2, 260, .inl c35)), ((r 36), .inl (G.2 0, 260, .inl c36)), ((r 37), .inl (G.2 0, 260, .inl c37)), ((r 38), .inl (G.2 0, 260, .inl c38)), ((r 39), .inl (G.2 0, 260, .inl c39)), ((r 41), .inl (G.2 0, 840, .inl c41)), ((r 42), .inl (G.2 0, 840, .inl c42)), ((r 45), .inl (G.2 0, 9, .inl c45)), ((r 46), .inl (G.2 0, 400, .inl c46)), ((r 52), .inl (G.2 0, 6, .inl c52)), ((r 53), .inl (G.2 2, 6, .inl c53)), ((r 54), .inl (G.2 2, 6, .inl c54)), ((r 55), .inl (G.2 0, 6, .inl c55)), ((r 57), .inl (G.2 0, 2840, .inl c57)), ((r 0), .inr (10, (zz_mo r [(0, j0), (2, j2), (4, j4), (10, j10), (11, j11), (12, j12), (13, j13), (14, j14), (15, j15), (16, j16), (17, j17), (18, (nI lv)), (19, j19), (20, j20), (34, j34), (40, j40), (44, j44), (47, j47), (50, k50_5), (51, k51_6), (56, (nI un)), (61, j61)]))), ((r 31), .inl (G.2 0, 2, .inl c31)), ((r 48), .inl (G.2 0, 71, .inl c48)), ((r 49), .inl (G.2 0, 71, .inl d49_7))] H _ := hw
      refine W.eq (g2 := F0 m 25 ls []) rfl ?_
      refine lv_aload_n hx hb dX10_days_25 rfl (lv_at hl 0 rfl) ?_
      refine lv_iload_n hx hb dX10_days_26 rfl (lv_at hl 1 rfl) ?_
      refine zz_callV (qb := 23) (As := [.int (nI vq3)]) (rest := []) (wr := [((r 57), .inl (G.2 0, 2840, .inl c57)), ((r 31), .inl (G.2 0, 2, .inl c31)), ((r 48), .inl (G.2 0, 71, .inl c48))]) S hw hl.1 lX10_397 (c_x_goes l G r j0 j2 j4 j10 j11 j12 j13 j14 j15 j16 j17 j19 j20 j34 j40 j44 j47 k50_5 k51_6 (nI un) j61 lv pp pq c22 c24 c25 c26 c28 c29 c30 c32 c33 c35 c36 c37 c38 c39 c41 c42 c45 c46 d49_7 c52 c53 c54 c55 vq3 (by first | assumption | omega | exact Or.inr ⟨_, by omega, rfl⟩ | (unfold zz_sok; decide) | decide | exact (fun j hj => (hv7 j hj).1)) (by first | assumption | omega | exact Or.inr ⟨_, by omega, rfl⟩ | (unfold zz_sok; decide) | decide | exact (fun j hj => (hv7 j hj).1)) (by first | assumption | omega | exact Or.inr ⟨_, by omega, rfl⟩ | (unfold zz_sok; decide) | decide | exact (fun j hj => (hv7 j hj).1)) (by first | assumption | omega | exact Or.inr ⟨_, by omega, rfl⟩ | (unfold zz_sok; decide) | decide | exact (fun j hj => (hv7 j hj).1)) (by first | assumption | omega | exact Or.inr ⟨_, by omega, rfl⟩ | (unfold zz_sok; decide) | decide | exact (fun j hj => (hv7 j hj).1)) (by first | assumption | omega | exact Or.inr ⟨_, by omega, rfl⟩ | (unfold zz_sok; decide) | decide | exact (fun j hj => (hv7 j hj).1)) (by first | assumption | omega | exact Or.inr ⟨_, by omega, rfl⟩ | (unfold zz_sok; decide) | decide | exact (fun j hj => (hv7 j hj).1)) (by first | assumption | omega | exact Or.inr ⟨_, by omega, rfl⟩ | (unfold zz_sok; decide) | decide | exact (fun j hj => (hv7 j hj).1))) ⟨Nat.le_of_ble_eq_true rfl, Nat.le_of_ble_eq_true rfl⟩ ⟨Nat.le_of_ble_eq_true rfl, Nat.le_of_ble_eq_true rfl⟩ [23, 0, 1, 2, 3, 4, 5, 6, 7, 8, 9, 10, 11, 12, 13, 14, 15, 16, 17, 26, 18, 19, 20, 21] [22, 24, 25] (by decide +kernel) rfl rfl (by decide +kernel) (by decide +kernel) rfl rfl rfl rfl (Nat.le_of_ble_eq_true rfl) dX10_days_27 ?_
      clear hw
      intro rr u H locs hp hw
      refine hp.elim fun k47_8 zg0 => zg0.elim fun d45_9 zg1 => zg1.elim fun d46_10 zg2 => zg2.elim fun d49_11 zg3 => zg3.elim fun d52_12 zg4 => zg4.elim fun d53_13 zg5 => zg5.elim fun d54_14 zg6 => zg6.elim fun d55_15 zg7 => zg7.elim fun zee1 zg8 => zg8.elim fun zee2 zg9 => zg9.elim fun hq27_0 hq27_1 => ?_
      clear hp zg0 zg1 zg2 zg3 zg4 zg5 zg6 zg7 zg8 zg9
      subst zee1
      subst zee2
      replace hw : zz_w G A s [((r 57), .inl (G.2 0, 2840, .inl c57)), ((r 31), .inl (G.2 0, 2, .inl c31)), ((r 48), .inl (G.2 0, 71, .inl c48)), ((r 0), .inr (10, (zz_mo r [(0, j0), (2, j2), (4, j4), (10, j10), (11, j11), (12, j12), (13, j13), (14, j14), (15, j15), (16, j16), (17, j17), (18, (nI lv)), (19, j19), (20, j20), (34, j34), (40, j40), (44, j44), (47, k47_8), (50, k50_5), (51, k51_6), (56, (nI un)), (61, j61)]))), ((r 22), .inl (G.2 0, 2, .inl c22)), ((r 24), .inl (G.2 0, 14, .inl c24)), ((r 25), .inl (G.2 0, 14, .inl c25)), ((r 26), .inl (G.2 0, 2, .inl c26)), ((r 28), .inl (G.2 0, 12, .inl c28)), ((r 29), .inl (G.2 0, 12, .inl c29)), ((r 30), .inl (G.2 0, 2, .inl c30)), ((r 32), .inl (G.2 0, 8, .inl c32)), ((r 33), .inl (G.2 0, 8, .inl c33)), ((r 35), .inl (G.2 2, 260, .inl c35)), ((r 36), .inl (G.2 0, 260, .inl c36)), ((r 37), .inl (G.2 0, 260, .inl c37)), ((r 38), .inl (G.2 0, 260, .inl c38)), ((r 39), .inl (G.2 0, 260, .inl c39)), ((r 41), .inl (G.2 0, 840, .inl c41)), ((r 42), .inl (G.2 0, 840, .inl c42)), ((r 45), .inl (G.2 0, 9, .inl d45_9)), ((r 46), .inl (G.2 0, 400, .inl d46_10)), ((r 49), .inl (G.2 0, 71, .inl d49_11)), ((r 52), .inl (G.2 0, 6, .inl d52_12)), ((r 53), .inl (G.2 2, 6, .inl d53_13)), ((r 54), .inl (G.2 2, 6, .inl d54_14)), ((r 55), .inl (G.2 0, 6, .inl d55_15))] H _ := hw
      refine W.eq (g2 := F0 m 30 ls []) rfl ?_
      refine lv_aload_n hx hb dX10_days_30 rfl (lv_at hl 0 rfl) ?_
      refine zz_callV (qb := 3) (As := []) (rest := []) (wr := [((r 31), .inl (G.2 0, 2, .inl c31)), ((r 22), .inl (G.2 0, 2, .inl c22)), ((r 24), .inl (G.2 0, 14, .inl c24)), ((r 25), .inl (G.2 0, 14, .inl c25)), ((r 26), .inl (G.2 0, 2, .inl c26)), ((r 28), .inl (G.2 0, 12, .inl c28)), ((r 29), .inl (G.2 0, 12, .inl c29)), ((r 30), .inl (G.2 0, 2, .inl c30)), ((r 32), .inl (G.2 0, 8, .inl c32)), ((r 33), .inl (G.2 0, 8, .inl c33)), ((r 35), .inl (G.2 2, 260, .inl c35)), ((r 36), .inl (G.2 0, 260, .inl c36)), ((r 37), .inl (G.2 0, 260, .inl c37)), ((r 38), .inl (G.2 0, 260, .inl c38)), ((r 39), .inl (G.2 0, 260, .inl c39)), ((r 41), .inl (G.2 0, 840, .inl c41)), ((r 42), .inl (G.2 0, 840, .inl c42)), ((r 45), .inl (G.2 0, 9, .inl d45_9)), ((r 46), .inl (G.2 0, 400, .inl d46_10)), ((r 52), .inl (G.2 0, 6, .inl d52_12)), ((r 53), .inl (G.2 2, 6, .inl d53_13)), ((r 54), .inl (G.2 2, 6, .inl d54_14)), ((r 55), .inl (G.2 0, 6, .inl d55_15))]) S hw hl.1 lX10_385 (c_x_records l G r j0 j2 j4 j10 j11 j12 j13 j14 j15 j16 j17 (nI lv) j19 j20 j34 j40 j44 k47_8 k50_5 k51_6 j61 c48 d49_11 c57 un (by first | assumption | omega | exact Or.inr ⟨_, by omega, rfl⟩ | (unfold zz_sok; decide) | decide | exact (fun j hj => (hv7 j hj).1))) ⟨Nat.le_of_ble_eq_true rfl, Nat.le_of_ble_eq_true rfl⟩ ⟨Nat.le_of_ble_eq_true rfl, Nat.le_of_ble_eq_true rfl⟩ [3, 2, 22, 0] [1, 4, 5, 6, 7, 8, 9, 10, 11, 12, 13, 14, 15, 16, 17, 18, 19, 20, 21, 23, 24, 25, 26] (by decide +kernel) rfl rfl (by decide +kernel) (by decide +kernel) rfl rfl rfl rfl (Nat.le_of_ble_eq_true rfl) dX10_days_31 ?_
      clear hw
      intro rr u H locs hp hw
      refine hp.elim fun un2_16 zg0 => zg0.elim fun d48_17 zg1 => zg1.elim fun d57_18 zg2 => zg2.elim fun zee1 zg3 => zg3.elim fun zee2 zg4 => zg4.elim fun hq31_0 hq31_1 => ?_
      clear hp zg0 zg1 zg2 zg3 zg4
      subst zee1
      subst zee2
      replace hw : zz_w G A s [((r 31), .inl (G.2 0, 2, .inl c31)), ((r 22), .inl (G.2 0, 2, .inl c22)), ((r 24), .inl (G.2 0, 14, .inl c24)), ((r 25), .inl (G.2 0, 14, .inl c25)), ((r 26), .inl (G.2 0, 2, .inl c26)), ((r 28), .inl (G.2 0, 12, .inl c28)), ((r 29), .inl (G.2 0, 12, .inl c29)), ((r 30), .inl (G.2 0, 2, .inl c30)), ((r 32), .inl (G.2 0, 8, .inl c32)), ((r 33), .inl (G.2 0, 8, .inl c33)), ((r 35), .inl (G.2 2, 260, .inl c35)), ((r 36), .inl (G.2 0, 260, .inl c36)), ((r 37), .inl (G.2 0, 260, .inl c37)), ((r 38), .inl (G.2 0, 260, .inl c38)), ((r 39), .inl (G.2 0, 260, .inl c39)), ((r 41), .inl (G.2 0, 840, .inl c41)), ((r 42), .inl (G.2 0, 840, .inl c42)), ((r 45), .inl (G.2 0, 9, .inl d45_9)), ((r 46), .inl (G.2 0, 400, .inl d46_10)), ((r 52), .inl (G.2 0, 6, .inl d52_12)), ((r 53), .inl (G.2 2, 6, .inl d53_13)), ((r 54), .inl (G.2 2, 6, .inl d54_14)), ((r 55), .inl (G.2 0, 6, .inl d55_15)), ((r 0), .inr (10, (zz_mo r [(0, j0), (2, j2), (4, j4), (10, j10), (11, j11), (12, j12), (13, j13), (14, j14), (15, j15), (16, j16), (17, j17), (18, (nI lv)), (19, j19), (20, j20), (34, j34), (40, j40), (44, j44), (47, k47_8), (50, k50_5), (51, k51_6), (56, (nI un2_16)), (61, j61)]))), ((r 48), .inl (G.2 0, 71, .inl d48_17)), ((r 49), .inl (G.2 0, 71, .inl d49_11)), ((r 57), .inl (G.2 0, 2840, .inl d57_18))] H _ := hw
      refine W.eq (g2 := F0 m 34 ls []) rfl ?_
      refine lv_aload_n hx hb dX10_days_34 rfl (lv_at hl 0 rfl) ?_
      refine zz_get (v := .ref (r 48)) S hw fgX10_110 23 rfl rfl dX10_days_35 ?_
      refine lv_bipush (v := 69) hx hb dX10_days_38 (by decide) ?_
      refine zz_iald (v := (d48_17 69)) S hw 24 rfl (vp_in_nI (n := 69) (by decide) (by decide)) (congrArg d48_17 (nI_clamp (n := 69) (by omega))) dX10_days_40 ?_
      refine W.eq (g2 := F0 m 41 ls [.int (d48_17 69)]) rfl ?_
      exact hret _ _ _ _ _ _ ⟨(d48_17 69), un2_16, k47_8, k50_5, k51_6, d45_9, d46_10, d48_17, d49_11, d52_12, d53_13, d54_14, d55_15, d57_18, rfl, rfl, (by omega), (by first | exact Or.inl ⟨hq1_1 (by assumption), rfl, rfl, rfl, rfl⟩ | exact Or.inr (Or.inl ⟨zy_n0 (by omega), rfl, rfl, rfl, rfl⟩) | exact Or.inr (Or.inr ⟨_, by omega, by omega, rfl, rfl, _, _, hq22_0, zy_gos hq22_1 hq22_2 hq27_0, hq31_1⟩)), (by first | assumption | exact Or.inl rfl | exact Or.inr rfl | omega | exact Or.inr (by assumption) | exact zz_oku (by assumption) (by first | exact Or.inl rfl | exact Or.inr ⟨_, by omega, rfl⟩))⟩ (hw.sub [23, 1, 2, 3, 4, 5, 6, 7, 0, 8, 9, 10, 11, 12, 13, 14, 15, 16, 17, 18, 24, 25, 19, 20, 21, 22, 26] (by decide +kernel) rfl) rfl dX10_days_41
    · skip
      have c10_4n : vq3 = 0 := (zz_eq (a := vq3) (b := 0) rfl rfl (by omega) (by omega)).mp c10_4
      refine lv_aload_n hx hb dX10_days_13 rfl (lv_at hl 0 rfl) ?_
      refine zz_get (v := .ref (r 48)) S hw fgX10_110 0 rfl rfl dX10_days_14 ?_
      refine lv_bipush (v := 69) hx hb dX10_days_17 (by decide) ?_
      refine zz_iald (v := (c48 69)) S hw 20 rfl (vp_in_nI (n := 69) (by decide) (by decide)) (congrArg c48 (nI_clamp (n := 69) (by omega))) dX10_days_19 ?_
      exact hret _ _ _ _ _ _ ⟨(c48 69), un, j47, j50, j51, c45, c46, c48, c49, c52, c53, c54, c55, c57, rfl, rfl, (by omega), (by first | exact Or.inl ⟨hq1_1 (by assumption), rfl, rfl, rfl, rfl⟩ | exact Or.inr (Or.inl ⟨zy_n0 (by omega), rfl, rfl, rfl, rfl⟩) | exact Or.inr (Or.inr ⟨_, by omega, by omega, rfl, rfl, _, _, hq22_0, zy_gos hq22_1 hq22_2 hq27_0, hq31_1⟩)), (by first | assumption | exact Or.inl rfl | exact Or.inr rfl | omega | exact Or.inr (by assumption) | exact zz_oku (by assumption) (by first | exact Or.inl rfl | exact Or.inr ⟨_, by omega, rfl⟩))⟩ hw rfl dX10_days_20
  · skip
    refine lv_iconst (v := (-1)) hx hb dX10_days_7 (by decide) ?_
    exact hret _ _ _ _ _ _ ⟨(-1), un, j47, j50, j51, c45, c46, c48, c49, c52, c53, c54, c55, c57, rfl, rfl, (by omega), (by first | exact Or.inl ⟨hq1_1 (by assumption), rfl, rfl, rfl, rfl⟩ | exact Or.inr (Or.inl ⟨zy_n0 (by omega), rfl, rfl, rfl, rfl⟩) | exact Or.inr (Or.inr ⟨_, by omega, by omega, rfl, rfl, _, _, hq22_0, zy_gos hq22_1 hq22_2 hq27_0, hq31_1⟩)), (by first | assumption | exact Or.inl rfl | exact Or.inr rfl | omega | exact Or.inr (by assumption) | exact zz_oku (by assumption) (by first | exact Or.inl rfl | exact Or.inr ⟨_, by omega, rfl⟩))⟩ hw rfl dX10_days_8
theorem kd_ncX10_undo : kd_ck 1907808625695979431079019128725894981798218839430013163014458680077801761164360343621593723791498342546240475905481189897691482600490 55 cX10_undo.data.toList 0 = true := by decide +kernel
theorem dX10_undo_0 : decode cX10_undo 0 = .ok (.aload_n 0, 1) := kd_dk0 kd_o42 kd_ncX10_undo rfl
theorem dX10_undo_1 : decode cX10_undo 1 = .ok (.getfield 254, 3) := kd_dk2 kd_o180 kd_ncX10_undo rfl
theorem dX10_undo_4 : decode cX10_undo 4 = .ok (.ifCond .ne 5, 3) := kd_dj2 kd_o154 (w := 5) kd_ncX10_undo rfl rfl
theorem dX10_undo_7 : decode cX10_undo 7 = .ok (.iconst 0, 1) := kd_dk0 kd_o3 kd_ncX10_undo rfl
theorem dX10_undo_8 : decode cX10_undo 8 = .ok (.ireturn, 1) := kd_dk0 kd_o172 kd_ncX10_undo rfl
theorem dX10_undo_9 : decode cX10_undo 9 = .ok (.aload_n 0, 1) := kd_dk0 kd_o42 kd_ncX10_undo rfl
theorem dX10_undo_10 : decode cX10_undo 10 = .ok (.dup, 1) := kd_dk0 kd_o89 kd_ncX10_undo rfl
theorem dX10_undo_11 : decode cX10_undo 11 = .ok (.getfield 254, 3) := kd_dk2 kd_o180 kd_ncX10_undo rfl
theorem dX10_undo_14 : decode cX10_undo 14 = .ok (.iconst 1, 1) := kd_dk0 kd_o4 kd_ncX10_undo rfl
theorem dX10_undo_15 : decode cX10_undo 15 = .ok (.isub, 1) := kd_dk0 kd_o100 kd_ncX10_undo rfl
theorem dX10_undo_16 : decode cX10_undo 16 = .ok (.putfield 254, 3) := kd_dk2 kd_o181 kd_ncX10_undo rfl
theorem dX10_undo_19 : decode cX10_undo 19 = .ok (.iconst 0, 1) := kd_dk0 kd_o3 kd_ncX10_undo rfl
theorem dX10_undo_20 : decode cX10_undo 20 = .ok (.istore_n 1, 1) := kd_dk0 kd_o60 kd_ncX10_undo rfl
theorem dX10_undo_21 : decode cX10_undo 21 = .ok (.iload_n 1, 1) := kd_dk0 kd_o27 kd_ncX10_undo rfl
theorem dX10_undo_22 : decode cX10_undo 22 = .ok (.bipush 71, 2) := kd_dj1 kd_o16 (w := 71) kd_ncX10_undo rfl rfl
theorem dX10_undo_24 : decode cX10_undo 24 = .ok (.if_icmp .ge 29, 3) := kd_dj2 kd_o162 (w := 29) kd_ncX10_undo rfl rfl
theorem dX10_undo_27 : decode cX10_undo 27 = .ok (.aload_n 0, 1) := kd_dk0 kd_o42 kd_ncX10_undo rfl
theorem dX10_undo_28 : decode cX10_undo 28 = .ok (.getfield 110, 3) := kd_dk2 kd_o180 kd_ncX10_undo rfl
theorem dX10_undo_31 : decode cX10_undo 31 = .ok (.iload_n 1, 1) := kd_dk0 kd_o27 kd_ncX10_undo rfl
theorem dX10_undo_32 : decode cX10_undo 32 = .ok (.aload_n 0, 1) := kd_dk0 kd_o42 kd_ncX10_undo rfl
theorem dX10_undo_33 : decode cX10_undo 33 = .ok (.getfield 128, 3) := kd_dk2 kd_o180 kd_ncX10_undo rfl
theorem dX10_undo_36 : decode cX10_undo 36 = .ok (.bipush 71, 2) := kd_dj1 kd_o16 (w := 71) kd_ncX10_undo rfl rfl
theorem dX10_undo_38 : decode cX10_undo 38 = .ok (.aload_n 0, 1) := kd_dk0 kd_o42 kd_ncX10_undo rfl
theorem dX10_undo_39 : decode cX10_undo 39 = .ok (.getfield 254, 3) := kd_dk2 kd_o180 kd_ncX10_undo rfl
theorem dX10_undo_42 : decode cX10_undo 42 = .ok (.imul, 1) := kd_dk0 kd_o104 kd_ncX10_undo rfl
theorem dX10_undo_43 : decode cX10_undo 43 = .ok (.iload_n 1, 1) := kd_dk0 kd_o27 kd_ncX10_undo rfl
theorem dX10_undo_44 : decode cX10_undo 44 = .ok (.iadd, 1) := kd_dk0 kd_o96 kd_ncX10_undo rfl
theorem dX10_undo_45 : decode cX10_undo 45 = .ok (.iaload, 1) := kd_dk0 kd_o46 kd_ncX10_undo rfl
theorem dX10_undo_46 : decode cX10_undo 46 = .ok (.iastore, 1) := kd_dk0 kd_o79 kd_ncX10_undo rfl
theorem dX10_undo_47 : decode cX10_undo 47 = .ok (.iinc 1 1, 3) := kd_dji kd_o132 (w := 1) kd_ncX10_undo rfl rfl
theorem dX10_undo_50 : decode cX10_undo 50 = .ok (.goto (-29), 3) := kd_dj2 kd_o167 (w := 65507) kd_ncX10_undo rfl rfl
theorem dX10_undo_53 : decode cX10_undo 53 = .ok (.iconst 1, 1) := kd_dk0 kd_o4 kd_ncX10_undo rfl
theorem dX10_undo_54 : decode cX10_undo 54 = .ok (.ireturn, 1) := kd_dk0 kd_o172 kd_ncX10_undo rfl
set_option maxHeartbeats 8000000 in
set_option maxRecDepth 100000 in
theorem c_x_undo (l : Launch) (G : zz_G) (r : Nat → Nat) (j0 : Int32) (j2 : Int32) (j4 : Int32) (j10 : Int32) (j11 : Int32) (j12 : Int32) (j13 : Int32) (j14 : Int32) (j15 : Int32) (j16 : Int32) (j17 : Int32) (j18 : Int32) (j19 : Int32) (j20 : Int32) (j34 : Int32) (j40 : Int32) (j44 : Int32) (j47 : Int32) (j50 : Int32) (j51 : Int32) (j61 : Int32) (c48 : Nat → Int32) (c57 : Nat → Int32) (un : Nat) (hun : un ≤ 40) : zz_M l G mX10_undo 0 0 0 [.ref (r 0)] [((r 0), .inr (10, (zz_mo r [(0, j0), (2, j2), (4, j4), (10, j10), (11, j11), (12, j12), (13, j13), (14, j14), (15, j15), (16, j16), (17, j17), (18, j18), (19, j19), (20, j20), (34, j34), (40, j40), (44, j44), (47, j47), (50, j50), (51, j51), (56, (nI un)), (61, j61)]))), ((r 48), .inl (G.2 0, 71, .inl c48)), ((r 57), .inl (G.2 0, 2840, .inl c57))] (fun rr u => ∃ (rv : Int32), ∃ (un2 : Nat), ∃ (d48 : Nat → Int32), rr = some (.int rv) ∧ u = [((r 0), .inr (10, (zz_mo r [(0, j0), (2, j2), (4, j4), (10, j10), (11, j11), (12, j12), (13, j13), (14, j14), (15, j15), (16, j16), (17, j17), (18, j18), (19, j19), (20, j20), (34, j34), (40, j40), (44, j44), (47, j47), (50, j50), (51, j51), (56, (nI un2)), (61, j61)]))), ((r 48), .inl (G.2 0, 71, .inl d48)), ((r 57), .inl (G.2 0, 2840, .inl c57))] ∧ (un2 ≤ 40) ∧ (zy_uR un c48 c57 rv un2 d48) ∧ (rv = 0 ∨ rv = 1)) := by
  refine zz_enteri (by decide +kernel) (Nat.le_of_ble_eq_true rfl) ?_
  intro p e s m args below meth c A Q ls S hnm hret hw hl
  have hl : lv_has ls 2 [(0, .ref (r 0))] := hl
  have hx := S.1
  have hb := S.2.1
  refine lv_aload_n hx hb dX10_undo_0 rfl (lv_at hl 0 rfl) ?_
  refine zz_get (v := .int (nI un)) S hw fgX10_254 0 rfl rfl dX10_undo_1 ?_
  refine lv_if_ne (tgt := 9) hx hb dX10_undo_4 (by decide) (fun c4_1 => ?_) (fun c4_1 => ?_)
  · skip
    have c4_1n : ¬ (un = 0) := fun z => c4_1 ((zz_eq (a := un) (b := 0) rfl rfl (by omega) (by omega)).mpr z)
    refine lv_aload_n hx hb dX10_undo_9 rfl (lv_at hl 0 rfl) ?_
    refine lv_dup hx hb dX10_undo_10 rfl ?_
    refine zz_get (v := .int (nI un)) S hw fgX10_254 0 rfl rfl dX10_undo_11 ?_
    refine lv_iconst (v := 1) hx hb dX10_undo_14 (by decide) ?_
    refine lv_isub hx hb dX10_undo_15 ?_
    refine zz_topi (y := (nI (un - 1))) (pk_sub (a := un) (b := 1) (by omega)) ?_
    refine zz_put (ws' := [((r 0), .inr (10, (zz_mo r [(0, j0), (2, j2), (4, j4), (10, j10), (11, j11), (12, j12), (13, j13), (14, j14), (15, j15), (16, j16), (17, j17), (18, j18), (19, j19), (20, j20), (34, j34), (40, j40), (44, j44), (47, j47), (50, j50), (51, j51), (56, (nI (un - 1))), (61, j61)]))), ((r 48), .inl (G.2 0, 71, .inl c48)), ((r 57), .inl (G.2 0, 2840, .inl c57))]) (v := .int (nI (un - 1))) S hw fpX10_254 0 rfl rfl rfl (Nat.le_of_ble_eq_true rfl) rfl dX10_undo_16 ?_
    clear hw
    intro H locs hw
    refine lv_iconst (v := 0) hx hb dX10_undo_19 (by decide) ?_
    refine lv_istore_n (lv' := [(1, .int 0), (0, .ref (r 0))]) hx hb dX10_undo_20 rfl hl (by decide) rfl (fun ls hl => ?_)
    have lp21_8 : ∀ (vn3 vi2 : Nat) (vF5 : Nat → Int32) (H : Heap) (locs : List Loc) (ls : Array Slot), vi2 ≤ 71 → 71 < vi2 + vn3 → zy_q vi2 (fun j => c57 (71 * (un - 1) + j)) vF5 → zz_w G A s [((r 0), .inr (10, (zz_mo r [(0, j0), (2, j2), (4, j4), (10, j10), (11, j11), (12, j12), (13, j13), (14, j14), (15, j15), (16, j16), (17, j17), (18, j18), (19, j19), (20, j20), (34, j34), (40, j40), (44, j44), (47, j47), (50, j50), (51, j51), (56, (nI (un - 1))), (61, j61)]))), ((r 48), .inl (G.2 0, 71, .inl vF5)), ((r 57), .inl (G.2 0, 2840, .inl c57))] H locs → lv_has ls 2 [(1, .int (nI vi2)), (0, .ref (r 0))] → W p l e (zz_rm 0 0 0) s m args below meth c H locs (0) (0) Q (F0 m 21 ls []) := by
      intro vn3
      induction vn3 with
      | zero => intro vi2 vF5 H locs ls hi1 hi2; exact absurd hi2 (by omega)
      | succ vn3 ih21 =>
        intro vi2 vF5 H locs ls hi21a hi21b hv21_7 hw hl
        refine lv_iload_n hx hb dX10_undo_21 rfl (lv_at hl 0 rfl) ?_
        refine lv_bipush (v := 71) hx hb dX10_undo_22 (by decide) ?_
        refine lv_icmp_ge (tgt := 53) hx hb dX10_undo_24 (by decide) (fun c24_9 => ?_) (fun c24_9 => ?_)
        · skip
          have c24_9n : 71 ≤ vi2 := (zz_le (a := 71) (b := vi2) rfl rfl (by omega) (by omega)).mp c24_9
          refine lv_iconst (v := 1) hx hb dX10_undo_53 (by decide) ?_
          exact hret _ _ _ _ _ _ ⟨1, (un - 1), vF5, rfl, rfl, (by omega), (by first | exact Or.inl ⟨by omega, rfl, by omega, rfl⟩ | exact Or.inr ⟨by omega, rfl, by omega, zy_qx hv21_7 (by omega) (by omega)⟩), (by first | exact Or.inl rfl | exact Or.inr rfl | assumption)⟩ hw rfl dX10_undo_54
        · skip
          have c24_9n : ¬ (71 ≤ vi2) := fun z => c24_9 ((zz_le (a := 71) (b := vi2) rfl rfl (by omega) (by omega)).mpr z)
          refine lv_aload_n hx hb dX10_undo_27 rfl (lv_at hl 1 rfl) ?_
          refine W.eq (g2 := F0 m 28 ls [.ref (r 0)]) rfl ?_
          refine zz_get (v := .ref (r 48)) S hw fgX10_110 0 rfl rfl dX10_undo_28 ?_
          refine lv_iload_n hx hb dX10_undo_31 rfl (lv_at hl 0 rfl) ?_
          refine lv_aload_n hx hb dX10_undo_32 rfl (lv_at hl 1 rfl) ?_
          refine zz_get (v := .ref (r 57)) S hw fgX10_128 0 rfl rfl dX10_undo_33 ?_
          refine lv_bipush (v := 71) hx hb dX10_undo_36 (by decide) ?_
          refine lv_aload_n hx hb dX10_undo_38 rfl (lv_at hl 1 rfl) ?_
          refine zz_get (v := .int (nI (un - 1))) S hw fgX10_254 0 rfl rfl dX10_undo_39 ?_
          refine lv_imul hx hb dX10_undo_42 ?_
          refine zz_topi (y := (nI (71 * (un - 1)))) (pk_mul _ _) ?_
          refine lv_iload_n hx hb dX10_undo_43 rfl (lv_at hl 0 rfl) ?_
          refine lv_iadd hx hb dX10_undo_44 ?_
          refine zz_topi (y := (nI ((71 * (un - 1)) + vi2))) (nI_add _ _) ?_
          refine zz_iald (v := (c57 ((71 * (un - 1)) + vi2))) S hw 2 rfl (vp_in_nI (n := ((71 * (un - 1)) + vi2)) (by omega) (by decide)) (congrArg c57 (nI_clamp (n := ((71 * (un - 1)) + vi2)) (by omega))) dX10_undo_45 ?_
          refine zz_iast (ws' := [((r 0), .inr (10, (zz_mo r [(0, j0), (2, j2), (4, j4), (10, j10), (11, j11), (12, j12), (13, j13), (14, j14), (15, j15), (16, j16), (17, j17), (18, j18), (19, j19), (20, j20), (34, j34), (40, j40), (44, j44), (47, j47), (50, j50), (51, j51), (56, (nI (un - 1))), (61, j61)]))), ((r 48), .inl (G.2 0, 71, .inl (upd vF5 vi2 (c57 ((71 * (un - 1)) + vi2))))), ((r 57), .inl (G.2 0, 2840, .inl c57))]) (g := (upd vF5 vi2 (c57 ((71 * (un - 1)) + vi2)))) S hw 1 rfl (vp_in_nI (n := vi2) (by omega) (by decide)) (zz_upn (n := vi2) (by omega)) rfl dX10_undo_46 ?_
          clear hw
          intro H locs hw
          refine lv_iinc (v := (nI (vi2 + 1))) (lv' := [(1, .int (nI (vi2 + 1))), (0, .ref (r 0))]) hx hb dX10_undo_47 hl (k := 0) rfl (nI_add _ 1) (by decide) rfl (fun ls hl => ?_)
          refine lv_goto (tgt := 21) hx hb dX10_undo_50 (by decide) ?_
          refine W.eq (g2 := F0 m 21 ls []) rfl ?_
          exact ih21 (vi2 + 1) (upd vF5 vi2 (c57 ((71 * (un - 1)) + vi2))) _ _ _ (by omega) (by omega) (zy_qs hv21_7 rfl) hw (lv_sub hl [0, 1] rfl)
    exact lp21_8 (71 + 1 - 0) 0 c48 _ _ _ (by omega) (by omega) zy_q0 hw (lv_sub hl [0, 1] rfl)
  · skip
    have c4_1n : un = 0 := (zz_eq (a := un) (b := 0) rfl rfl (by omega) (by omega)).mp c4_1
    refine lv_iconst (v := 0) hx hb dX10_undo_7 (by decide) ?_
    exact hret _ _ _ _ _ _ ⟨0, un, c48, rfl, rfl, (by omega), (by first | exact Or.inl ⟨by omega, rfl, by omega, rfl⟩ | exact Or.inr ⟨by omega, rfl, by omega, zy_qx hdry (by omega) (by omega)⟩), (by first | exact Or.inl rfl | exact Or.inr rfl | assumption)⟩ hw rfl dX10_undo_8
theorem kd_ncX10_empty : kd_ck 13671811863045868457187541628458 13 cX10_empty.data.toList 0 = true := by decide +kernel
theorem dX10_empty_0 : decode cX10_empty 0 = .ok (.aload_n 0, 1) := kd_dk0 kd_o42 kd_ncX10_empty rfl
theorem dX10_empty_1 : decode cX10_empty 1 = .ok (.invokevirtual 323, 3) := kd_dk2 kd_o182 kd_ncX10_empty rfl
theorem dX10_empty_4 : decode cX10_empty 4 = .ok (.aload_n 0, 1) := kd_dk0 kd_o42 kd_ncX10_empty rfl
theorem dX10_empty_5 : decode cX10_empty 5 = .ok (.invokevirtual 351, 3) := kd_dk2 kd_o182 kd_ncX10_empty rfl
theorem dX10_empty_8 : decode cX10_empty 8 = .ok (.aload_n 0, 1) := kd_dk0 kd_o42 kd_ncX10_empty rfl
theorem dX10_empty_9 : decode cX10_empty 9 = .ok (.invokevirtual 400, 3) := kd_dk2 kd_o182 kd_ncX10_empty rfl
theorem dX10_empty_12 : decode cX10_empty 12 = .ok (.ireturn, 1) := kd_dk0 kd_o172 kd_ncX10_empty rfl
set_option maxHeartbeats 8000000 in
set_option maxRecDepth 100000 in
theorem c_x_empty (l : Launch) (G : zz_G) (r : Nat → Nat) (j0 : Int32) (j2 : Int32) (j4 : Int32) (j10 : Int32) (j11 : Int32) (j12 : Int32) (j13 : Int32) (j14 : Int32) (j15 : Int32) (j16 : Int32) (j17 : Int32) (j19 : Int32) (j20 : Int32) (j34 : Int32) (j40 : Int32) (j44 : Int32) (j47 : Int32) (j50 : Int32) (j51 : Int32) (j56 : Int32) (j61 : Int32) (lv : Nat) (pp : Nat) (pq : Nat) (c22 : Nat → Int32) (c24 : Nat → Int32) (c25 : Nat → Int32) (c26 : Nat → Int32) (c28 : Nat → Int32) (c29 : Nat → Int32) (c30 : Nat → Int32) (c31 : Nat → Int32) (c32 : Nat → Int32) (c33 : Nat → Int32) (c35 : Nat → Int32) (c36 : Nat → Int32) (c37 : Nat → Int32) (c38 : Nat → Int32) (c39 : Nat → Int32) (c41 : Nat → Int32) (c42 : Nat → Int32) (c45 : Nat → Int32) (c46 : Nat → Int32) (c48 : Nat → Int32) (c49 : Nat → Int32) (c52 : Nat → Int32) (hlv : lv ≤ 1) (hpe : c22 lv = nI pp) (hpp : pp ≤ 7) (hpa : c26 lv = nI pq) (hpq : pq ≤ 6) (hlw : zz_LW 2 0 0 c32 c33 c35 c36 c37 c38 c39 c41 c42) (hca : ∀ j, j < 6 → zz_ok 7 (c52 j)) : zz_M l G mX10_empty 5 0 0 [.ref (r 0)] [((r 0), .inr (10, (zz_mo r [(0, j0), (2, j2), (4, j4), (10, j10), (11, j11), (12, j12), (13, j13), (14, j14), (15, j15), (16, j16), (17, j17), (18, (nI lv)), (19, j19), (20, j20), (34, j34), (40, j40), (44, j44), (47, j47), (50, j50), (51, j51), (56, j56), (61, j61)]))), ((r 22), .inl (G.2 0, 2, .inl c22)), ((r 24), .inl (G.2 0, 14, .inl c24)), ((r 25), .inl (G.2 0, 14, .inl c25)), ((r 26), .inl (G.2 0, 2, .inl c26)), ((r 28), .inl (G.2 0, 12, .inl c28)), ((r 29), .inl (G.2 0, 12, .inl c29)), ((r 30), .inl (G.2 0, 2, .inl c30)), ((r 31), .inl (G.2 0, 2, .inl c31)), ((r 32), .inl (G.2 0, 8, .inl c32)), ((r 33), .inl (G.2 0, 8, .inl c33)), ((r 35), .inl (G.2 2, 260, .inl c35)), ((r 36), .inl (G.2 0, 260, .inl c36)), ((r 37), .inl (G.2 0, 260, .inl c37)), ((r 38), .inl (G.2 0, 260, .inl c38)), ((r 39), .inl (G.2 0, 260, .inl c39)), ((r 41), .inl (G.2 0, 840, .inl c41)), ((r 42), .inl (G.2 0, 840, .inl c42)), ((r 45), .inl (G.2 0, 9, .inl c45)), ((r 46), .inl (G.2 0, 400, .inl c46)), ((r 48), .inl (G.2 0, 71, .inl c48)), ((r 49), .inl (G.2 0, 71, .inl c49)), ((r 52), .inl (G.2 0, 6, .inl c52))] (fun rr u => ∃ (rv : Int32), ∃ (k47 : Int32), ∃ (k50 : Int32), ∃ (k51 : Int32), ∃ (d45 : Nat → Int32), ∃ (d46 : Nat → Int32), ∃ (d49 : Nat → Int32), ∃ (d52 : Nat → Int32), rr = some (.int rv) ∧ u = [((r 0), .inr (10, (zz_mo r [(0, j0), (2, j2), (4, j4), (10, j10), (11, j11), (12, j12), (13, j13), (14, j14), (15, j15), (16, j16), (17, j17), (18, (nI lv)), (19, j19), (20, j20), (34, j34), (40, j40), (44, j44), (47, k47), (50, k50), (51, k51), (56, j56), (61, j61)]))), ((r 22), .inl (G.2 0, 2, .inl c22)), ((r 24), .inl (G.2 0, 14, .inl c24)), ((r 25), .inl (G.2 0, 14, .inl c25)), ((r 26), .inl (G.2 0, 2, .inl c26)), ((r 28), .inl (G.2 0, 12, .inl c28)), ((r 29), .inl (G.2 0, 12, .inl c29)), ((r 30), .inl (G.2 0, 2, .inl c30)), ((r 31), .inl (G.2 0, 2, .inl c31)), ((r 32), .inl (G.2 0, 8, .inl c32)), ((r 33), .inl (G.2 0, 8, .inl c33)), ((r 35), .inl (G.2 2, 260, .inl c35)), ((r 36), .inl (G.2 0, 260, .inl c36)), ((r 37), .inl (G.2 0, 260, .inl c37)), ((r 38), .inl (G.2 0, 260, .inl c38)), ((r 39), .inl (G.2 0, 260, .inl c39)), ((r 41), .inl (G.2 0, 840, .inl c41)), ((r 42), .inl (G.2 0, 840, .inl c42)), ((r 45), .inl (G.2 0, 9, .inl d45)), ((r 46), .inl (G.2 0, 400, .inl d46)), ((r 48), .inl (G.2 0, 71, .inl c48)), ((r 49), .inl (G.2 0, 71, .inl d49)), ((r 52), .inl (G.2 0, 6, .inl d52))] ∧ (∃ τ C, zy_q 71 c48 τ ∧ zr_FX (zr_HD lv c32 c33 c35 c36 c37 c38 c39 c41 c42 (c30 lv)) (fun Λ => zr_Sx 99 lv τ c24 c28 c25 c29 (Λ 0)) (fun a => τ (14 + a) = 1) (c30 lv) pp pq C ∧ rv = zO (fun p => C p < 0) pq) ∧ (∀ j, j < 6 → zz_ok 7 (d52 j))) := by
  refine zz_enteri (by decide +kernel) (Nat.le_of_ble_eq_true rfl) ?_
  intro p e s m args below meth c A Q ls S hnm hret hw hl
  have hl : lv_has ls 1 [(0, .ref (r 0))] := hl
  have hx := S.1
  have hb := S.2.1
  refine lv_aload_n hx hb dX10_empty_0 rfl (lv_at hl 0 rfl) ?_
  refine zz_callV (qb := 0) (As := []) (rest := []) (wr := [((r 22), .inl (G.2 0, 2, .inl c22)), ((r 24), .inl (G.2 0, 14, .inl c24)), ((r 25), .inl (G.2 0, 14, .inl c25)), ((r 26), .inl (G.2 0, 2, .inl c26)), ((r 28), .inl (G.2 0, 12, .inl c28)), ((r 29), .inl (G.2 0, 12, .inl c29)), ((r 30), .inl (G.2 0, 2, .inl c30)), ((r 32), .inl (G.2 0, 8, .inl c32)), ((r 33), .inl (G.2 0, 8, .inl c33)), ((r 35), .inl (G.2 2, 260, .inl c35)), ((r 36), .inl (G.2 0, 260, .inl c36)), ((r 37), .inl (G.2 0, 260, .inl c37)), ((r 38), .inl (G.2 0, 260, .inl c38)), ((r 39), .inl (G.2 0, 260, .inl c39)), ((r 41), .inl (G.2 0, 840, .inl c41)), ((r 42), .inl (G.2 0, 840, .inl c42)), ((r 45), .inl (G.2 0, 9, .inl c45)), ((r 46), .inl (G.2 0, 400, .inl c46)), ((r 52), .inl (G.2 0, 6, .inl c52))]) S hw hl.1 lX10_323 (c_x_copies l G r j0 j2 j4 j10 j11 j12 j13 j14 j15 j16 j17 j19 j20 j34 j40 j44 j47 j50 j51 j56 j61 lv c31 c48 c49 (by first | assumption | omega | exact Or.inr ⟨_, by omega, rfl⟩ | (unfold zz_sok; decide) | decide | exact (fun j hj => (hv7 j hj).1))) ⟨Nat.le_of_ble_eq_true rfl, Nat.le_of_ble_eq_true rfl⟩ ⟨Nat.le_of_ble_eq_true rfl, Nat.le_of_ble_eq_true rfl⟩ [0, 8, 20, 21] [1, 2, 3, 4, 5, 6, 7, 9, 10, 11, 12, 13, 14, 15, 16, 17, 18, 19, 22] (by decide +kernel) rfl rfl (by decide +kernel) (by decide +kernel) rfl rfl rfl rfl (Nat.le_of_ble_eq_true rfl) dX10_empty_1 ?_
  clear hw
  intro rr u H locs hp hw
  refine hp.elim fun k50_1 zg0 => zg0.elim fun k51_2 zg1 => zg1.elim fun d49_3 zg2 => zg2.elim fun zee1 zg3 => zg3.elim fun zee2 zg4 => zg4.elim fun hq1_0 zg5 => zg5.elim fun hq1_1 hq1_2 => ?_
  clear hp zg0 zg1 zg2 zg3 zg4 zg5
  subst zee1
  subst zee2
  replace hw : zz_w G A s [((r 22), .inl (G.2 0, 2, .inl c22)), ((r 24), .inl (G.2 0, 14, .inl c24)), ((r 25), .inl (G.2 0, 14, .inl c25)), ((r 26), .inl (G.2 0, 2, .inl c26)), ((r 28), .inl (G.2 0, 12, .inl c28)), ((r 29), .inl (G.2 0, 12, .inl c29)), ((r 30), .inl (G.2 0, 2, .inl c30)), ((r 32), .inl (G.2 0, 8, .inl c32)), ((r 33), .inl (G.2 0, 8, .inl c33)), ((r 35), .inl (G.2 2, 260, .inl c35)), ((r 36), .inl (G.2 0, 260, .inl c36)), ((r 37), .inl (G.2 0, 260, .inl c37)), ((r 38), .inl (G.2 0, 260, .inl c38)), ((r 39), .inl (G.2 0, 260, .inl c39)), ((r 41), .inl (G.2 0, 840, .inl c41)), ((r 42), .inl (G.2 0, 840, .inl c42)), ((r 45), .inl (G.2 0, 9, .inl c45)), ((r 46), .inl (G.2 0, 400, .inl c46)), ((r 52), .inl (G.2 0, 6, .inl c52)), ((r 0), .inr (10, (zz_mo r [(0, j0), (2, j2), (4, j4), (10, j10), (11, j11), (12, j12), (13, j13), (14, j14), (15, j15), (16, j16), (17, j17), (18, (nI lv)), (19, j19), (20, j20), (34, j34), (40, j40), (44, j44), (47, j47), (50, k50_1), (51, k51_2), (56, j56), (61, j61)]))), ((r 31), .inl (G.2 0, 2, .inl c31)), ((r 48), .inl (G.2 0, 71, .inl c48)), ((r 49), .inl (G.2 0, 71, .inl d49_3))] H _ := hw
  refine W.eq (g2 := F0 m 4 ls []) rfl ?_
  refine lv_aload_n hx hb dX10_empty_4 rfl (lv_at hl 0 rfl) ?_
  refine zz_callV (qb := 19) (As := []) (rest := []) (wr := [((r 31), .inl (G.2 0, 2, .inl c31)), ((r 48), .inl (G.2 0, 71, .inl c48))]) S hw hl.1 lX10_351 (c_x_casts l G r j0 j2 j4 j10 j11 j12 j13 j14 j15 j16 j17 j19 j20 j34 j40 j44 j47 k50_1 k51_2 j56 j61 lv pp pq c22 c24 c25 c26 c28 c29 c30 c32 c33 c35 c36 c37 c38 c39 c41 c42 c45 c46 d49_3 c52 (by first | assumption | omega | exact Or.inr ⟨_, by omega, rfl⟩ | (unfold zz_sok; decide) | decide | exact (fun j hj => (hv7 j hj).1)) (by first | assumption | omega | exact Or.inr ⟨_, by omega, rfl⟩ | (unfold zz_sok; decide) | decide | exact (fun j hj => (hv7 j hj).1)) (by first | assumption | omega | exact Or.inr ⟨_, by omega, rfl⟩ | (unfold zz_sok; decide) | decide | exact (fun j hj => (hv7 j hj).1)) (by first | assumption | omega | exact Or.inr ⟨_, by omega, rfl⟩ | (unfold zz_sok; decide) | decide | exact (fun j hj => (hv7 j hj).1)) (by first | assumption | omega | exact Or.inr ⟨_, by omega, rfl⟩ | (unfold zz_sok; decide) | decide | exact (fun j hj => (hv7 j hj).1)) (by first | assumption | omega | exact Or.inr ⟨_, by omega, rfl⟩ | (unfold zz_sok; decide) | decide | exact (fun j hj => (hv7 j hj).1)) (by first | assumption | omega | exact Or.inr ⟨_, by omega, rfl⟩ | (unfold zz_sok; decide) | decide | exact (fun j hj => (hv7 j hj).1))) ⟨Nat.le_of_ble_eq_true rfl, Nat.le_of_ble_eq_true rfl⟩ ⟨Nat.le_of_ble_eq_true rfl, Nat.le_of_ble_eq_true rfl⟩ [19, 0, 1, 2, 3, 4, 5, 6, 7, 8, 9, 10, 11, 12, 13, 14, 15, 16, 17, 22, 18] [20, 21] (by decide +kernel) rfl rfl (by decide +kernel) (by decide +kernel) rfl rfl rfl rfl (Nat.le_of_ble_eq_true rfl) dX10_empty_5 ?_
  clear hw
  intro rr u H locs hp hw
  refine hp.elim fun k47_4 zg0 => zg0.elim fun d45_5 zg1 => zg1.elim fun d46_6 zg2 => zg2.elim fun d52_7 zg3 => zg3.elim fun zee1 zg4 => zg4.elim fun zee2 zg5 => zg5.elim fun hq5_0 hq5_1 => ?_
  clear hp zg0 zg1 zg2 zg3 zg4 zg5
  subst zee1
  subst zee2
  replace hw : zz_w G A s [((r 31), .inl (G.2 0, 2, .inl c31)), ((r 48), .inl (G.2 0, 71, .inl c48)), ((r 0), .inr (10, (zz_mo r [(0, j0), (2, j2), (4, j4), (10, j10), (11, j11), (12, j12), (13, j13), (14, j14), (15, j15), (16, j16), (17, j17), (18, (nI lv)), (19, j19), (20, j20), (34, j34), (40, j40), (44, j44), (47, k47_4), (50, k50_1), (51, k51_2), (56, j56), (61, j61)]))), ((r 22), .inl (G.2 0, 2, .inl c22)), ((r 24), .inl (G.2 0, 14, .inl c24)), ((r 25), .inl (G.2 0, 14, .inl c25)), ((r 26), .inl (G.2 0, 2, .inl c26)), ((r 28), .inl (G.2 0, 12, .inl c28)), ((r 29), .inl (G.2 0, 12, .inl c29)), ((r 30), .inl (G.2 0, 2, .inl c30)), ((r 32), .inl (G.2 0, 8, .inl c32)), ((r 33), .inl (G.2 0, 8, .inl c33)), ((r 35), .inl (G.2 2, 260, .inl c35)), ((r 36), .inl (G.2 0, 260, .inl c36)), ((r 37), .inl (G.2 0, 260, .inl c37)), ((r 38), .inl (G.2 0, 260, .inl c38)), ((r 39), .inl (G.2 0, 260, .inl c39)), ((r 41), .inl (G.2 0, 840, .inl c41)), ((r 42), .inl (G.2 0, 840, .inl c42)), ((r 45), .inl (G.2 0, 9, .inl d45_5)), ((r 46), .inl (G.2 0, 400, .inl d46_6)), ((r 49), .inl (G.2 0, 71, .inl d49_3)), ((r 52), .inl (G.2 0, 6, .inl d52_7))] H _ := hw
  refine W.eq (g2 := F0 m 8 ls []) rfl ?_
  refine lv_aload_n hx hb dX10_empty_8 rfl (lv_at hl 0 rfl) ?_
  refine zz_callV (qb := 2) (As := []) (rest := []) (wr := [((r 31), .inl (G.2 0, 2, .inl c31)), ((r 48), .inl (G.2 0, 71, .inl c48)), ((r 22), .inl (G.2 0, 2, .inl c22)), ((r 24), .inl (G.2 0, 14, .inl c24)), ((r 25), .inl (G.2 0, 14, .inl c25)), ((r 28), .inl (G.2 0, 12, .inl c28)), ((r 29), .inl (G.2 0, 12, .inl c29)), ((r 30), .inl (G.2 0, 2, .inl c30)), ((r 32), .inl (G.2 0, 8, .inl c32)), ((r 33), .inl (G.2 0, 8, .inl c33)), ((r 35), .inl (G.2 2, 260, .inl c35)), ((r 36), .inl (G.2 0, 260, .inl c36)), ((r 37), .inl (G.2 0, 260, .inl c37)), ((r 38), .inl (G.2 0, 260, .inl c38)), ((r 39), .inl (G.2 0, 260, .inl c39)), ((r 41), .inl (G.2 0, 840, .inl c41)), ((r 42), .inl (G.2 0, 840, .inl c42)), ((r 45), .inl (G.2 0, 9, .inl d45_5)), ((r 46), .inl (G.2 0, 400, .inl d46_6)), ((r 49), .inl (G.2 0, 71, .inl d49_3))]) S hw hl.1 lX10_400 (c_x_emptyBits l G r j0 j2 j4 j10 j11 j12 j13 j14 j15 j16 j17 j19 j20 j34 j40 j44 k47_4 k50_1 k51_2 j56 j61 lv pq c26 d52_7 (by first | assumption | omega | exact Or.inr ⟨_, by omega, rfl⟩ | (unfold zz_sok; decide) | decide | exact (fun j hj => (hv7 j hj).1)) (by first | assumption | omega | exact Or.inr ⟨_, by omega, rfl⟩ | (unfold zz_sok; decide) | decide | exact (fun j hj => (hv7 j hj).1)) (by first | assumption | omega | exact Or.inr ⟨_, by omega, rfl⟩ | (unfold zz_sok; decide) | decide | exact (fun j hj => (hv7 j hj).1)) (by first | assumption | omega | exact Or.inr ⟨_, by omega, rfl⟩ | (unfold zz_sok; decide) | decide | exact (fun j hj => (hv7 j hj).1))) ⟨Nat.le_of_ble_eq_true rfl, Nat.le_of_ble_eq_true rfl⟩ ⟨Nat.le_of_ble_eq_true rfl, Nat.le_of_ble_eq_true rfl⟩ [2, 6, 22] [0, 1, 3, 4, 5, 7, 8, 9, 10, 11, 12, 13, 14, 15, 16, 17, 18, 19, 20, 21] (by decide +kernel) rfl rfl (by decide +kernel) (by decide +kernel) rfl rfl rfl rfl (Nat.le_of_ble_eq_true rfl) dX10_empty_9 ?_
  clear hw
  intro rr u H locs hp hw
  refine hp.elim fun rv_8 zg0 => zg0.elim fun zee1 zg1 => zg1.elim fun zee2 hq9_0 => ?_
  clear hp zg0 zg1
  subst zee1
  subst zee2
  replace hw : zz_w G A s [((r 31), .inl (G.2 0, 2, .inl c31)), ((r 48), .inl (G.2 0, 71, .inl c48)), ((r 22), .inl (G.2 0, 2, .inl c22)), ((r 24), .inl (G.2 0, 14, .inl c24)), ((r 25), .inl (G.2 0, 14, .inl c25)), ((r 28), .inl (G.2 0, 12, .inl c28)), ((r 29), .inl (G.2 0, 12, .inl c29)), ((r 30), .inl (G.2 0, 2, .inl c30)), ((r 32), .inl (G.2 0, 8, .inl c32)), ((r 33), .inl (G.2 0, 8, .inl c33)), ((r 35), .inl (G.2 2, 260, .inl c35)), ((r 36), .inl (G.2 0, 260, .inl c36)), ((r 37), .inl (G.2 0, 260, .inl c37)), ((r 38), .inl (G.2 0, 260, .inl c38)), ((r 39), .inl (G.2 0, 260, .inl c39)), ((r 41), .inl (G.2 0, 840, .inl c41)), ((r 42), .inl (G.2 0, 840, .inl c42)), ((r 45), .inl (G.2 0, 9, .inl d45_5)), ((r 46), .inl (G.2 0, 400, .inl d46_6)), ((r 49), .inl (G.2 0, 71, .inl d49_3)), ((r 0), .inr (10, (zz_mo r [(0, j0), (2, j2), (4, j4), (10, j10), (11, j11), (12, j12), (13, j13), (14, j14), (15, j15), (16, j16), (17, j17), (18, (nI lv)), (19, j19), (20, j20), (34, j34), (40, j40), (44, j44), (47, k47_4), (50, k50_1), (51, k51_2), (56, j56), (61, j61)]))), ((r 26), .inl (G.2 0, 2, .inl c26)), ((r 52), .inl (G.2 0, 6, .inl d52_7))] H _ := hw
  refine W.eq (g2 := F0 m 12 ls [.int rv_8]) rfl ?_
  exact hret _ _ _ _ _ _ ⟨rv_8, k47_4, k50_1, k51_2, d45_5, d46_6, d49_3, d52_7, rfl, rfl, ⟨_, _, hq1_0, hq5_0, hq9_0⟩, (by first | assumption | exact Or.inl rfl | exact Or.inr rfl | omega | exact Or.inr (by assumption) | exact zz_oku (by assumption) (by first | exact Or.inl rfl | exact Or.inr ⟨_, by omega, rfl⟩))⟩ (hw.sub [20, 2, 3, 4, 21, 5, 6, 7, 0, 8, 9, 10, 11, 12, 13, 14, 15, 16, 17, 18, 1, 19, 22] (by decide +kernel) rfl) rfl dX10_empty_12
theorem kd_ncX10_fillsStands : kd_ck 891459567196751754019219579034058685077622260546497678250449962834439232425654491250933972673340963026442856456585998620803885998606756410391654219884504340999260037839560347902213910320539665582357531964970 86 cX10_fillsStands.data.toList 0 = true := by decide +kernel
theorem dX10_fillsStands_0 : decode cX10_fillsStands 0 = .ok (.aload_n 0, 1) := kd_dk0 kd_o42 kd_ncX10_fillsStands rfl
theorem dX10_fillsStands_1 : decode cX10_fillsStands 1 = .ok (.invokevirtual 323, 3) := kd_dk2 kd_o182 kd_ncX10_fillsStands rfl
theorem dX10_fillsStands_4 : decode cX10_fillsStands 4 = .ok (.iconst 0, 1) := kd_dk0 kd_o3 kd_ncX10_fillsStands rfl
theorem dX10_fillsStands_5 : decode cX10_fillsStands 5 = .ok (.istore_n 2, 1) := kd_dk0 kd_o61 kd_ncX10_fillsStands rfl
theorem dX10_fillsStands_6 : decode cX10_fillsStands 6 = .ok (.iload_n 2, 1) := kd_dk0 kd_o28 kd_ncX10_fillsStands rfl
theorem dX10_fillsStands_7 : decode cX10_fillsStands 7 = .ok (.aload_n 0, 1) := kd_dk0 kd_o42 kd_ncX10_fillsStands rfl
theorem dX10_fillsStands_8 : decode cX10_fillsStands 8 = .ok (.getfield 43, 3) := kd_dk2 kd_o180 kd_ncX10_fillsStands rfl
theorem dX10_fillsStands_11 : decode cX10_fillsStands 11 = .ok (.aload_n 0, 1) := kd_dk0 kd_o42 kd_ncX10_fillsStands rfl
theorem dX10_fillsStands_12 : decode cX10_fillsStands 12 = .ok (.getfield 236, 3) := kd_dk2 kd_o180 kd_ncX10_fillsStands rfl
theorem dX10_fillsStands_15 : decode cX10_fillsStands 15 = .ok (.iaload, 1) := kd_dk0 kd_o46 kd_ncX10_fillsStands rfl
theorem dX10_fillsStands_16 : decode cX10_fillsStands 16 = .ok (.if_icmp .ge 69, 3) := kd_dj2 kd_o162 (w := 69) kd_ncX10_fillsStands rfl rfl
theorem dX10_fillsStands_19 : decode cX10_fillsStands 19 = .ok (.iconst 0, 1) := kd_dk0 kd_o3 kd_ncX10_fillsStands rfl
theorem dX10_fillsStands_20 : decode cX10_fillsStands 20 = .ok (.istore_n 3, 1) := kd_dk0 kd_o62 kd_ncX10_fillsStands rfl
theorem dX10_fillsStands_21 : decode cX10_fillsStands 21 = .ok (.iload_n 3, 1) := kd_dk0 kd_o29 kd_ncX10_fillsStands rfl
theorem dX10_fillsStands_22 : decode cX10_fillsStands 22 = .ok (.aload_n 0, 1) := kd_dk0 kd_o42 kd_ncX10_fillsStands rfl
theorem dX10_fillsStands_23 : decode cX10_fillsStands 23 = .ok (.getfield 55, 3) := kd_dk2 kd_o180 kd_ncX10_fillsStands rfl
theorem dX10_fillsStands_26 : decode cX10_fillsStands 26 = .ok (.aload_n 0, 1) := kd_dk0 kd_o42 kd_ncX10_fillsStands rfl
theorem dX10_fillsStands_27 : decode cX10_fillsStands 27 = .ok (.getfield 236, 3) := kd_dk2 kd_o180 kd_ncX10_fillsStands rfl
theorem dX10_fillsStands_30 : decode cX10_fillsStands 30 = .ok (.iaload, 1) := kd_dk0 kd_o46 kd_ncX10_fillsStands rfl
theorem dX10_fillsStands_31 : decode cX10_fillsStands 31 = .ok (.if_icmp .ge 48, 3) := kd_dj2 kd_o162 (w := 48) kd_ncX10_fillsStands rfl rfl
theorem dX10_fillsStands_34 : decode cX10_fillsStands 34 = .ok (.aload_n 0, 1) := kd_dk0 kd_o42 kd_ncX10_fillsStands rfl
theorem dX10_fillsStands_35 : decode cX10_fillsStands 35 = .ok (.iload_n 2, 1) := kd_dk0 kd_o28 kd_ncX10_fillsStands rfl
theorem dX10_fillsStands_36 : decode cX10_fillsStands 36 = .ok (.iload_n 3, 1) := kd_dk0 kd_o29 kd_ncX10_fillsStands rfl
theorem dX10_fillsStands_37 : decode cX10_fillsStands 37 = .ok (.invokevirtual 348, 3) := kd_dk2 kd_o182 kd_ncX10_fillsStands rfl
theorem dX10_fillsStands_40 : decode cX10_fillsStands 40 = .ok (.istore 4, 2) := kd_dk1 kd_o54 kd_ncX10_fillsStands rfl
theorem dX10_fillsStands_42 : decode cX10_fillsStands 42 = .ok (.aload_n 0, 1) := kd_dk0 kd_o42 kd_ncX10_fillsStands rfl
theorem dX10_fillsStands_43 : decode cX10_fillsStands 43 = .ok (.getfield 131, 3) := kd_dk2 kd_o180 kd_ncX10_fillsStands rfl
theorem dX10_fillsStands_46 : decode cX10_fillsStands 46 = .ok (.bipush 6, 2) := kd_dj1 kd_o16 (w := 6) kd_ncX10_fillsStands rfl rfl
theorem dX10_fillsStands_48 : decode cX10_fillsStands 48 = .ok (.iload_n 2, 1) := kd_dk0 kd_o28 kd_ncX10_fillsStands rfl
theorem dX10_fillsStands_49 : decode cX10_fillsStands 49 = .ok (.imul, 1) := kd_dk0 kd_o104 kd_ncX10_fillsStands rfl
theorem dX10_fillsStands_50 : decode cX10_fillsStands 50 = .ok (.iload_n 3, 1) := kd_dk0 kd_o29 kd_ncX10_fillsStands rfl
theorem dX10_fillsStands_51 : decode cX10_fillsStands 51 = .ok (.iadd, 1) := kd_dk0 kd_o96 kd_ncX10_fillsStands rfl
theorem dX10_fillsStands_52 : decode cX10_fillsStands 52 = .ok (.aload_n 0, 1) := kd_dk0 kd_o42 kd_ncX10_fillsStands rfl
theorem dX10_fillsStands_53 : decode cX10_fillsStands 53 = .ok (.iload_n 2, 1) := kd_dk0 kd_o28 kd_ncX10_fillsStands rfl
theorem dX10_fillsStands_54 : decode cX10_fillsStands 54 = .ok (.invokevirtual 345, 3) := kd_dk2 kd_o182 kd_ncX10_fillsStands rfl
theorem dX10_fillsStands_57 : decode cX10_fillsStands 57 = .ok (.ifCond .ne 9, 3) := kd_dj2 kd_o154 (w := 9) kd_ncX10_fillsStands rfl rfl
theorem dX10_fillsStands_60 : decode cX10_fillsStands 60 = .ok (.iload 4, 2) := kd_dk1 kd_o21 kd_ncX10_fillsStands rfl
theorem dX10_fillsStands_62 : decode cX10_fillsStands 62 = .ok (.iload_n 1, 1) := kd_dk0 kd_o27 kd_ncX10_fillsStands rfl
theorem dX10_fillsStands_63 : decode cX10_fillsStands 63 = .ok (.if_icmp .ge 7, 3) := kd_dj2 kd_o162 (w := 7) kd_ncX10_fillsStands rfl rfl
theorem dX10_fillsStands_66 : decode cX10_fillsStands 66 = .ok (.iconst (-1), 1) := kd_dk0 kd_o2 kd_ncX10_fillsStands rfl
theorem dX10_fillsStands_67 : decode cX10_fillsStands 67 = .ok (.goto 5, 3) := kd_dj2 kd_o167 (w := 5) kd_ncX10_fillsStands rfl rfl
theorem dX10_fillsStands_70 : decode cX10_fillsStands 70 = .ok (.iload 4, 2) := kd_dk1 kd_o21 kd_ncX10_fillsStands rfl
theorem dX10_fillsStands_72 : decode cX10_fillsStands 72 = .ok (.iastore, 1) := kd_dk0 kd_o79 kd_ncX10_fillsStands rfl
theorem dX10_fillsStands_73 : decode cX10_fillsStands 73 = .ok (.iinc 3 1, 3) := kd_dji kd_o132 (w := 1) kd_ncX10_fillsStands rfl rfl
theorem dX10_fillsStands_76 : decode cX10_fillsStands 76 = .ok (.goto (-55), 3) := kd_dj2 kd_o167 (w := 65481) kd_ncX10_fillsStands rfl rfl
theorem dX10_fillsStands_79 : decode cX10_fillsStands 79 = .ok (.iinc 2 1, 3) := kd_dji kd_o132 (w := 1) kd_ncX10_fillsStands rfl rfl
theorem dX10_fillsStands_82 : decode cX10_fillsStands 82 = .ok (.goto (-76), 3) := kd_dj2 kd_o167 (w := 65460) kd_ncX10_fillsStands rfl rfl
theorem dX10_fillsStands_85 : decode cX10_fillsStands 85 = .ok (.return_, 1) := kd_dk0 kd_o177 kd_ncX10_fillsStands rfl
set_option maxHeartbeats 8000000 in
set_option maxRecDepth 100000 in
theorem c_x_fillsStands (l : Launch) (G : zz_G) (r : Nat → Nat) (j0 : Int32) (j2 : Int32) (j4 : Int32) (j10 : Int32) (j11 : Int32) (j12 : Int32) (j13 : Int32) (j14 : Int32) (j15 : Int32) (j16 : Int32) (j17 : Int32) (j19 : Int32) (j20 : Int32) (j34 : Int32) (j40 : Int32) (j44 : Int32) (j47 : Int32) (j50 : Int32) (j51 : Int32) (j56 : Int32) (j61 : Int32) (lv : Nat) (pp : Nat) (pq : Nat) (c22 : Nat → Int32) (c24 : Nat → Int32) (c25 : Nat → Int32) (c26 : Nat → Int32) (c28 : Nat → Int32) (c29 : Nat → Int32) (c30 : Nat → Int32) (c31 : Nat → Int32) (c32 : Nat → Int32) (c33 : Nat → Int32) (c35 : Nat → Int32) (c36 : Nat → Int32) (c37 : Nat → Int32) (c38 : Nat → Int32) (c39 : Nat → Int32) (c41 : Nat → Int32) (c42 : Nat → Int32) (c45 : Nat → Int32) (c46 : Nat → Int32) (c48 : Nat → Int32) (c49 : Nat → Int32) (c58 : Nat → Int32) (ar1 : Int32) (hlv : lv ≤ 1) (hpe : c22 lv = nI pp) (hpp : pp ≤ 7) (hpa : c26 lv = nI pq) (hpq : pq ≤ 6) (hlw : zz_LW 2 0 0 c32 c33 c35 c36 c37 c38 c39 c41 c42) : zz_M l G mX10_fillsStands 4 0 0 [.ref (r 0), .int ar1] [((r 0), .inr (10, (zz_mo r [(0, j0), (2, j2), (4, j4), (10, j10), (11, j11), (12, j12), (13, j13), (14, j14), (15, j15), (16, j16), (17, j17), (18, (nI lv)), (19, j19), (20, j20), (34, j34), (40, j40), (44, j44), (47, j47), (50, j50), (51, j51), (56, j56), (61, j61)]))), ((r 22), .inl (G.2 0, 2, .inl c22)), ((r 24), .inl (G.2 0, 14, .inl c24)), ((r 25), .inl (G.2 0, 14, .inl c25)), ((r 26), .inl (G.2 0, 2, .inl c26)), ((r 28), .inl (G.2 0, 12, .inl c28)), ((r 29), .inl (G.2 0, 12, .inl c29)), ((r 30), .inl (G.2 0, 2, .inl c30)), ((r 31), .inl (G.2 0, 2, .inl c31)), ((r 32), .inl (G.2 0, 8, .inl c32)), ((r 33), .inl (G.2 0, 8, .inl c33)), ((r 35), .inl (G.2 2, 260, .inl c35)), ((r 36), .inl (G.2 0, 260, .inl c36)), ((r 37), .inl (G.2 0, 260, .inl c37)), ((r 38), .inl (G.2 0, 260, .inl c38)), ((r 39), .inl (G.2 0, 260, .inl c39)), ((r 41), .inl (G.2 0, 840, .inl c41)), ((r 42), .inl (G.2 0, 840, .inl c42)), ((r 45), .inl (G.2 0, 9, .inl c45)), ((r 46), .inl (G.2 0, 400, .inl c46)), ((r 48), .inl (G.2 0, 71, .inl c48)), ((r 49), .inl (G.2 0, 71, .inl c49)), ((r 58), .inl (G.2 0, 42, .inl c58))] (fun rr u => ∃ (k47 : Int32), ∃ (k50 : Int32), ∃ (k51 : Int32), ∃ (d45 : Nat → Int32), ∃ (d46 : Nat → Int32), ∃ (d49 : Nat → Int32), ∃ (d58 : Nat → Int32), rr = none ∧ u = [((r 0), .inr (10, (zz_mo r [(0, j0), (2, j2), (4, j4), (10, j10), (11, j11), (12, j12), (13, j13), (14, j14), (15, j15), (16, j16), (17, j17), (18, (nI lv)), (19, j19), (20, j20), (34, j34), (40, j40), (44, j44), (47, k47), (50, k50), (51, k51), (56, j56), (61, j61)]))), ((r 22), .inl (G.2 0, 2, .inl c22)), ((r 24), .inl (G.2 0, 14, .inl c24)), ((r 25), .inl (G.2 0, 14, .inl c25)), ((r 26), .inl (G.2 0, 2, .inl c26)), ((r 28), .inl (G.2 0, 12, .inl c28)), ((r 29), .inl (G.2 0, 12, .inl c29)), ((r 30), .inl (G.2 0, 2, .inl c30)), ((r 31), .inl (G.2 0, 2, .inl c31)), ((r 32), .inl (G.2 0, 8, .inl c32)), ((r 33), .inl (G.2 0, 8, .inl c33)), ((r 35), .inl (G.2 2, 260, .inl c35)), ((r 36), .inl (G.2 0, 260, .inl c36)), ((r 37), .inl (G.2 0, 260, .inl c37)), ((r 38), .inl (G.2 0, 260, .inl c38)), ((r 39), .inl (G.2 0, 260, .inl c39)), ((r 41), .inl (G.2 0, 840, .inl c41)), ((r 42), .inl (G.2 0, 840, .inl c42)), ((r 45), .inl (G.2 0, 9, .inl d45)), ((r 46), .inl (G.2 0, 400, .inl d46)), ((r 48), .inl (G.2 0, 71, .inl c48)), ((r 49), .inl (G.2 0, 71, .inl d49)), ((r 58), .inl (G.2 0, 42, .inl d58))] ∧ (zy_q 71 c48 d49) ∧ ((∀ Λ, (zr_HD lv c32 c33 c35 c36 c37 c38 c39 c41 c42 (c30 lv)) Λ → ∀ i j, i < pp → j < pq → d58 (6 * i + j) = zj_p ((zr_Sx 99 lv d49 c24 c28 c25 c29 (Λ 0)) i j) ar1 (d49 (14 + i) = 1) (-1)))) := by
  refine zz_enterv (by decide +kernel) (Nat.le_of_ble_eq_true rfl) ?_
  intro p e s m args below meth c A Q ls S hnm hret hw hl
  have hl : lv_has ls 5 [(0, .ref (r 0)), (1, .int ar1)] := hl
  have hx := S.1
  have hb := S.2.1
  refine lv_aload_n hx hb dX10_fillsStands_0 rfl (lv_at hl 0 rfl) ?_
  refine zz_callV (qb := 0) (As := []) (rest := []) (wr := [((r 22), .inl (G.2 0, 2, .inl c22)), ((r 24), .inl (G.2 0, 14, .inl c24)), ((r 25), .inl (G.2 0, 14, .inl c25)), ((r 26), .inl (G.2 0, 2, .inl c26)), ((r 28), .inl (G.2 0, 12, .inl c28)), ((r 29), .inl (G.2 0, 12, .inl c29)), ((r 30), .inl (G.2 0, 2, .inl c30)), ((r 32), .inl (G.2 0, 8, .inl c32)), ((r 33), .inl (G.2 0, 8, .inl c33)), ((r 35), .inl (G.2 2, 260, .inl c35)), ((r 36), .inl (G.2 0, 260, .inl c36)), ((r 37), .inl (G.2 0, 260, .inl c37)), ((r 38), .inl (G.2 0, 260, .inl c38)), ((r 39), .inl (G.2 0, 260, .inl c39)), ((r 41), .inl (G.2 0, 840, .inl c41)), ((r 42), .inl (G.2 0, 840, .inl c42)), ((r 45), .inl (G.2 0, 9, .inl c45)), ((r 46), .inl (G.2 0, 400, .inl c46)), ((r 58), .inl (G.2 0, 42, .inl c58))]) S hw hl.1 lX10_323 (c_x_copies l G r j0 j2 j4 j10 j11 j12 j13 j14 j15 j16 j17 j19 j20 j34 j40 j44 j47 j50 j51 j56 j61 lv c31 c48 c49 (by first | assumption | omega | exact Or.inr ⟨_, by omega, rfl⟩ | (unfold zz_sok; decide) | decide | exact (fun j hj => (hv7 j hj).1))) ⟨Nat.le_of_ble_eq_true rfl, Nat.le_of_ble_eq_true rfl⟩ ⟨Nat.le_of_ble_eq_true rfl, Nat.le_of_ble_eq_true rfl⟩ [0, 8, 20, 21] [1, 2, 3, 4, 5, 6, 7, 9, 10, 11, 12, 13, 14, 15, 16, 17, 18, 19, 22] (by decide +kernel) rfl rfl (by decide +kernel) (by decide +kernel) rfl rfl rfl rfl (Nat.le_of_ble_eq_true rfl) dX10_fillsStands_1 ?_
  clear hw
  intro rr u H locs hp hw
  refine hp.elim fun k50_1 zg0 => zg0.elim fun k51_2 zg1 => zg1.elim fun d49_3 zg2 => zg2.elim fun zee1 zg3 => zg3.elim fun zee2 zg4 => zg4.elim fun hq1_0 zg5 => zg5.elim fun hq1_1 hq1_2 => ?_
  clear hp zg0 zg1 zg2 zg3 zg4 zg5
  subst zee1
  subst zee2
  replace hw : zz_w G A s [((r 22), .inl (G.2 0, 2, .inl c22)), ((r 24), .inl (G.2 0, 14, .inl c24)), ((r 25), .inl (G.2 0, 14, .inl c25)), ((r 26), .inl (G.2 0, 2, .inl c26)), ((r 28), .inl (G.2 0, 12, .inl c28)), ((r 29), .inl (G.2 0, 12, .inl c29)), ((r 30), .inl (G.2 0, 2, .inl c30)), ((r 32), .inl (G.2 0, 8, .inl c32)), ((r 33), .inl (G.2 0, 8, .inl c33)), ((r 35), .inl (G.2 2, 260, .inl c35)), ((r 36), .inl (G.2 0, 260, .inl c36)), ((r 37), .inl (G.2 0, 260, .inl c37)), ((r 38), .inl (G.2 0, 260, .inl c38)), ((r 39), .inl (G.2 0, 260, .inl c39)), ((r 41), .inl (G.2 0, 840, .inl c41)), ((r 42), .inl (G.2 0, 840, .inl c42)), ((r 45), .inl (G.2 0, 9, .inl c45)), ((r 46), .inl (G.2 0, 400, .inl c46)), ((r 58), .inl (G.2 0, 42, .inl c58)), ((r 0), .inr (10, (zz_mo r [(0, j0), (2, j2), (4, j4), (10, j10), (11, j11), (12, j12), (13, j13), (14, j14), (15, j15), (16, j16), (17, j17), (18, (nI lv)), (19, j19), (20, j20), (34, j34), (40, j40), (44, j44), (47, j47), (50, k50_1), (51, k51_2), (56, j56), (61, j61)]))), ((r 31), .inl (G.2 0, 2, .inl c31)), ((r 48), .inl (G.2 0, 71, .inl c48)), ((r 49), .inl (G.2 0, 71, .inl d49_3))] H _ := hw
  refine W.eq (g2 := F0 m 4 ls []) rfl ?_
  refine lv_iconst (v := 0) hx hb dX10_fillsStands_4 (by decide) ?_
  refine lv_istore_n (lv' := [(2, .int 0), (0, .ref (r 0)), (1, .int ar1)]) hx hb dX10_fillsStands_5 rfl hl (by decide) rfl (fun ls hl => ?_)
  have lp6_84 : ∀ (vn5 vi4 : Nat) (vF46 : Nat → Int32) (vF47 : Nat → Int32) (vF48 : Nat → Int32) (vy49 : Int32) (H : Heap) (locs : List Loc) (ls : Array Slot), vi4 ≤ pp → pp < vi4 + vn5 → (∀ Λ, (zr_HD lv c32 c33 c35 c36 c37 c38 c39 c41 c42 (c30 lv)) Λ → zj_R (fun a p => zj_p ((zr_Sx 99 lv d49_3 c24 c28 c25 c29 (Λ 0)) a p) ar1 (d49_3 (14 + a) = 1) (-1)) pq vi4 0 vF48) → zz_w G A s [((r 22), .inl (G.2 0, 2, .inl c22)), ((r 24), .inl (G.2 0, 14, .inl c24)), ((r 25), .inl (G.2 0, 14, .inl c25)), ((r 26), .inl (G.2 0, 2, .inl c26)), ((r 28), .inl (G.2 0, 12, .inl c28)), ((r 29), .inl (G.2 0, 12, .inl c29)), ((r 30), .inl (G.2 0, 2, .inl c30)), ((r 32), .inl (G.2 0, 8, .inl c32)), ((r 33), .inl (G.2 0, 8, .inl c33)), ((r 35), .inl (G.2 2, 260, .inl c35)), ((r 36), .inl (G.2 0, 260, .inl c36)), ((r 37), .inl (G.2 0, 260, .inl c37)), ((r 38), .inl (G.2 0, 260, .inl c38)), ((r 39), .inl (G.2 0, 260, .inl c39)), ((r 41), .inl (G.2 0, 840, .inl c41)), ((r 42), .inl (G.2 0, 840, .inl c42)), ((r 45), .inl (G.2 0, 9, .inl vF46)), ((r 46), .inl (G.2 0, 400, .inl vF47)), ((r 58), .inl (G.2 0, 42, .inl vF48)), ((r 0), .inr (10, (zz_mo r [(0, j0), (2, j2), (4, j4), (10, j10), (11, j11), (12, j12), (13, j13), (14, j14), (15, j15), (16, j16), (17, j17), (18, (nI lv)), (19, j19), (20, j20), (34, j34), (40, j40), (44, j44), (47, vy49), (50, k50_1), (51, k51_2), (56, j56), (61, j61)]))), ((r 31), .inl (G.2 0, 2, .inl c31)), ((r 48), .inl (G.2 0, 71, .inl c48)), ((r 49), .inl (G.2 0, 71, .inl d49_3))] H locs → lv_has ls 5 [(2, .int (nI vi4)), (0, .ref (r 0)), (1, .int ar1)] → W p l e (zz_rm 4 0 0) s m args below meth c H locs (0) (0) Q (F0 m 6 ls []) := by
    intro vn5
    induction vn5 with
    | zero => intro vi4 vF46 vF47 vF48 vy49 H locs ls hi1 hi2; exact absurd hi2 (by omega)
    | succ vn5 ih6 =>
      intro vi4 vF46 vF47 vF48 vy49 H locs ls hi6a hi6b hv6_83 hw hl
      refine lv_iload_n hx hb dX10_fillsStands_6 rfl (lv_at hl 0 rfl) ?_
      refine lv_aload_n hx hb dX10_fillsStands_7 rfl (lv_at hl 1 rfl) ?_
      refine zz_get (v := .ref (r 22)) S hw fgX10_43 19 rfl rfl dX10_fillsStands_8 ?_
      refine lv_aload_n hx hb dX10_fillsStands_11 rfl (lv_at hl 1 rfl) ?_
      refine zz_get (v := .int (nI lv)) S hw fgX10_236 19 rfl rfl dX10_fillsStands_12 ?_
      refine zz_iald (v := (nI pp)) S hw 0 rfl (vp_in_nI (n := lv) (by omega) (by decide)) (by rw [show ((nI lv) : Int32).toNatClampNeg = lv from nI_clamp (n := lv) (by omega)]; exact hpe) dX10_fillsStands_15 ?_
      refine lv_icmp_ge (tgt := 85) hx hb dX10_fillsStands_16 (by decide) (fun c16_85 => ?_) (fun c16_85 => ?_)
      · skip
        have c16_85n : pp ≤ vi4 := (zz_le (a := pp) (b := vi4) rfl rfl (by omega) (by omega)).mp c16_85
        exact hret _ _ _ _ _ ⟨vy49, k50_1, k51_2, vF46, vF47, d49_3, vF48, rfl, rfl, hq1_0, (fun Λ h => zj_r3 (hv6_83 Λ h) (by omega))⟩ (hw.sub [19, 0, 1, 2, 3, 4, 5, 6, 20, 7, 8, 9, 10, 11, 12, 13, 14, 15, 16, 17, 21, 22, 18] (by decide +kernel) rfl) dX10_fillsStands_85
      · skip
        have c16_85n : ¬ (pp ≤ vi4) := fun z => c16_85 ((zz_le (a := pp) (b := vi4) rfl rfl (by omega) (by omega)).mpr z)
        refine lv_iconst (v := 0) hx hb dX10_fillsStands_19 (by decide) ?_
        refine lv_istore_n (lv' := [(3, .int 0), (2, .int (nI vi4)), (0, .ref (r 0)), (1, .int ar1)]) hx hb dX10_fillsStands_20 rfl hl (by decide) rfl (fun ls hl => ?_)
        have lp21_109 : ∀ (vn87 vi86 : Nat) (vF96 : Nat → Int32) (vF97 : Nat → Int32) (vF98 : Nat → Int32) (vy99 : Int32) (H : Heap) (locs : List Loc) (ls : Array Slot), vi86 ≤ pq → pq < vi86 + vn87 → (∀ Λ, (zr_HD lv c32 c33 c35 c36 c37 c38 c39 c41 c42 (c30 lv)) Λ → zj_R (fun a p => zj_p ((zr_Sx 99 lv d49_3 c24 c28 c25 c29 (Λ 0)) a p) ar1 (d49_3 (14 + a) = 1) (-1)) pq vi4 vi86 vF98) → zz_w G A s [((r 22), .inl (G.2 0, 2, .inl c22)), ((r 24), .inl (G.2 0, 14, .inl c24)), ((r 25), .inl (G.2 0, 14, .inl c25)), ((r 26), .inl (G.2 0, 2, .inl c26)), ((r 28), .inl (G.2 0, 12, .inl c28)), ((r 29), .inl (G.2 0, 12, .inl c29)), ((r 30), .inl (G.2 0, 2, .inl c30)), ((r 32), .inl (G.2 0, 8, .inl c32)), ((r 33), .inl (G.2 0, 8, .inl c33)), ((r 35), .inl (G.2 2, 260, .inl c35)), ((r 36), .inl (G.2 0, 260, .inl c36)), ((r 37), .inl (G.2 0, 260, .inl c37)), ((r 38), .inl (G.2 0, 260, .inl c38)), ((r 39), .inl (G.2 0, 260, .inl c39)), ((r 41), .inl (G.2 0, 840, .inl c41)), ((r 42), .inl (G.2 0, 840, .inl c42)), ((r 45), .inl (G.2 0, 9, .inl vF96)), ((r 46), .inl (G.2 0, 400, .inl vF97)), ((r 58), .inl (G.2 0, 42, .inl vF98)), ((r 0), .inr (10, (zz_mo r [(0, j0), (2, j2), (4, j4), (10, j10), (11, j11), (12, j12), (13, j13), (14, j14), (15, j15), (16, j16), (17, j17), (18, (nI lv)), (19, j19), (20, j20), (34, j34), (40, j40), (44, j44), (47, vy99), (50, k50_1), (51, k51_2), (56, j56), (61, j61)]))), ((r 31), .inl (G.2 0, 2, .inl c31)), ((r 48), .inl (G.2 0, 71, .inl c48)), ((r 49), .inl (G.2 0, 71, .inl d49_3))] H locs → lv_has ls 5 [(3, .int (nI vi86)), (2, .int (nI vi4)), (0, .ref (r 0)), (1, .int ar1)] → W p l e (zz_rm 4 0 0) s m args below meth c H locs (0) (0) Q (F0 m 21 ls []) := by
          intro vn87
          induction vn87 with
          | zero => intro vi86 vF96 vF97 vF98 vy99 H locs ls hi1 hi2; exact absurd hi2 (by omega)
          | succ vn87 ih21 =>
            intro vi86 vF96 vF97 vF98 vy99 H locs ls hi21a hi21b hv21_108 hw hl
            refine lv_iload_n hx hb dX10_fillsStands_21 rfl (lv_at hl 0 rfl) ?_
            refine lv_aload_n hx hb dX10_fillsStands_22 rfl (lv_at hl 2 rfl) ?_
            refine W.eq (g2 := F0 m 23 ls [.ref (r 0), .int (nI vi86)]) rfl ?_
            refine zz_get (v := .ref (r 26)) S hw fgX10_55 19 rfl rfl dX10_fillsStands_23 ?_
            refine lv_aload_n hx hb dX10_fillsStands_26 rfl (lv_at hl 2 rfl) ?_
            refine zz_get (v := .int (nI lv)) S hw fgX10_236 19 rfl rfl dX10_fillsStands_27 ?_
            refine zz_iald (v := (nI pq)) S hw 3 rfl (vp_in_nI (n := lv) (by omega) (by decide)) (by rw [show ((nI lv) : Int32).toNatClampNeg = lv from nI_clamp (n := lv) (by omega)]; exact hpa) dX10_fillsStands_30 ?_
            refine lv_icmp_ge (tgt := 79) hx hb dX10_fillsStands_31 (by decide) (fun c31_110 => ?_) (fun c31_110 => ?_)
            · skip
              have c31_110n : pq ≤ vi86 := (zz_le (a := pq) (b := vi86) rfl rfl (by omega) (by omega)).mp c31_110
              refine lv_iinc (v := (nI (vi4 + 1))) (lv' := [(2, .int (nI (vi4 + 1))), (3, .int (nI vi86)), (0, .ref (r 0)), (1, .int ar1)]) hx hb dX10_fillsStands_79 hl (k := 1) rfl (nI_add _ 1) (by decide) rfl (fun ls hl => ?_)
              refine lv_goto (tgt := 6) hx hb dX10_fillsStands_82 (by decide) ?_
              exact ih6 (vi4 + 1) vF96 vF97 vF98 vy99 _ _ _ (by omega) (by omega) (fun Λ h => zj_r2 (hv21_108 Λ h) (by omega)) hw (lv_sub hl [0, 2, 3] rfl)
            · skip
              have c31_110n : ¬ (pq ≤ vi86) := fun z => c31_110 ((zz_le (a := pq) (b := vi86) rfl rfl (by omega) (by omega)).mpr z)
              refine lv_aload_n hx hb dX10_fillsStands_34 rfl (lv_at hl 2 rfl) ?_
              refine lv_iload_n hx hb dX10_fillsStands_35 rfl (lv_at hl 1 rfl) ?_
              refine lv_iload_n hx hb dX10_fillsStands_36 rfl (lv_at hl 0 rfl) ?_
              refine zz_callV (qb := 19) (As := [.int (nI vi4), .int (nI vi86)]) (rest := []) (wr := [((r 22), .inl (G.2 0, 2, .inl c22)), ((r 26), .inl (G.2 0, 2, .inl c26)), ((r 30), .inl (G.2 0, 2, .inl c30)), ((r 58), .inl (G.2 0, 42, .inl vF98)), ((r 31), .inl (G.2 0, 2, .inl c31)), ((r 48), .inl (G.2 0, 71, .inl c48))]) S hw hl.1 lX10_348 (c_x_standsOf l G r j0 j2 j4 j10 j11 j12 j13 j14 j15 j16 j17 j19 j20 j34 j40 j44 vy99 k50_1 k51_2 j56 j61 lv c24 c25 c28 c29 c32 c33 c35 c36 c37 c38 c39 c41 c42 vF96 vF97 d49_3 vi4 vi86 (by first | assumption | omega | exact Or.inr ⟨_, by omega, rfl⟩ | (unfold zz_sok; decide) | decide | exact (fun j hj => (hv7 j hj).1)) (by first | assumption | omega | exact Or.inr ⟨_, by omega, rfl⟩ | (unfold zz_sok; decide) | decide | exact (fun j hj => (hv7 j hj).1)) (by first | assumption | omega | exact Or.inr ⟨_, by omega, rfl⟩ | (unfold zz_sok; decide) | decide | exact (fun j hj => (hv7 j hj).1)) (by first | assumption | omega | exact Or.inr ⟨_, by omega, rfl⟩ | (unfold zz_sok; decide) | decide | exact (fun j hj => (hv7 j hj).1))) ⟨Nat.le_of_ble_eq_true rfl, Nat.le_of_ble_eq_true rfl⟩ ⟨Nat.le_of_ble_eq_true rfl, Nat.le_of_ble_eq_true rfl⟩ [19, 1, 2, 4, 5, 7, 8, 9, 10, 11, 12, 13, 14, 15, 16, 17, 22] [0, 3, 6, 18, 20, 21] (by decide +kernel) rfl rfl (by decide +kernel) (by decide +kernel) rfl rfl rfl rfl (Nat.le_of_ble_eq_true rfl) dX10_fillsStands_37 ?_
              clear hw
              intro rr u H locs hp hw
              refine hp.elim fun rv_111 zg0 => zg0.elim fun k47_112 zg1 => zg1.elim fun d45_113 zg2 => zg2.elim fun d46_114 zg3 => zg3.elim fun zee1 zg4 => zg4.elim fun zee2 hq37_0 => ?_
              clear hp zg0 zg1 zg2 zg3 zg4
              subst zee1
              subst zee2
              replace hw : zz_w G A s [((r 22), .inl (G.2 0, 2, .inl c22)), ((r 26), .inl (G.2 0, 2, .inl c26)), ((r 30), .inl (G.2 0, 2, .inl c30)), ((r 58), .inl (G.2 0, 42, .inl vF98)), ((r 31), .inl (G.2 0, 2, .inl c31)), ((r 48), .inl (G.2 0, 71, .inl c48)), ((r 0), .inr (10, (zz_mo r [(0, j0), (2, j2), (4, j4), (10, j10), (11, j11), (12, j12), (13, j13), (14, j14), (15, j15), (16, j16), (17, j17), (18, (nI lv)), (19, j19), (20, j20), (34, j34), (40, j40), (44, j44), (47, k47_112), (50, k50_1), (51, k51_2), (56, j56), (61, j61)]))), ((r 24), .inl (G.2 0, 14, .inl c24)), ((r 25), .inl (G.2 0, 14, .inl c25)), ((r 28), .inl (G.2 0, 12, .inl c28)), ((r 29), .inl (G.2 0, 12, .inl c29)), ((r 32), .inl (G.2 0, 8, .inl c32)), ((r 33), .inl (G.2 0, 8, .inl c33)), ((r 35), .inl (G.2 2, 260, .inl c35)), ((r 36), .inl (G.2 0, 260, .inl c36)), ((r 37), .inl (G.2 0, 260, .inl c37)), ((r 38), .inl (G.2 0, 260, .inl c38)), ((r 39), .inl (G.2 0, 260, .inl c39)), ((r 41), .inl (G.2 0, 840, .inl c41)), ((r 42), .inl (G.2 0, 840, .inl c42)), ((r 45), .inl (G.2 0, 9, .inl d45_113)), ((r 46), .inl (G.2 0, 400, .inl d46_114)), ((r 49), .inl (G.2 0, 71, .inl d49_3))] H _ := hw
              refine W.eq (g2 := F0 m 40 ls [.int rv_111]) rfl ?_
              refine lv_istore (lv' := [(4, .int rv_111), (3, .int (nI vi86)), (2, .int (nI vi4)), (0, .ref (r 0)), (1, .int ar1)]) hx hb dX10_fillsStands_40 hl (by decide) rfl (fun ls hl => ?_)
              refine lv_aload_n hx hb dX10_fillsStands_42 rfl (lv_at hl 3 rfl) ?_
              refine zz_get (v := .ref (r 58)) S hw fgX10_131 6 rfl rfl dX10_fillsStands_43 ?_
              refine lv_bipush (v := 6) hx hb dX10_fillsStands_46 (by decide) ?_
              refine W.eq (g2 := F0 m 48 ls [.int 6, .ref (r 58)]) rfl ?_
              refine lv_iload_n hx hb dX10_fillsStands_48 rfl (lv_at hl 2 rfl) ?_
              refine lv_imul hx hb dX10_fillsStands_49 ?_
              refine zz_topi (y := (nI (6 * vi4))) (pk_mul _ _) ?_
              refine lv_iload_n hx hb dX10_fillsStands_50 rfl (lv_at hl 1 rfl) ?_
              refine lv_iadd hx hb dX10_fillsStands_51 ?_
              refine zz_topi (y := (nI ((6 * vi4) + vi86))) (nI_add _ _) ?_
              refine lv_aload_n hx hb dX10_fillsStands_52 rfl (lv_at hl 3 rfl) ?_
              refine lv_iload_n hx hb dX10_fillsStands_53 rfl (lv_at hl 2 rfl) ?_
              refine zz_callV (qb := 6) (As := [.int (nI vi4)]) (rest := [.int (nI ((6 * vi4) + vi86)), .ref (r 58)]) (wr := [((r 22), .inl (G.2 0, 2, .inl c22)), ((r 26), .inl (G.2 0, 2, .inl c26)), ((r 30), .inl (G.2 0, 2, .inl c30)), ((r 58), .inl (G.2 0, 42, .inl vF98)), ((r 31), .inl (G.2 0, 2, .inl c31)), ((r 48), .inl (G.2 0, 71, .inl c48)), ((r 24), .inl (G.2 0, 14, .inl c24)), ((r 25), .inl (G.2 0, 14, .inl c25)), ((r 28), .inl (G.2 0, 12, .inl c28)), ((r 29), .inl (G.2 0, 12, .inl c29)), ((r 32), .inl (G.2 0, 8, .inl c32)), ((r 33), .inl (G.2 0, 8, .inl c33)), ((r 35), .inl (G.2 2, 260, .inl c35)), ((r 36), .inl (G.2 0, 260, .inl c36)), ((r 37), .inl (G.2 0, 260, .inl c37)), ((r 38), .inl (G.2 0, 260, .inl c38)), ((r 39), .inl (G.2 0, 260, .inl c39)), ((r 41), .inl (G.2 0, 840, .inl c41)), ((r 42), .inl (G.2 0, 840, .inl c42)), ((r 45), .inl (G.2 0, 9, .inl d45_113)), ((r 46), .inl (G.2 0, 400, .inl d46_114))]) S hw hl.1 lX10_345 (c_x_isOff l G r j0 j2 j4 j10 j11 j12 j13 j14 j15 j16 j17 (nI lv) j19 j20 j34 j40 j44 k47_112 k50_1 k51_2 j56 j61 d49_3 vi4 (by first | assumption | omega | exact Or.inr ⟨_, by omega, rfl⟩ | (unfold zz_sok; decide) | decide | exact (fun j hj => (hv7 j hj).1))) ⟨Nat.le_of_ble_eq_true rfl, Nat.le_of_ble_eq_true rfl⟩ ⟨Nat.le_of_ble_eq_true rfl, Nat.le_of_ble_eq_true rfl⟩ [6, 22] [0, 1, 2, 3, 4, 5, 7, 8, 9, 10, 11, 12, 13, 14, 15, 16, 17, 18, 19, 20, 21] (by decide +kernel) rfl rfl (by decide +kernel) (by decide +kernel) rfl rfl rfl rfl (Nat.le_of_ble_eq_true rfl) dX10_fillsStands_54 ?_
              clear hw
              intro rr u H locs hp hw
              refine hp.elim fun rv_115 zg0 => zg0.elim fun zee1 zg1 => zg1.elim fun zee2 zg2 => zg2.elim fun hq54_0 hq54_1 => ?_
              clear hp zg0 zg1 zg2
              subst zee1
              subst zee2
              replace hw : zz_w G A s [((r 22), .inl (G.2 0, 2, .inl c22)), ((r 26), .inl (G.2 0, 2, .inl c26)), ((r 30), .inl (G.2 0, 2, .inl c30)), ((r 58), .inl (G.2 0, 42, .inl vF98)), ((r 31), .inl (G.2 0, 2, .inl c31)), ((r 48), .inl (G.2 0, 71, .inl c48)), ((r 24), .inl (G.2 0, 14, .inl c24)), ((r 25), .inl (G.2 0, 14, .inl c25)), ((r 28), .inl (G.2 0, 12, .inl c28)), ((r 29), .inl (G.2 0, 12, .inl c29)), ((r 32), .inl (G.2 0, 8, .inl c32)), ((r 33), .inl (G.2 0, 8, .inl c33)), ((r 35), .inl (G.2 2, 260, .inl c35)), ((r 36), .inl (G.2 0, 260, .inl c36)), ((r 37), .inl (G.2 0, 260, .inl c37)), ((r 38), .inl (G.2 0, 260, .inl c38)), ((r 39), .inl (G.2 0, 260, .inl c39)), ((r 41), .inl (G.2 0, 840, .inl c41)), ((r 42), .inl (G.2 0, 840, .inl c42)), ((r 45), .inl (G.2 0, 9, .inl d45_113)), ((r 46), .inl (G.2 0, 400, .inl d46_114)), ((r 0), .inr (10, (zz_mo r [(0, j0), (2, j2), (4, j4), (10, j10), (11, j11), (12, j12), (13, j13), (14, j14), (15, j15), (16, j16), (17, j17), (18, (nI lv)), (19, j19), (20, j20), (34, j34), (40, j40), (44, j44), (47, k47_112), (50, k50_1), (51, k51_2), (56, j56), (61, j61)]))), ((r 49), .inl (G.2 0, 71, .inl d49_3))] H _ := hw
              refine W.eq (g2 := F0 m 57 ls [.int rv_115, .int (nI ((6 * vi4) + vi86)), .ref (r 58)]) rfl ?_
              refine lv_if_ne (tgt := 66) hx hb dX10_fillsStands_57 (by decide) (fun c57_116 => ?_) (fun c57_116 => ?_)
              · skip
                refine lv_iconst (v := (-1)) hx hb dX10_fillsStands_66 (by decide) ?_
                refine lv_goto (tgt := 72) hx hb dX10_fillsStands_67 (by decide) ?_
                refine zz_iast (ws' := [((r 22), .inl (G.2 0, 2, .inl c22)), ((r 26), .inl (G.2 0, 2, .inl c26)), ((r 30), .inl (G.2 0, 2, .inl c30)), ((r 58), .inl (G.2 0, 42, .inl (upd vF98 ((6 * vi4) + vi86) (-1)))), ((r 31), .inl (G.2 0, 2, .inl c31)), ((r 48), .inl (G.2 0, 71, .inl c48)), ((r 24), .inl (G.2 0, 14, .inl c24)), ((r 25), .inl (G.2 0, 14, .inl c25)), ((r 28), .inl (G.2 0, 12, .inl c28)), ((r 29), .inl (G.2 0, 12, .inl c29)), ((r 32), .inl (G.2 0, 8, .inl c32)), ((r 33), .inl (G.2 0, 8, .inl c33)), ((r 35), .inl (G.2 2, 260, .inl c35)), ((r 36), .inl (G.2 0, 260, .inl c36)), ((r 37), .inl (G.2 0, 260, .inl c37)), ((r 38), .inl (G.2 0, 260, .inl c38)), ((r 39), .inl (G.2 0, 260, .inl c39)), ((r 41), .inl (G.2 0, 840, .inl c41)), ((r 42), .inl (G.2 0, 840, .inl c42)), ((r 45), .inl (G.2 0, 9, .inl d45_113)), ((r 46), .inl (G.2 0, 400, .inl d46_114)), ((r 0), .inr (10, (zz_mo r [(0, j0), (2, j2), (4, j4), (10, j10), (11, j11), (12, j12), (13, j13), (14, j14), (15, j15), (16, j16), (17, j17), (18, (nI lv)), (19, j19), (20, j20), (34, j34), (40, j40), (44, j44), (47, k47_112), (50, k50_1), (51, k51_2), (56, j56), (61, j61)]))), ((r 49), .inl (G.2 0, 71, .inl d49_3))]) (g := (upd vF98 ((6 * vi4) + vi86) (-1))) S hw 3 rfl (vp_in_nI (n := ((6 * vi4) + vi86)) (by omega) (by decide)) (zz_upn (n := ((6 * vi4) + vi86)) (by omega)) rfl dX10_fillsStands_72 ?_
                clear hw
                intro H locs hw
                refine lv_iinc (v := (nI (vi86 + 1))) (lv' := [(3, .int (nI (vi86 + 1))), (4, .int rv_111), (2, .int (nI vi4)), (0, .ref (r 0)), (1, .int ar1)]) hx hb dX10_fillsStands_73 hl (k := 1) rfl (nI_add _ 1) (by decide) rfl (fun ls hl => ?_)
                refine lv_goto (tgt := 21) hx hb dX10_fillsStands_76 (by decide) ?_
                exact ih21 (vi86 + 1) d45_113 d46_114 (upd vF98 ((6 * vi4) + vi86) (-1)) k47_112 _ _ _ (by omega) (by omega) (fun Λ h => zj_r1 (hv21_108 Λ h) hpq (by omega) (by first | exact zj_g1 hq54_0 (by assumption) | exact zj_g0 (hq37_0 Λ h.1 (h.2.1 0 (by decide))) (by first | assumption | exact Int32.not_le.mp (by assumption)) | exact zj_g2 (hq37_0 Λ h.1 (h.2.1 0 (by decide))) (by first | assumption | exact Int32.not_lt.mpr (by assumption)) hq54_0 (by assumption))) (hw.sub [0, 6, 7, 1, 8, 9, 2, 10, 11, 12, 13, 14, 15, 16, 17, 18, 19, 20, 3, 21, 4, 5, 22] (by decide +kernel) rfl) (lv_sub hl [0, 2, 3, 4] rfl)
              · skip
                refine lv_iload hx hb dX10_fillsStands_60 (lv_at hl 0 rfl) ?_
                refine lv_iload_n hx hb dX10_fillsStands_62 rfl (lv_at hl 4 rfl) ?_
                refine W.eq (g2 := F0 m 63 ls [.int ar1, .int rv_111, .int (nI ((6 * vi4) + vi86)), .ref (r 58)]) rfl ?_
                refine lv_icmp_ge (tgt := 70) hx hb dX10_fillsStands_63 (by decide) (fun c63_117 => ?_) (fun c63_117 => ?_)
                · skip
                  refine lv_iload hx hb dX10_fillsStands_70 (lv_at hl 0 rfl) ?_
                  refine zz_iast (ws' := [((r 22), .inl (G.2 0, 2, .inl c22)), ((r 26), .inl (G.2 0, 2, .inl c26)), ((r 30), .inl (G.2 0, 2, .inl c30)), ((r 58), .inl (G.2 0, 42, .inl (upd vF98 ((6 * vi4) + vi86) rv_111))), ((r 31), .inl (G.2 0, 2, .inl c31)), ((r 48), .inl (G.2 0, 71, .inl c48)), ((r 24), .inl (G.2 0, 14, .inl c24)), ((r 25), .inl (G.2 0, 14, .inl c25)), ((r 28), .inl (G.2 0, 12, .inl c28)), ((r 29), .inl (G.2 0, 12, .inl c29)), ((r 32), .inl (G.2 0, 8, .inl c32)), ((r 33), .inl (G.2 0, 8, .inl c33)), ((r 35), .inl (G.2 2, 260, .inl c35)), ((r 36), .inl (G.2 0, 260, .inl c36)), ((r 37), .inl (G.2 0, 260, .inl c37)), ((r 38), .inl (G.2 0, 260, .inl c38)), ((r 39), .inl (G.2 0, 260, .inl c39)), ((r 41), .inl (G.2 0, 840, .inl c41)), ((r 42), .inl (G.2 0, 840, .inl c42)), ((r 45), .inl (G.2 0, 9, .inl d45_113)), ((r 46), .inl (G.2 0, 400, .inl d46_114)), ((r 0), .inr (10, (zz_mo r [(0, j0), (2, j2), (4, j4), (10, j10), (11, j11), (12, j12), (13, j13), (14, j14), (15, j15), (16, j16), (17, j17), (18, (nI lv)), (19, j19), (20, j20), (34, j34), (40, j40), (44, j44), (47, k47_112), (50, k50_1), (51, k51_2), (56, j56), (61, j61)]))), ((r 49), .inl (G.2 0, 71, .inl d49_3))]) (g := (upd vF98 ((6 * vi4) + vi86) rv_111)) S hw 3 rfl (vp_in_nI (n := ((6 * vi4) + vi86)) (by omega) (by decide)) (zz_upn (n := ((6 * vi4) + vi86)) (by omega)) rfl dX10_fillsStands_72 ?_
                  clear hw
                  intro H locs hw
                  refine lv_iinc (v := (nI (vi86 + 1))) (lv' := [(3, .int (nI (vi86 + 1))), (4, .int rv_111), (2, .int (nI vi4)), (0, .ref (r 0)), (1, .int ar1)]) hx hb dX10_fillsStands_73 hl (k := 1) rfl (nI_add _ 1) (by decide) rfl (fun ls hl => ?_)
                  refine lv_goto (tgt := 21) hx hb dX10_fillsStands_76 (by decide) ?_
                  exact ih21 (vi86 + 1) d45_113 d46_114 (upd vF98 ((6 * vi4) + vi86) rv_111) k47_112 _ _ _ (by omega) (by omega) (fun Λ h => zj_r1 (hv21_108 Λ h) hpq (by omega) (by first | exact zj_g1 hq54_0 (by assumption) | exact zj_g0 (hq37_0 Λ h.1 (h.2.1 0 (by decide))) (by first | assumption | exact Int32.not_le.mp (by assumption)) | exact zj_g2 (hq37_0 Λ h.1 (h.2.1 0 (by decide))) (by first | assumption | exact Int32.not_lt.mpr (by assumption)) hq54_0 (by assumption))) (hw.sub [0, 6, 7, 1, 8, 9, 2, 10, 11, 12, 13, 14, 15, 16, 17, 18, 19, 20, 3, 21, 4, 5, 22] (by decide +kernel) rfl) (lv_sub hl [0, 2, 3, 4] rfl)
                · skip
                  refine lv_iconst (v := (-1)) hx hb dX10_fillsStands_66 (by decide) ?_
                  refine lv_goto (tgt := 72) hx hb dX10_fillsStands_67 (by decide) ?_
                  refine zz_iast (ws' := [((r 22), .inl (G.2 0, 2, .inl c22)), ((r 26), .inl (G.2 0, 2, .inl c26)), ((r 30), .inl (G.2 0, 2, .inl c30)), ((r 58), .inl (G.2 0, 42, .inl (upd vF98 ((6 * vi4) + vi86) (-1)))), ((r 31), .inl (G.2 0, 2, .inl c31)), ((r 48), .inl (G.2 0, 71, .inl c48)), ((r 24), .inl (G.2 0, 14, .inl c24)), ((r 25), .inl (G.2 0, 14, .inl c25)), ((r 28), .inl (G.2 0, 12, .inl c28)), ((r 29), .inl (G.2 0, 12, .inl c29)), ((r 32), .inl (G.2 0, 8, .inl c32)), ((r 33), .inl (G.2 0, 8, .inl c33)), ((r 35), .inl (G.2 2, 260, .inl c35)), ((r 36), .inl (G.2 0, 260, .inl c36)), ((r 37), .inl (G.2 0, 260, .inl c37)), ((r 38), .inl (G.2 0, 260, .inl c38)), ((r 39), .inl (G.2 0, 260, .inl c39)), ((r 41), .inl (G.2 0, 840, .inl c41)), ((r 42), .inl (G.2 0, 840, .inl c42)), ((r 45), .inl (G.2 0, 9, .inl d45_113)), ((r 46), .inl (G.2 0, 400, .inl d46_114)), ((r 0), .inr (10, (zz_mo r [(0, j0), (2, j2), (4, j4), (10, j10), (11, j11), (12, j12), (13, j13), (14, j14), (15, j15), (16, j16), (17, j17), (18, (nI lv)), (19, j19), (20, j20), (34, j34), (40, j40), (44, j44), (47, k47_112), (50, k50_1), (51, k51_2), (56, j56), (61, j61)]))), ((r 49), .inl (G.2 0, 71, .inl d49_3))]) (g := (upd vF98 ((6 * vi4) + vi86) (-1))) S hw 3 rfl (vp_in_nI (n := ((6 * vi4) + vi86)) (by omega) (by decide)) (zz_upn (n := ((6 * vi4) + vi86)) (by omega)) rfl dX10_fillsStands_72 ?_
                  clear hw
                  intro H locs hw
                  refine lv_iinc (v := (nI (vi86 + 1))) (lv' := [(3, .int (nI (vi86 + 1))), (4, .int rv_111), (2, .int (nI vi4)), (0, .ref (r 0)), (1, .int ar1)]) hx hb dX10_fillsStands_73 hl (k := 1) rfl (nI_add _ 1) (by decide) rfl (fun ls hl => ?_)
                  refine lv_goto (tgt := 21) hx hb dX10_fillsStands_76 (by decide) ?_
                  exact ih21 (vi86 + 1) d45_113 d46_114 (upd vF98 ((6 * vi4) + vi86) (-1)) k47_112 _ _ _ (by omega) (by omega) (fun Λ h => zj_r1 (hv21_108 Λ h) hpq (by omega) (by first | exact zj_g1 hq54_0 (by assumption) | exact zj_g0 (hq37_0 Λ h.1 (h.2.1 0 (by decide))) (by first | assumption | exact Int32.not_le.mp (by assumption)) | exact zj_g2 (hq37_0 Λ h.1 (h.2.1 0 (by decide))) (by first | assumption | exact Int32.not_lt.mpr (by assumption)) hq54_0 (by assumption))) (hw.sub [0, 6, 7, 1, 8, 9, 2, 10, 11, 12, 13, 14, 15, 16, 17, 18, 19, 20, 3, 21, 4, 5, 22] (by decide +kernel) rfl) (lv_sub hl [0, 2, 3, 4] rfl)
        exact lp21_109 (pq + 1 - 0) 0 vF46 vF47 vF48 vy49 _ _ _ (by omega) (by omega) hv6_83 hw (lv_sub hl [0, 1, 2, 3] rfl)
  exact lp6_84 (pp + 1 - 0) 0 c45 c46 c58 j47 _ _ _ (by omega) (by omega) (fun _ _ => zj_r0) hw (lv_sub hl [0, 1, 2] rfl)
theorem kd_ncX10_isFree : kd_ck 18114954727257217881510352531255287284954803790433122308734211201821 28 cX10_isFree.data.toList 0 = true := by decide +kernel
theorem dX10_isFree_0 : decode cX10_isFree 0 = .ok (.iload_n 3, 1) := kd_dk0 kd_o29 kd_ncX10_isFree rfl
theorem dX10_isFree_1 : decode cX10_isFree 1 = .ok (.iload_n 1, 1) := kd_dk0 kd_o27 kd_ncX10_isFree rfl
theorem dX10_isFree_2 : decode cX10_isFree 2 = .ok (.ishr, 1) := kd_dk0 kd_o122 kd_ncX10_isFree rfl
theorem dX10_isFree_3 : decode cX10_isFree 3 = .ok (.iconst 1, 1) := kd_dk0 kd_o4 kd_ncX10_isFree rfl
theorem dX10_isFree_4 : decode cX10_isFree 4 = .ok (.iand, 1) := kd_dk0 kd_o126 kd_ncX10_isFree rfl
theorem dX10_isFree_5 : decode cX10_isFree 5 = .ok (.ifCond .ne 21, 3) := kd_dj2 kd_o154 (w := 21) kd_ncX10_isFree rfl rfl
theorem dX10_isFree_8 : decode cX10_isFree 8 = .ok (.aload_n 0, 1) := kd_dk0 kd_o42 kd_ncX10_isFree rfl
theorem dX10_isFree_9 : decode cX10_isFree 9 = .ok (.getfield 131, 3) := kd_dk2 kd_o180 kd_ncX10_isFree rfl
theorem dX10_isFree_12 : decode cX10_isFree 12 = .ok (.bipush 6, 2) := kd_dj1 kd_o16 (w := 6) kd_ncX10_isFree rfl rfl
theorem dX10_isFree_14 : decode cX10_isFree 14 = .ok (.iload_n 1, 1) := kd_dk0 kd_o27 kd_ncX10_isFree rfl
theorem dX10_isFree_15 : decode cX10_isFree 15 = .ok (.imul, 1) := kd_dk0 kd_o104 kd_ncX10_isFree rfl
theorem dX10_isFree_16 : decode cX10_isFree 16 = .ok (.iload_n 2, 1) := kd_dk0 kd_o28 kd_ncX10_isFree rfl
theorem dX10_isFree_17 : decode cX10_isFree 17 = .ok (.iadd, 1) := kd_dk0 kd_o96 kd_ncX10_isFree rfl
theorem dX10_isFree_18 : decode cX10_isFree 18 = .ok (.iaload, 1) := kd_dk0 kd_o46 kd_ncX10_isFree rfl
theorem dX10_isFree_19 : decode cX10_isFree 19 = .ok (.ifCond .lt 7, 3) := kd_dj2 kd_o155 (w := 7) kd_ncX10_isFree rfl rfl
theorem dX10_isFree_22 : decode cX10_isFree 22 = .ok (.iconst 1, 1) := kd_dk0 kd_o4 kd_ncX10_isFree rfl
theorem dX10_isFree_23 : decode cX10_isFree 23 = .ok (.goto 4, 3) := kd_dj2 kd_o167 (w := 4) kd_ncX10_isFree rfl rfl
theorem dX10_isFree_26 : decode cX10_isFree 26 = .ok (.iconst 0, 1) := kd_dk0 kd_o3 kd_ncX10_isFree rfl
theorem dX10_isFree_27 : decode cX10_isFree 27 = .ok (.ireturn, 1) := kd_dk0 kd_o172 kd_ncX10_isFree rfl
set_option maxHeartbeats 8000000 in
set_option maxRecDepth 100000 in
theorem c_x_isFree (l : Launch) (G : zz_G) (r : Nat → Nat) (j0 : Int32) (j2 : Int32) (j4 : Int32) (j10 : Int32) (j11 : Int32) (j12 : Int32) (j13 : Int32) (j14 : Int32) (j15 : Int32) (j16 : Int32) (j17 : Int32) (j18 : Int32) (j19 : Int32) (j20 : Int32) (j34 : Int32) (j40 : Int32) (j44 : Int32) (j47 : Int32) (j50 : Int32) (j51 : Int32) (j56 : Int32) (j61 : Int32) (c58 : Nat → Int32) (pe : Nat) (pa : Nat) (tk : Nat) (hpx : pe < 7) (hpy : pa < 6) (htk : tk < 128) : zz_M l G mX10_isFree 0 0 0 [.ref (r 0), .int (nI pe), .int (nI pa), .int (nI tk)] [((r 0), .inr (10, (zz_mo r [(0, j0), (2, j2), (4, j4), (10, j10), (11, j11), (12, j12), (13, j13), (14, j14), (15, j15), (16, j16), (17, j17), (18, j18), (19, j19), (20, j20), (34, j34), (40, j40), (44, j44), (47, j47), (50, j50), (51, j51), (56, j56), (61, j61)]))), ((r 58), .inl (G.2 0, 42, .inl c58))] (fun rr u => ∃ (rv : Int32), rr = some (.int rv) ∧ u = [((r 0), .inr (10, (zz_mo r [(0, j0), (2, j2), (4, j4), (10, j10), (11, j11), (12, j12), (13, j13), (14, j14), (15, j15), (16, j16), (17, j17), (18, j18), (19, j19), (20, j20), (34, j34), (40, j40), (44, j44), (47, j47), (50, j50), (51, j51), (56, j56), (61, j61)]))), ((r 58), .inl (G.2 0, 42, .inl c58))] ∧ (¬ rv = 0 ↔ (zm_bit (nI tk) (nI pe) = 0 ∧ ¬ c58 (6 * pe + pa) < 0)) ∧ (rv = 0 ∨ rv = 1)) := by
  refine zz_enteri (by decide +kernel) (Nat.le_of_ble_eq_true rfl) ?_
  intro p e s m args below meth c A Q ls S hnm hret hw hl
  have hl : lv_has ls 4 [(0, .ref (r 0)), (1, .int (nI pe)), (2, .int (nI pa)), (3, .int (nI tk))] := hl
  have hx := S.1
  have hb := S.2.1
  refine lv_iload_n hx hb dX10_isFree_0 rfl (lv_at hl 3 rfl) ?_
  refine lv_iload_n hx hb dX10_isFree_1 rfl (lv_at hl 1 rfl) ?_
  refine lv_ishr hx hb dX10_isFree_2 ?_
  refine lv_topi (fun z1 ez1 => ?_)
  refine lv_iconst (v := 1) hx hb dX10_isFree_3 (by decide) ?_
  refine lv_iand hx hb dX10_isFree_4 ?_
  refine lv_topi (fun z2 ez2 => ?_)
  refine lv_if_ne (tgt := 26) hx hb dX10_isFree_5 (by decide) (fun c5_3 => ?_) (fun c5_3 => ?_)
  · skip
    refine lv_iconst (v := 0) hx hb dX10_isFree_26 (by decide) ?_
    exact hret _ _ _ _ _ _ ⟨0, rfl, rfl, (by first | exact zj_d1 (zj_bd ez1 ez2) (by assumption) (by assumption) | exact zj_d0 (zj_bd ez1 ez2) (by assumption) | exact zj_d2 (by assumption)), (by first | exact Or.inl rfl | exact Or.inr rfl | assumption)⟩ hw rfl dX10_isFree_27
  · skip
    refine lv_aload_n hx hb dX10_isFree_8 rfl (lv_at hl 0 rfl) ?_
    refine zz_get (v := .ref (r 58)) S hw fgX10_131 0 rfl rfl dX10_isFree_9 ?_
    refine lv_bipush (v := 6) hx hb dX10_isFree_12 (by decide) ?_
    refine lv_iload_n hx hb dX10_isFree_14 rfl (lv_at hl 1 rfl) ?_
    refine lv_imul hx hb dX10_isFree_15 ?_
    refine zz_topi (y := (nI (6 * pe))) (pk_mul _ _) ?_
    refine lv_iload_n hx hb dX10_isFree_16 rfl (lv_at hl 2 rfl) ?_
    refine lv_iadd hx hb dX10_isFree_17 ?_
    refine zz_topi (y := (nI ((6 * pe) + pa))) (nI_add _ _) ?_
    refine zz_iald (v := (c58 ((6 * pe) + pa))) S hw 1 rfl (vp_in_nI (n := ((6 * pe) + pa)) (by omega) (by decide)) (congrArg c58 (nI_clamp (n := ((6 * pe) + pa)) (by omega))) dX10_isFree_18 ?_
    refine W.eq (g2 := F0 m 19 ls [.int (c58 ((6 * pe) + pa))]) rfl ?_
    refine lv_if_lt (tgt := 26) hx hb dX10_isFree_19 (by decide) (fun c19_4 => ?_) (fun c19_4 => ?_)
    · skip
      refine lv_iconst (v := 0) hx hb dX10_isFree_26 (by decide) ?_
      exact hret _ _ _ _ _ _ ⟨0, rfl, rfl, (by first | exact zj_d1 (zj_bd ez1 ez2) (by assumption) (by assumption) | exact zj_d0 (zj_bd ez1 ez2) (by assumption) | exact zj_d2 (by assumption)), (by first | exact Or.inl rfl | exact Or.inr rfl | assumption)⟩ hw rfl dX10_isFree_27
    · skip
      refine lv_iconst (v := 1) hx hb dX10_isFree_22 (by decide) ?_
      refine lv_goto (tgt := 27) hx hb dX10_isFree_23 (by decide) ?_
      exact hret _ _ _ _ _ _ ⟨1, rfl, rfl, (by first | exact zj_d1 (zj_bd ez1 ez2) (by assumption) (by assumption) | exact zj_d0 (zj_bd ez1 ez2) (by assumption) | exact zj_d2 (by assumption)), (by first | exact Or.inl rfl | exact Or.inr rfl | assumption)⟩ hw rfl dX10_isFree_27
theorem kd_ncX10_with : kd_ck 251643047259154651305703312796602262963427605525546 21 cX10_with.data.toList 0 = true := by decide +kernel
theorem dX10_with_0 : decode cX10_with 0 = .ok (.aload_n 0, 1) := kd_dk0 kd_o42 kd_ncX10_with rfl
theorem dX10_with_1 : decode cX10_with 1 = .ok (.getfield 134, 3) := kd_dk2 kd_o180 kd_ncX10_with rfl
theorem dX10_with_4 : decode cX10_with 4 = .ok (.sipush 128, 3) := kd_dj2 kd_o17 (w := 128) kd_ncX10_with rfl rfl
theorem dX10_with_7 : decode cX10_with 7 = .ok (.iload_n 2, 1) := kd_dk0 kd_o28 kd_ncX10_with rfl
theorem dX10_with_8 : decode cX10_with 8 = .ok (.imul, 1) := kd_dk0 kd_o104 kd_ncX10_with rfl
theorem dX10_with_9 : decode cX10_with 9 = .ok (.sipush 128, 3) := kd_dj2 kd_o17 (w := 128) kd_ncX10_with rfl rfl
theorem dX10_with_12 : decode cX10_with 12 = .ok (.iadd, 1) := kd_dk0 kd_o96 kd_ncX10_with rfl
theorem dX10_with_13 : decode cX10_with 13 = .ok (.iload_n 3, 1) := kd_dk0 kd_o29 kd_ncX10_with rfl
theorem dX10_with_14 : decode cX10_with 14 = .ok (.iconst 1, 1) := kd_dk0 kd_o4 kd_ncX10_with rfl
theorem dX10_with_15 : decode cX10_with 15 = .ok (.iload_n 1, 1) := kd_dk0 kd_o27 kd_ncX10_with rfl
theorem dX10_with_16 : decode cX10_with 16 = .ok (.ishl, 1) := kd_dk0 kd_o120 kd_ncX10_with rfl
theorem dX10_with_17 : decode cX10_with 17 = .ok (.ior, 1) := kd_dk0 kd_o128 kd_ncX10_with rfl
theorem dX10_with_18 : decode cX10_with 18 = .ok (.iadd, 1) := kd_dk0 kd_o96 kd_ncX10_with rfl
theorem dX10_with_19 : decode cX10_with 19 = .ok (.iaload, 1) := kd_dk0 kd_o46 kd_ncX10_with rfl
theorem dX10_with_20 : decode cX10_with 20 = .ok (.ireturn, 1) := kd_dk0 kd_o172 kd_ncX10_with rfl
set_option maxHeartbeats 8000000 in
set_option maxRecDepth 100000 in
theorem c_x_with (l : Launch) (G : zz_G) (r : Nat → Nat) (j0 : Int32) (j2 : Int32) (j4 : Int32) (j10 : Int32) (j11 : Int32) (j12 : Int32) (j13 : Int32) (j14 : Int32) (j15 : Int32) (j16 : Int32) (j17 : Int32) (j18 : Int32) (j19 : Int32) (j20 : Int32) (j34 : Int32) (j40 : Int32) (j44 : Int32) (j47 : Int32) (j50 : Int32) (j51 : Int32) (j56 : Int32) (j61 : Int32) (c59 : Nat → Int32) (pe : Nat) (pa : Nat) (tk : Nat) (hpx : pe < 7) (hpy : pa < 6) (htk : tk < 128) : zz_M l G mX10_with 0 0 0 [.ref (r 0), .int (nI pe), .int (nI pa), .int (nI tk)] [((r 0), .inr (10, (zz_mo r [(0, j0), (2, j2), (4, j4), (10, j10), (11, j11), (12, j12), (13, j13), (14, j14), (15, j15), (16, j16), (17, j17), (18, j18), (19, j19), (20, j20), (34, j34), (40, j40), (44, j44), (47, j47), (50, j50), (51, j51), (56, j56), (61, j61)]))), ((r 59), .inl (G.2 0, 896, .inl c59))] (fun rr u => ∃ (rv : Int32), rr = some (.int rv) ∧ u = [((r 0), .inr (10, (zz_mo r [(0, j0), (2, j2), (4, j4), (10, j10), (11, j11), (12, j12), (13, j13), (14, j14), (15, j15), (16, j16), (17, j17), (18, j18), (19, j19), (20, j20), (34, j34), (40, j40), (44, j44), (47, j47), (50, j50), (51, j51), (56, j56), (61, j61)]))), ((r 59), .inl (G.2 0, 896, .inl c59))] ∧ (rv = c59 (128 * pa + 128 + zj_u tk pe))) := by
  refine zz_enteri (by decide +kernel) (Nat.le_of_ble_eq_true rfl) ?_
  intro p e s m args below meth c A Q ls S hnm hret hw hl
  have hl : lv_has ls 4 [(0, .ref (r 0)), (1, .int (nI pe)), (2, .int (nI pa)), (3, .int (nI tk))] := hl
  have hx := S.1
  have hb := S.2.1
  refine lv_aload_n hx hb dX10_with_0 rfl (lv_at hl 0 rfl) ?_
  refine zz_get (v := .ref (r 59)) S hw fgX10_134 0 rfl rfl dX10_with_1 ?_
  refine lv_sipush (v := 128) hx hb dX10_with_4 (by decide) ?_
  refine lv_iload_n hx hb dX10_with_7 rfl (lv_at hl 2 rfl) ?_
  refine lv_imul hx hb dX10_with_8 ?_
  refine zz_topi (y := (nI (128 * pa))) (pk_mul _ _) ?_
  refine lv_sipush (v := 128) hx hb dX10_with_9 (by decide) ?_
  refine lv_iadd hx hb dX10_with_12 ?_
  refine zz_topi (y := (nI ((128 * pa) + 128))) (nI_add _ _) ?_
  refine lv_iload_n hx hb dX10_with_13 rfl (lv_at hl 3 rfl) ?_
  refine lv_iconst (v := 1) hx hb dX10_with_14 (by decide) ?_
  refine lv_iload_n hx hb dX10_with_15 rfl (lv_at hl 1 rfl) ?_
  refine lv_ishl hx hb dX10_with_16 ?_
  refine lv_topi (fun z1 ez1 => ?_)
  refine lv_ior hx hb dX10_with_17 ?_
  obtain ⟨vw2, hvw2, evw2, edvw2⟩ := zj_or (s := tk) (q := pe) (by omega) (by omega) ez1
  refine zz_topi (y := (nI vw2)) (evw2) ?_
  refine lv_iadd hx hb dX10_with_18 ?_
  refine zz_topi (y := (nI (((128 * pa) + 128) + vw2))) (nI_add _ _) ?_
  refine zz_iald (v := (c59 (((128 * pa) + 128) + vw2))) S hw 1 rfl (vp_in_nI (n := (((128 * pa) + 128) + vw2)) (by omega) (by decide)) (congrArg c59 (nI_clamp (n := (((128 * pa) + 128) + vw2)) (by omega))) dX10_with_19 ?_
  refine W.eq (g2 := F0 m 20 ls [.int (c59 (((128 * pa) + 128) + vw2))]) rfl ?_
  exact hret _ _ _ _ _ _ ⟨(c59 (((128 * pa) + 128) + vw2)), rfl, rfl, (zj_wm edvw2)⟩ hw rfl dX10_with_20
theorem kd_ncX10_ends : kd_ck 88465253376085219733241294879635683434835592292899551024441181009830636571326382922808579 37 cX10_ends.data.toList 0 = true := by decide +kernel
theorem dX10_ends_0 : decode cX10_ends 0 = .ok (.iconst 0, 1) := kd_dk0 kd_o3 kd_ncX10_ends rfl
theorem dX10_ends_1 : decode cX10_ends 1 = .ok (.istore_n 2, 1) := kd_dk0 kd_o61 kd_ncX10_ends rfl
theorem dX10_ends_2 : decode cX10_ends 2 = .ok (.iload_n 2, 1) := kd_dk0 kd_o28 kd_ncX10_ends rfl
theorem dX10_ends_3 : decode cX10_ends 3 = .ok (.sipush 128, 3) := kd_dj2 kd_o17 (w := 128) kd_ncX10_ends rfl rfl
theorem dX10_ends_6 : decode cX10_ends 6 = .ok (.if_icmp .ge 30, 3) := kd_dj2 kd_o162 (w := 30) kd_ncX10_ends rfl rfl
theorem dX10_ends_9 : decode cX10_ends 9 = .ok (.aload_n 0, 1) := kd_dk0 kd_o42 kd_ncX10_ends rfl
theorem dX10_ends_10 : decode cX10_ends 10 = .ok (.getfield 134, 3) := kd_dk2 kd_o180 kd_ncX10_ends rfl
theorem dX10_ends_13 : decode cX10_ends 13 = .ok (.sipush 128, 3) := kd_dj2 kd_o17 (w := 128) kd_ncX10_ends rfl rfl
theorem dX10_ends_16 : decode cX10_ends 16 = .ok (.aload_n 0, 1) := kd_dk0 kd_o42 kd_ncX10_ends rfl
theorem dX10_ends_17 : decode cX10_ends 17 = .ok (.getfield 55, 3) := kd_dk2 kd_o180 kd_ncX10_ends rfl
theorem dX10_ends_20 : decode cX10_ends 20 = .ok (.aload_n 0, 1) := kd_dk0 kd_o42 kd_ncX10_ends rfl
theorem dX10_ends_21 : decode cX10_ends 21 = .ok (.getfield 236, 3) := kd_dk2 kd_o180 kd_ncX10_ends rfl
theorem dX10_ends_24 : decode cX10_ends 24 = .ok (.iaload, 1) := kd_dk0 kd_o46 kd_ncX10_ends rfl
theorem dX10_ends_25 : decode cX10_ends 25 = .ok (.imul, 1) := kd_dk0 kd_o104 kd_ncX10_ends rfl
theorem dX10_ends_26 : decode cX10_ends 26 = .ok (.iload_n 2, 1) := kd_dk0 kd_o28 kd_ncX10_ends rfl
theorem dX10_ends_27 : decode cX10_ends 27 = .ok (.iadd, 1) := kd_dk0 kd_o96 kd_ncX10_ends rfl
theorem dX10_ends_28 : decode cX10_ends 28 = .ok (.iload_n 1, 1) := kd_dk0 kd_o27 kd_ncX10_ends rfl
theorem dX10_ends_29 : decode cX10_ends 29 = .ok (.iastore, 1) := kd_dk0 kd_o79 kd_ncX10_ends rfl
theorem dX10_ends_30 : decode cX10_ends 30 = .ok (.iinc 2 1, 3) := kd_dji kd_o132 (w := 1) kd_ncX10_ends rfl rfl
theorem dX10_ends_33 : decode cX10_ends 33 = .ok (.goto (-31), 3) := kd_dj2 kd_o167 (w := 65505) kd_ncX10_ends rfl rfl
theorem dX10_ends_36 : decode cX10_ends 36 = .ok (.return_, 1) := kd_dk0 kd_o177 kd_ncX10_ends rfl
set_option maxHeartbeats 8000000 in
set_option maxRecDepth 100000 in
theorem c_x_ends (l : Launch) (G : zz_G) (r : Nat → Nat) (j0 : Int32) (j2 : Int32) (j4 : Int32) (j10 : Int32) (j11 : Int32) (j12 : Int32) (j13 : Int32) (j14 : Int32) (j15 : Int32) (j16 : Int32) (j17 : Int32) (j19 : Int32) (j20 : Int32) (j34 : Int32) (j40 : Int32) (j44 : Int32) (j47 : Int32) (j50 : Int32) (j51 : Int32) (j56 : Int32) (j61 : Int32) (lv : Nat) (pq : Nat) (c26 : Nat → Int32) (c59 : Nat → Int32) (ar1 : Int32) (hlv : lv ≤ 1) (hpa : c26 lv = nI pq) (hpq : pq ≤ 6) : zz_M l G mX10_ends 0 0 0 [.ref (r 0), .int ar1] [((r 0), .inr (10, (zz_mo r [(0, j0), (2, j2), (4, j4), (10, j10), (11, j11), (12, j12), (13, j13), (14, j14), (15, j15), (16, j16), (17, j17), (18, (nI lv)), (19, j19), (20, j20), (34, j34), (40, j40), (44, j44), (47, j47), (50, j50), (51, j51), (56, j56), (61, j61)]))), ((r 26), .inl (G.2 0, 2, .inl c26)), ((r 59), .inl (G.2 0, 896, .inl c59))] (fun rr u => ∃ (d59 : Nat → Int32), rr = none ∧ u = [((r 0), .inr (10, (zz_mo r [(0, j0), (2, j2), (4, j4), (10, j10), (11, j11), (12, j12), (13, j13), (14, j14), (15, j15), (16, j16), (17, j17), (18, (nI lv)), (19, j19), (20, j20), (34, j34), (40, j40), (44, j44), (47, j47), (50, j50), (51, j51), (56, j56), (61, j61)]))), ((r 26), .inl (G.2 0, 2, .inl c26)), ((r 59), .inl (G.2 0, 896, .inl d59))] ∧ (∀ s, s < 128 → d59 (128 * pq + s) = ar1)) := by
  refine zz_enterv (by decide +kernel) (Nat.le_of_ble_eq_true rfl) ?_
  intro p e s m args below meth c A Q ls S hnm hret hw hl
  have hl : lv_has ls 3 [(0, .ref (r 0)), (1, .int ar1)] := hl
  have hx := S.1
  have hb := S.2.1
  refine lv_iconst (v := 0) hx hb dX10_ends_0 (by decide) ?_
  refine lv_istore_n (lv' := [(2, .int 0), (0, .ref (r 0)), (1, .int ar1)]) hx hb dX10_ends_1 rfl hl (by decide) rfl (fun ls hl => ?_)
  have lp2_7 : ∀ (vn2 vi1 : Nat) (vF4 : Nat → Int32) (H : Heap) (locs : List Loc) (ls : Array Slot), vi1 ≤ 128 → 128 < vi1 + vn2 → (∀ s, s < vi1 → vF4 (128 * pq + s) = ar1) → zz_w G A s [((r 0), .inr (10, (zz_mo r [(0, j0), (2, j2), (4, j4), (10, j10), (11, j11), (12, j12), (13, j13), (14, j14), (15, j15), (16, j16), (17, j17), (18, (nI lv)), (19, j19), (20, j20), (34, j34), (40, j40), (44, j44), (47, j47), (50, j50), (51, j51), (56, j56), (61, j61)]))), ((r 26), .inl (G.2 0, 2, .inl c26)), ((r 59), .inl (G.2 0, 896, .inl vF4))] H locs → lv_has ls 3 [(2, .int (nI vi1)), (0, .ref (r 0)), (1, .int ar1)] → W p l e (zz_rm 0 0 0) s m args below meth c H locs (0) (0) Q (F0 m 2 ls []) := by
    intro vn2
    induction vn2 with
    | zero => intro vi1 vF4 H locs ls hi1 hi2; exact absurd hi2 (by omega)
    | succ vn2 ih2 =>
      intro vi1 vF4 H locs ls hi2a hi2b hv2_6 hw hl
      refine lv_iload_n hx hb dX10_ends_2 rfl (lv_at hl 0 rfl) ?_
      refine lv_sipush (v := 128) hx hb dX10_ends_3 (by decide) ?_
      refine lv_icmp_ge (tgt := 36) hx hb dX10_ends_6 (by decide) (fun c6_8 => ?_) (fun c6_8 => ?_)
      · skip
        have c6_8n : 128 ≤ vi1 := (zz_le (a := 128) (b := vi1) rfl rfl (by omega) (by omega)).mp c6_8
        exact hret _ _ _ _ _ ⟨vF4, rfl, rfl, (fun s hs => hv2_6 s (by omega))⟩ hw dX10_ends_36
      · skip
        have c6_8n : ¬ (128 ≤ vi1) := fun z => c6_8 ((zz_le (a := 128) (b := vi1) rfl rfl (by omega) (by omega)).mpr z)
        refine lv_aload_n hx hb dX10_ends_9 rfl (lv_at hl 1 rfl) ?_
        refine zz_get (v := .ref (r 59)) S hw fgX10_134 0 rfl rfl dX10_ends_10 ?_
        refine lv_sipush (v := 128) hx hb dX10_ends_13 (by decide) ?_
        refine lv_aload_n hx hb dX10_ends_16 rfl (lv_at hl 1 rfl) ?_
        refine zz_get (v := .ref (r 26)) S hw fgX10_55 0 rfl rfl dX10_ends_17 ?_
        refine lv_aload_n hx hb dX10_ends_20 rfl (lv_at hl 1 rfl) ?_
        refine zz_get (v := .int (nI lv)) S hw fgX10_236 0 rfl rfl dX10_ends_21 ?_
        refine zz_iald (v := (nI pq)) S hw 1 rfl (vp_in_nI (n := lv) (by omega) (by decide)) (by rw [show ((nI lv) : Int32).toNatClampNeg = lv from nI_clamp (n := lv) (by omega)]; exact hpa) dX10_ends_24 ?_
        refine lv_imul hx hb dX10_ends_25 ?_
        refine zz_topi (y := (nI (128 * pq))) (pk_mul _ _) ?_
        refine lv_iload_n hx hb dX10_ends_26 rfl (lv_at hl 0 rfl) ?_
        refine W.eq (g2 := F0 m 27 ls [.int (nI vi1), .int (nI (128 * pq)), .ref (r 59)]) rfl ?_
        refine lv_iadd hx hb dX10_ends_27 ?_
        refine zz_topi (y := (nI ((128 * pq) + vi1))) (nI_add _ _) ?_
        refine lv_iload_n hx hb dX10_ends_28 rfl (lv_at hl 2 rfl) ?_
        refine zz_iast (ws' := [((r 0), .inr (10, (zz_mo r [(0, j0), (2, j2), (4, j4), (10, j10), (11, j11), (12, j12), (13, j13), (14, j14), (15, j15), (16, j16), (17, j17), (18, (nI lv)), (19, j19), (20, j20), (34, j34), (40, j40), (44, j44), (47, j47), (50, j50), (51, j51), (56, j56), (61, j61)]))), ((r 26), .inl (G.2 0, 2, .inl c26)), ((r 59), .inl (G.2 0, 896, .inl (upd vF4 ((128 * pq) + vi1) ar1)))]) (g := (upd vF4 ((128 * pq) + vi1) ar1)) S hw 2 rfl (vp_in_nI (n := ((128 * pq) + vi1)) (by omega) (by decide)) (zz_upn (n := ((128 * pq) + vi1)) (by omega)) rfl dX10_ends_29 ?_
        clear hw
        intro H locs hw
        refine lv_iinc (v := (nI (vi1 + 1))) (lv' := [(2, .int (nI (vi1 + 1))), (0, .ref (r 0)), (1, .int ar1)]) hx hb dX10_ends_30 hl (k := 0) rfl (nI_add _ 1) (by decide) rfl (fun ls hl => ?_)
        refine lv_goto (tgt := 2) hx hb dX10_ends_33 (by decide) ?_
        exact ih2 (vi1 + 1) (upd vF4 ((128 * pq) + vi1) ar1) _ _ _ (by omega) (by omega) (zj_z2 hv2_6) hw (lv_sub hl [0, 1, 2] rfl)
  exact lp2_7 (128 + 1 - 0) 0 c59 _ _ _ (by omega) (by omega) (fun s hs => absurd hs (Nat.not_lt_zero s)) hw (lv_sub hl [0, 1, 2] rfl)
theorem kd_ncX10_fillsGiven : kd_ck 13128933729261605854516294409183035820866731590694787625047509822930940955692715155284230639565178603377466224316811539396568634173501249426950881866240488009327418518907026372700146454482846671007993024680988657108305456661933996560232496650320335262222647212101901818145022233788744741830461245113463211265800346367230865071471018706353433482238452361481123445984820734506 155 cX10_fillsGiven.data.toList 0 = true := by decide +kernel
theorem dX10_fillsGiven_0 : decode cX10_fillsGiven 0 = .ok (.aload_n 0, 1) := kd_dk0 kd_o42 kd_ncX10_fillsGiven rfl
theorem dX10_fillsGiven_1 : decode cX10_fillsGiven 1 = .ok (.aload_n 0, 1) := kd_dk0 kd_o42 kd_ncX10_fillsGiven rfl
theorem dX10_fillsGiven_2 : decode cX10_fillsGiven 2 = .ok (.getfield 67, 3) := kd_dk2 kd_o180 kd_ncX10_fillsGiven rfl
theorem dX10_fillsGiven_5 : decode cX10_fillsGiven 5 = .ok (.aload_n 0, 1) := kd_dk0 kd_o42 kd_ncX10_fillsGiven rfl
theorem dX10_fillsGiven_6 : decode cX10_fillsGiven 6 = .ok (.getfield 236, 3) := kd_dk2 kd_o180 kd_ncX10_fillsGiven rfl
theorem dX10_fillsGiven_9 : decode cX10_fillsGiven 9 = .ok (.iaload, 1) := kd_dk0 kd_o46 kd_ncX10_fillsGiven rfl
theorem dX10_fillsGiven_10 : decode cX10_fillsGiven 10 = .ok (.invokevirtual 403, 3) := kd_dk2 kd_o182 kd_ncX10_fillsGiven rfl
theorem dX10_fillsGiven_13 : decode cX10_fillsGiven 13 = .ok (.aload_n 0, 1) := kd_dk0 kd_o42 kd_ncX10_fillsGiven rfl
theorem dX10_fillsGiven_14 : decode cX10_fillsGiven 14 = .ok (.iconst 0, 1) := kd_dk0 kd_o3 kd_ncX10_fillsGiven rfl
theorem dX10_fillsGiven_15 : decode cX10_fillsGiven 15 = .ok (.invokevirtual 406, 3) := kd_dk2 kd_o182 kd_ncX10_fillsGiven rfl
theorem dX10_fillsGiven_18 : decode cX10_fillsGiven 18 = .ok (.aload_n 0, 1) := kd_dk0 kd_o42 kd_ncX10_fillsGiven rfl
theorem dX10_fillsGiven_19 : decode cX10_fillsGiven 19 = .ok (.getfield 55, 3) := kd_dk2 kd_o180 kd_ncX10_fillsGiven rfl
theorem dX10_fillsGiven_22 : decode cX10_fillsGiven 22 = .ok (.aload_n 0, 1) := kd_dk0 kd_o42 kd_ncX10_fillsGiven rfl
theorem dX10_fillsGiven_23 : decode cX10_fillsGiven 23 = .ok (.getfield 236, 3) := kd_dk2 kd_o180 kd_ncX10_fillsGiven rfl
theorem dX10_fillsGiven_26 : decode cX10_fillsGiven 26 = .ok (.iaload, 1) := kd_dk0 kd_o46 kd_ncX10_fillsGiven rfl
theorem dX10_fillsGiven_27 : decode cX10_fillsGiven 27 = .ok (.iconst 1, 1) := kd_dk0 kd_o4 kd_ncX10_fillsGiven rfl
theorem dX10_fillsGiven_28 : decode cX10_fillsGiven 28 = .ok (.isub, 1) := kd_dk0 kd_o100 kd_ncX10_fillsGiven rfl
theorem dX10_fillsGiven_29 : decode cX10_fillsGiven 29 = .ok (.istore_n 1, 1) := kd_dk0 kd_o60 kd_ncX10_fillsGiven rfl
theorem dX10_fillsGiven_30 : decode cX10_fillsGiven 30 = .ok (.iload_n 1, 1) := kd_dk0 kd_o27 kd_ncX10_fillsGiven rfl
theorem dX10_fillsGiven_31 : decode cX10_fillsGiven 31 = .ok (.ifCond .lt 123, 3) := kd_dj2 kd_o155 (w := 123) kd_ncX10_fillsGiven rfl rfl
theorem dX10_fillsGiven_34 : decode cX10_fillsGiven 34 = .ok (.iconst 0, 1) := kd_dk0 kd_o3 kd_ncX10_fillsGiven rfl
theorem dX10_fillsGiven_35 : decode cX10_fillsGiven 35 = .ok (.istore_n 2, 1) := kd_dk0 kd_o61 kd_ncX10_fillsGiven rfl
theorem dX10_fillsGiven_36 : decode cX10_fillsGiven 36 = .ok (.iload_n 2, 1) := kd_dk0 kd_o28 kd_ncX10_fillsGiven rfl
theorem dX10_fillsGiven_37 : decode cX10_fillsGiven 37 = .ok (.sipush 128, 3) := kd_dj2 kd_o17 (w := 128) kd_ncX10_fillsGiven rfl rfl
theorem dX10_fillsGiven_40 : decode cX10_fillsGiven 40 = .ok (.if_icmp .ge 108, 3) := kd_dj2 kd_o162 (w := 108) kd_ncX10_fillsGiven rfl rfl
theorem dX10_fillsGiven_43 : decode cX10_fillsGiven 43 = .ok (.aload_n 0, 1) := kd_dk0 kd_o42 kd_ncX10_fillsGiven rfl
theorem dX10_fillsGiven_44 : decode cX10_fillsGiven 44 = .ok (.getfield 134, 3) := kd_dk2 kd_o180 kd_ncX10_fillsGiven rfl
theorem dX10_fillsGiven_47 : decode cX10_fillsGiven 47 = .ok (.sipush 128, 3) := kd_dj2 kd_o17 (w := 128) kd_ncX10_fillsGiven rfl rfl
theorem dX10_fillsGiven_50 : decode cX10_fillsGiven 50 = .ok (.iload_n 1, 1) := kd_dk0 kd_o27 kd_ncX10_fillsGiven rfl
theorem dX10_fillsGiven_51 : decode cX10_fillsGiven 51 = .ok (.imul, 1) := kd_dk0 kd_o104 kd_ncX10_fillsGiven rfl
theorem dX10_fillsGiven_52 : decode cX10_fillsGiven 52 = .ok (.sipush 128, 3) := kd_dj2 kd_o17 (w := 128) kd_ncX10_fillsGiven rfl rfl
theorem dX10_fillsGiven_55 : decode cX10_fillsGiven 55 = .ok (.iadd, 1) := kd_dk0 kd_o96 kd_ncX10_fillsGiven rfl
theorem dX10_fillsGiven_56 : decode cX10_fillsGiven 56 = .ok (.iload_n 2, 1) := kd_dk0 kd_o28 kd_ncX10_fillsGiven rfl
theorem dX10_fillsGiven_57 : decode cX10_fillsGiven 57 = .ok (.iadd, 1) := kd_dk0 kd_o96 kd_ncX10_fillsGiven rfl
theorem dX10_fillsGiven_58 : decode cX10_fillsGiven 58 = .ok (.iaload, 1) := kd_dk0 kd_o46 kd_ncX10_fillsGiven rfl
theorem dX10_fillsGiven_59 : decode cX10_fillsGiven 59 = .ok (.istore_n 3, 1) := kd_dk0 kd_o62 kd_ncX10_fillsGiven rfl
theorem dX10_fillsGiven_60 : decode cX10_fillsGiven 60 = .ok (.iconst 0, 1) := kd_dk0 kd_o3 kd_ncX10_fillsGiven rfl
theorem dX10_fillsGiven_61 : decode cX10_fillsGiven 61 = .ok (.istore 4, 2) := kd_dk1 kd_o54 kd_ncX10_fillsGiven rfl
theorem dX10_fillsGiven_63 : decode cX10_fillsGiven 63 = .ok (.iload 4, 2) := kd_dk1 kd_o21 kd_ncX10_fillsGiven rfl
theorem dX10_fillsGiven_65 : decode cX10_fillsGiven 65 = .ok (.aload_n 0, 1) := kd_dk0 kd_o42 kd_ncX10_fillsGiven rfl
theorem dX10_fillsGiven_66 : decode cX10_fillsGiven 66 = .ok (.getfield 43, 3) := kd_dk2 kd_o180 kd_ncX10_fillsGiven rfl
theorem dX10_fillsGiven_69 : decode cX10_fillsGiven 69 = .ok (.aload_n 0, 1) := kd_dk0 kd_o42 kd_ncX10_fillsGiven rfl
theorem dX10_fillsGiven_70 : decode cX10_fillsGiven 70 = .ok (.getfield 236, 3) := kd_dk2 kd_o180 kd_ncX10_fillsGiven rfl
theorem dX10_fillsGiven_73 : decode cX10_fillsGiven 73 = .ok (.iaload, 1) := kd_dk0 kd_o46 kd_ncX10_fillsGiven rfl
theorem dX10_fillsGiven_74 : decode cX10_fillsGiven 74 = .ok (.if_icmp .ge 55, 3) := kd_dj2 kd_o162 (w := 55) kd_ncX10_fillsGiven rfl rfl
theorem dX10_fillsGiven_77 : decode cX10_fillsGiven 77 = .ok (.aload_n 0, 1) := kd_dk0 kd_o42 kd_ncX10_fillsGiven rfl
theorem dX10_fillsGiven_78 : decode cX10_fillsGiven 78 = .ok (.iload 4, 2) := kd_dk1 kd_o21 kd_ncX10_fillsGiven rfl
theorem dX10_fillsGiven_80 : decode cX10_fillsGiven 80 = .ok (.iload_n 1, 1) := kd_dk0 kd_o27 kd_ncX10_fillsGiven rfl
theorem dX10_fillsGiven_81 : decode cX10_fillsGiven 81 = .ok (.iload_n 2, 1) := kd_dk0 kd_o28 kd_ncX10_fillsGiven rfl
theorem dX10_fillsGiven_82 : decode cX10_fillsGiven 82 = .ok (.invokevirtual 409, 3) := kd_dk2 kd_o182 kd_ncX10_fillsGiven rfl
theorem dX10_fillsGiven_85 : decode cX10_fillsGiven 85 = .ok (.ifCond .ne 6, 3) := kd_dj2 kd_o154 (w := 6) kd_ncX10_fillsGiven rfl rfl
theorem dX10_fillsGiven_88 : decode cX10_fillsGiven 88 = .ok (.goto 35, 3) := kd_dj2 kd_o167 (w := 35) kd_ncX10_fillsGiven rfl rfl
theorem dX10_fillsGiven_91 : decode cX10_fillsGiven 91 = .ok (.aload_n 0, 1) := kd_dk0 kd_o42 kd_ncX10_fillsGiven rfl
theorem dX10_fillsGiven_92 : decode cX10_fillsGiven 92 = .ok (.getfield 131, 3) := kd_dk2 kd_o180 kd_ncX10_fillsGiven rfl
theorem dX10_fillsGiven_95 : decode cX10_fillsGiven 95 = .ok (.bipush 6, 2) := kd_dj1 kd_o16 (w := 6) kd_ncX10_fillsGiven rfl rfl
theorem dX10_fillsGiven_97 : decode cX10_fillsGiven 97 = .ok (.iload 4, 2) := kd_dk1 kd_o21 kd_ncX10_fillsGiven rfl
theorem dX10_fillsGiven_99 : decode cX10_fillsGiven 99 = .ok (.imul, 1) := kd_dk0 kd_o104 kd_ncX10_fillsGiven rfl
theorem dX10_fillsGiven_100 : decode cX10_fillsGiven 100 = .ok (.iload_n 1, 1) := kd_dk0 kd_o27 kd_ncX10_fillsGiven rfl
theorem dX10_fillsGiven_101 : decode cX10_fillsGiven 101 = .ok (.iadd, 1) := kd_dk0 kd_o96 kd_ncX10_fillsGiven rfl
theorem dX10_fillsGiven_102 : decode cX10_fillsGiven 102 = .ok (.iaload, 1) := kd_dk0 kd_o46 kd_ncX10_fillsGiven rfl
theorem dX10_fillsGiven_103 : decode cX10_fillsGiven 103 = .ok (.aload_n 0, 1) := kd_dk0 kd_o42 kd_ncX10_fillsGiven rfl
theorem dX10_fillsGiven_104 : decode cX10_fillsGiven 104 = .ok (.iload 4, 2) := kd_dk1 kd_o21 kd_ncX10_fillsGiven rfl
theorem dX10_fillsGiven_106 : decode cX10_fillsGiven 106 = .ok (.iload_n 1, 1) := kd_dk0 kd_o27 kd_ncX10_fillsGiven rfl
theorem dX10_fillsGiven_107 : decode cX10_fillsGiven 107 = .ok (.iload_n 2, 1) := kd_dk0 kd_o28 kd_ncX10_fillsGiven rfl
theorem dX10_fillsGiven_108 : decode cX10_fillsGiven 108 = .ok (.invokevirtual 412, 3) := kd_dk2 kd_o182 kd_ncX10_fillsGiven rfl
theorem dX10_fillsGiven_111 : decode cX10_fillsGiven 111 = .ok (.iadd, 1) := kd_dk0 kd_o96 kd_ncX10_fillsGiven rfl
theorem dX10_fillsGiven_112 : decode cX10_fillsGiven 112 = .ok (.istore 5, 2) := kd_dk1 kd_o54 kd_ncX10_fillsGiven rfl
theorem dX10_fillsGiven_114 : decode cX10_fillsGiven 114 = .ok (.iload 5, 2) := kd_dk1 kd_o21 kd_ncX10_fillsGiven rfl
theorem dX10_fillsGiven_116 : decode cX10_fillsGiven 116 = .ok (.iload_n 3, 1) := kd_dk0 kd_o29 kd_ncX10_fillsGiven rfl
theorem dX10_fillsGiven_117 : decode cX10_fillsGiven 117 = .ok (.if_icmp .le 6, 3) := kd_dj2 kd_o164 (w := 6) kd_ncX10_fillsGiven rfl rfl
theorem dX10_fillsGiven_120 : decode cX10_fillsGiven 120 = .ok (.iload 5, 2) := kd_dk1 kd_o21 kd_ncX10_fillsGiven rfl
theorem dX10_fillsGiven_122 : decode cX10_fillsGiven 122 = .ok (.istore_n 3, 1) := kd_dk0 kd_o62 kd_ncX10_fillsGiven rfl
theorem dX10_fillsGiven_123 : decode cX10_fillsGiven 123 = .ok (.iinc 4 1, 3) := kd_dji kd_o132 (w := 1) kd_ncX10_fillsGiven rfl rfl
theorem dX10_fillsGiven_126 : decode cX10_fillsGiven 126 = .ok (.goto (-63), 3) := kd_dj2 kd_o167 (w := 65473) kd_ncX10_fillsGiven rfl rfl
theorem dX10_fillsGiven_129 : decode cX10_fillsGiven 129 = .ok (.aload_n 0, 1) := kd_dk0 kd_o42 kd_ncX10_fillsGiven rfl
theorem dX10_fillsGiven_130 : decode cX10_fillsGiven 130 = .ok (.getfield 134, 3) := kd_dk2 kd_o180 kd_ncX10_fillsGiven rfl
theorem dX10_fillsGiven_133 : decode cX10_fillsGiven 133 = .ok (.sipush 128, 3) := kd_dj2 kd_o17 (w := 128) kd_ncX10_fillsGiven rfl rfl
theorem dX10_fillsGiven_136 : decode cX10_fillsGiven 136 = .ok (.iload_n 1, 1) := kd_dk0 kd_o27 kd_ncX10_fillsGiven rfl
theorem dX10_fillsGiven_137 : decode cX10_fillsGiven 137 = .ok (.imul, 1) := kd_dk0 kd_o104 kd_ncX10_fillsGiven rfl
theorem dX10_fillsGiven_138 : decode cX10_fillsGiven 138 = .ok (.iload_n 2, 1) := kd_dk0 kd_o28 kd_ncX10_fillsGiven rfl
theorem dX10_fillsGiven_139 : decode cX10_fillsGiven 139 = .ok (.iadd, 1) := kd_dk0 kd_o96 kd_ncX10_fillsGiven rfl
theorem dX10_fillsGiven_140 : decode cX10_fillsGiven 140 = .ok (.iload_n 3, 1) := kd_dk0 kd_o29 kd_ncX10_fillsGiven rfl
theorem dX10_fillsGiven_141 : decode cX10_fillsGiven 141 = .ok (.iastore, 1) := kd_dk0 kd_o79 kd_ncX10_fillsGiven rfl
theorem dX10_fillsGiven_142 : decode cX10_fillsGiven 142 = .ok (.iinc 2 1, 3) := kd_dji kd_o132 (w := 1) kd_ncX10_fillsGiven rfl rfl
theorem dX10_fillsGiven_145 : decode cX10_fillsGiven 145 = .ok (.goto (-109), 3) := kd_dj2 kd_o167 (w := 65427) kd_ncX10_fillsGiven rfl rfl
theorem dX10_fillsGiven_148 : decode cX10_fillsGiven 148 = .ok (.iinc 1 (-1), 3) := kd_dji kd_o132 (w := 255) kd_ncX10_fillsGiven rfl rfl
theorem dX10_fillsGiven_151 : decode cX10_fillsGiven 151 = .ok (.goto (-121), 3) := kd_dj2 kd_o167 (w := 65415) kd_ncX10_fillsGiven rfl rfl
theorem dX10_fillsGiven_154 : decode cX10_fillsGiven 154 = .ok (.return_, 1) := kd_dk0 kd_o177 kd_ncX10_fillsGiven rfl
set_option maxHeartbeats 8000000 in
set_option maxRecDepth 100000 in
theorem c_x_fillsGiven (l : Launch) (G : zz_G) (r : Nat → Nat) (j0 : Int32) (j2 : Int32) (j4 : Int32) (j10 : Int32) (j11 : Int32) (j12 : Int32) (j13 : Int32) (j14 : Int32) (j15 : Int32) (j16 : Int32) (j17 : Int32) (j19 : Int32) (j20 : Int32) (j34 : Int32) (j40 : Int32) (j44 : Int32) (j47 : Int32) (j50 : Int32) (j51 : Int32) (j56 : Int32) (j61 : Int32) (lv : Nat) (pp : Nat) (pq : Nat) (c22 : Nat → Int32) (c24 : Nat → Int32) (c25 : Nat → Int32) (c26 : Nat → Int32) (c28 : Nat → Int32) (c29 : Nat → Int32) (c30 : Nat → Int32) (c31 : Nat → Int32) (c32 : Nat → Int32) (c33 : Nat → Int32) (c35 : Nat → Int32) (c36 : Nat → Int32) (c37 : Nat → Int32) (c38 : Nat → Int32) (c39 : Nat → Int32) (c41 : Nat → Int32) (c42 : Nat → Int32) (c45 : Nat → Int32) (c46 : Nat → Int32) (c48 : Nat → Int32) (c49 : Nat → Int32) (c58 : Nat → Int32) (c59 : Nat → Int32) (hlv : lv ≤ 1) (hpe : c22 lv = nI pp) (hpp : pp ≤ 7) (hpa : c26 lv = nI pq) (hpq : pq ≤ 6) (hlw : zz_LW 2 0 0 c32 c33 c35 c36 c37 c38 c39 c41 c42) : zz_M l G mX10_fillsGiven 5 0 0 [.ref (r 0)] [((r 0), .inr (10, (zz_mo r [(0, j0), (2, j2), (4, j4), (10, j10), (11, j11), (12, j12), (13, j13), (14, j14), (15, j15), (16, j16), (17, j17), (18, (nI lv)), (19, j19), (20, j20), (34, j34), (40, j40), (44, j44), (47, j47), (50, j50), (51, j51), (56, j56), (61, j61)]))), ((r 22), .inl (G.2 0, 2, .inl c22)), ((r 24), .inl (G.2 0, 14, .inl c24)), ((r 25), .inl (G.2 0, 14, .inl c25)), ((r 26), .inl (G.2 0, 2, .inl c26)), ((r 28), .inl (G.2 0, 12, .inl c28)), ((r 29), .inl (G.2 0, 12, .inl c29)), ((r 30), .inl (G.2 0, 2, .inl c30)), ((r 31), .inl (G.2 0, 2, .inl c31)), ((r 32), .inl (G.2 0, 8, .inl c32)), ((r 33), .inl (G.2 0, 8, .inl c33)), ((r 35), .inl (G.2 2, 260, .inl c35)), ((r 36), .inl (G.2 0, 260, .inl c36)), ((r 37), .inl (G.2 0, 260, .inl c37)), ((r 38), .inl (G.2 0, 260, .inl c38)), ((r 39), .inl (G.2 0, 260, .inl c39)), ((r 41), .inl (G.2 0, 840, .inl c41)), ((r 42), .inl (G.2 0, 840, .inl c42)), ((r 45), .inl (G.2 0, 9, .inl c45)), ((r 46), .inl (G.2 0, 400, .inl c46)), ((r 48), .inl (G.2 0, 71, .inl c48)), ((r 49), .inl (G.2 0, 71, .inl c49)), ((r 58), .inl (G.2 0, 42, .inl c58)), ((r 59), .inl (G.2 0, 896, .inl c59))] (fun rr u => ∃ (k47 : Int32), ∃ (k50 : Int32), ∃ (k51 : Int32), ∃ (d45 : Nat → Int32), ∃ (d46 : Nat → Int32), ∃ (d49 : Nat → Int32), ∃ (d58 : Nat → Int32), ∃ (d59 : Nat → Int32), rr = none ∧ u = [((r 0), .inr (10, (zz_mo r [(0, j0), (2, j2), (4, j4), (10, j10), (11, j11), (12, j12), (13, j13), (14, j14), (15, j15), (16, j16), (17, j17), (18, (nI lv)), (19, j19), (20, j20), (34, j34), (40, j40), (44, j44), (47, k47), (50, k50), (51, k51), (56, j56), (61, j61)]))), ((r 22), .inl (G.2 0, 2, .inl c22)), ((r 24), .inl (G.2 0, 14, .inl c24)), ((r 25), .inl (G.2 0, 14, .inl c25)), ((r 26), .inl (G.2 0, 2, .inl c26)), ((r 28), .inl (G.2 0, 12, .inl c28)), ((r 29), .inl (G.2 0, 12, .inl c29)), ((r 30), .inl (G.2 0, 2, .inl c30)), ((r 31), .inl (G.2 0, 2, .inl c31)), ((r 32), .inl (G.2 0, 8, .inl c32)), ((r 33), .inl (G.2 0, 8, .inl c33)), ((r 35), .inl (G.2 2, 260, .inl c35)), ((r 36), .inl (G.2 0, 260, .inl c36)), ((r 37), .inl (G.2 0, 260, .inl c37)), ((r 38), .inl (G.2 0, 260, .inl c38)), ((r 39), .inl (G.2 0, 260, .inl c39)), ((r 41), .inl (G.2 0, 840, .inl c41)), ((r 42), .inl (G.2 0, 840, .inl c42)), ((r 45), .inl (G.2 0, 9, .inl d45)), ((r 46), .inl (G.2 0, 400, .inl d46)), ((r 48), .inl (G.2 0, 71, .inl c48)), ((r 49), .inl (G.2 0, 71, .inl d49)), ((r 58), .inl (G.2 0, 42, .inl d58)), ((r 59), .inl (G.2 0, 896, .inl d59))] ∧ (zy_q 71 c48 d49) ∧ ((∀ Λ, (zr_HD lv c32 c33 c35 c36 c37 c38 c39 c41 c42 (c30 lv)) Λ → ∀ i j, i < pp → j < pq → d58 (6 * i + j) = zj_p ((zr_Sx 99 lv d49 c24 c28 c25 c29 (Λ 0)) i j) (c30 lv) (d49 (14 + i) = 1) (-1))) ∧ (zj_J (fun a p => ¬ d58 (6 * a + p) < 0) (fun a p => d58 (6 * a + p)) pp pq 128 0 d59)) := by
  refine zz_enterv (by decide +kernel) (Nat.le_of_ble_eq_true rfl) ?_
  intro p e s m args below meth c A Q ls S hnm hret hw hl
  have hl : lv_has ls 6 [(0, .ref (r 0))] := hl
  have hx := S.1
  have hb := S.2.1
  refine lv_aload_n hx hb dX10_fillsGiven_0 rfl (lv_at hl 0 rfl) ?_
  refine lv_aload_n hx hb dX10_fillsGiven_1 rfl (lv_at hl 0 rfl) ?_
  refine zz_get (v := .ref (r 30)) S hw fgX10_67 0 rfl rfl dX10_fillsGiven_2 ?_
  refine lv_aload_n hx hb dX10_fillsGiven_5 rfl (lv_at hl 0 rfl) ?_
  refine zz_get (v := .int (nI lv)) S hw fgX10_236 0 rfl rfl dX10_fillsGiven_6 ?_
  refine zz_iald (v := (c30 lv)) S hw 7 rfl (vp_in_nI (n := lv) (by omega) (by decide)) (congrArg c30 (nI_clamp (n := lv) (by omega))) dX10_fillsGiven_9 ?_
  refine zz_callV (qb := 0) (As := [.int (c30 lv)]) (rest := []) (wr := [((r 59), .inl (G.2 0, 896, .inl c59))]) S hw hl.1 lX10_403 (c_x_fillsStands l G r j0 j2 j4 j10 j11 j12 j13 j14 j15 j16 j17 j19 j20 j34 j40 j44 j47 j50 j51 j56 j61 lv pp pq c22 c24 c25 c26 c28 c29 c30 c31 c32 c33 c35 c36 c37 c38 c39 c41 c42 c45 c46 c48 c49 c58 (c30 lv) (by first | assumption | omega | exact Or.inr ⟨_, by omega, rfl⟩ | (unfold zz_sok; decide) | decide | exact (fun j hj => (hv7 j hj).1)) (by first | assumption | omega | exact Or.inr ⟨_, by omega, rfl⟩ | (unfold zz_sok; decide) | decide | exact (fun j hj => (hv7 j hj).1)) (by first | assumption | omega | exact Or.inr ⟨_, by omega, rfl⟩ | (unfold zz_sok; decide) | decide | exact (fun j hj => (hv7 j hj).1)) (by first | assumption | omega | exact Or.inr ⟨_, by omega, rfl⟩ | (unfold zz_sok; decide) | decide | exact (fun j hj => (hv7 j hj).1)) (by first | assumption | omega | exact Or.inr ⟨_, by omega, rfl⟩ | (unfold zz_sok; decide) | decide | exact (fun j hj => (hv7 j hj).1)) (by first | assumption | omega | exact Or.inr ⟨_, by omega, rfl⟩ | (unfold zz_sok; decide) | decide | exact (fun j hj => (hv7 j hj).1))) ⟨Nat.le_of_ble_eq_true rfl, Nat.le_of_ble_eq_true rfl⟩ ⟨Nat.le_of_ble_eq_true rfl, Nat.le_of_ble_eq_true rfl⟩ [0, 1, 2, 3, 4, 5, 6, 7, 8, 9, 10, 11, 12, 13, 14, 15, 16, 17, 18, 19, 20, 21, 22] [23] (by decide +kernel) rfl rfl (by decide +kernel) (by decide +kernel) rfl rfl rfl rfl (Nat.le_of_ble_eq_true rfl) dX10_fillsGiven_10 ?_
  clear hw
  intro rr u H locs hp hw
  refine hp.elim fun k47_1 zg0 => zg0.elim fun k50_2 zg1 => zg1.elim fun k51_3 zg2 => zg2.elim fun d45_4 zg3 => zg3.elim fun d46_5 zg4 => zg4.elim fun d49_6 zg5 => zg5.elim fun d58_7 zg6 => zg6.elim fun zee1 zg7 => zg7.elim fun zee2 zg8 => zg8.elim fun hq10_0 hq10_1 => ?_
  clear hp zg0 zg1 zg2 zg3 zg4 zg5 zg6 zg7 zg8
  subst zee1
  subst zee2
  replace hw : zz_w G A s [((r 59), .inl (G.2 0, 896, .inl c59)), ((r 0), .inr (10, (zz_mo r [(0, j0), (2, j2), (4, j4), (10, j10), (11, j11), (12, j12), (13, j13), (14, j14), (15, j15), (16, j16), (17, j17), (18, (nI lv)), (19, j19), (20, j20), (34, j34), (40, j40), (44, j44), (47, k47_1), (50, k50_2), (51, k51_3), (56, j56), (61, j61)]))), ((r 22), .inl (G.2 0, 2, .inl c22)), ((r 24), .inl (G.2 0, 14, .inl c24)), ((r 25), .inl (G.2 0, 14, .inl c25)), ((r 26), .inl (G.2 0, 2, .inl c26)), ((r 28), .inl (G.2 0, 12, .inl c28)), ((r 29), .inl (G.2 0, 12, .inl c29)), ((r 30), .inl (G.2 0, 2, .inl c30)), ((r 31), .inl (G.2 0, 2, .inl c31)), ((r 32), .inl (G.2 0, 8, .inl c32)), ((r 33), .inl (G.2 0, 8, .inl c33)), ((r 35), .inl (G.2 2, 260, .inl c35)), ((r 36), .inl (G.2 0, 260, .inl c36)), ((r 37), .inl (G.2 0, 260, .inl c37)), ((r 38), .inl (G.2 0, 260, .inl c38)), ((r 39), .inl (G.2 0, 260, .inl c39)), ((r 41), .inl (G.2 0, 840, .inl c41)), ((r 42), .inl (G.2 0, 840, .inl c42)), ((r 45), .inl (G.2 0, 9, .inl d45_4)), ((r 46), .inl (G.2 0, 400, .inl d46_5)), ((r 48), .inl (G.2 0, 71, .inl c48)), ((r 49), .inl (G.2 0, 71, .inl d49_6)), ((r 58), .inl (G.2 0, 42, .inl d58_7))] H _ := hw
  refine W.eq (g2 := F0 m 13 ls []) rfl ?_
  refine lv_aload_n hx hb dX10_fillsGiven_13 rfl (lv_at hl 0 rfl) ?_
  refine lv_iconst (v := 0) hx hb dX10_fillsGiven_14 (by decide) ?_
  refine zz_callV (qb := 1) (As := [.int 0]) (rest := []) (wr := [((r 22), .inl (G.2 0, 2, .inl c22)), ((r 24), .inl (G.2 0, 14, .inl c24)), ((r 25), .inl (G.2 0, 14, .inl c25)), ((r 28), .inl (G.2 0, 12, .inl c28)), ((r 29), .inl (G.2 0, 12, .inl c29)), ((r 30), .inl (G.2 0, 2, .inl c30)), ((r 31), .inl (G.2 0, 2, .inl c31)), ((r 32), .inl (G.2 0, 8, .inl c32)), ((r 33), .inl (G.2 0, 8, .inl c33)), ((r 35), .inl (G.2 2, 260, .inl c35)), ((r 36), .inl (G.2 0, 260, .inl c36)), ((r 37), .inl (G.2 0, 260, .inl c37)), ((r 38), .inl (G.2 0, 260, .inl c38)), ((r 39), .inl (G.2 0, 260, .inl c39)), ((r 41), .inl (G.2 0, 840, .inl c41)), ((r 42), .inl (G.2 0, 840, .inl c42)), ((r 45), .inl (G.2 0, 9, .inl d45_4)), ((r 46), .inl (G.2 0, 400, .inl d46_5)), ((r 48), .inl (G.2 0, 71, .inl c48)), ((r 49), .inl (G.2 0, 71, .inl d49_6)), ((r 58), .inl (G.2 0, 42, .inl d58_7))]) S hw hl.1 lX10_406 (c_x_ends l G r j0 j2 j4 j10 j11 j12 j13 j14 j15 j16 j17 j19 j20 j34 j40 j44 k47_1 k50_2 k51_3 j56 j61 lv pq c26 c59 0 (by first | assumption | omega | exact Or.inr ⟨_, by omega, rfl⟩ | (unfold zz_sok; decide) | decide | exact (fun j hj => (hv7 j hj).1)) (by first | assumption | omega | exact Or.inr ⟨_, by omega, rfl⟩ | (unfold zz_sok; decide) | decide | exact (fun j hj => (hv7 j hj).1)) (by first | assumption | omega | exact Or.inr ⟨_, by omega, rfl⟩ | (unfold zz_sok; decide) | decide | exact (fun j hj => (hv7 j hj).1))) ⟨Nat.le_of_ble_eq_true rfl, Nat.le_of_ble_eq_true rfl⟩ ⟨Nat.le_of_ble_eq_true rfl, Nat.le_of_ble_eq_true rfl⟩ [1, 5, 0] [2, 3, 4, 6, 7, 8, 9, 10, 11, 12, 13, 14, 15, 16, 17, 18, 19, 20, 21, 22, 23] (by decide +kernel) rfl rfl (by decide +kernel) (by decide +kernel) rfl rfl rfl rfl (Nat.le_of_ble_eq_true rfl) dX10_fillsGiven_15 ?_
  clear hw
  intro rr u H locs hp hw
  refine hp.elim fun d59_8 zg0 => zg0.elim fun zee1 zg1 => zg1.elim fun zee2 hq15_0 => ?_
  clear hp zg0 zg1
  subst zee1
  subst zee2
  replace hw : zz_w G A s [((r 22), .inl (G.2 0, 2, .inl c22)), ((r 24), .inl (G.2 0, 14, .inl c24)), ((r 25), .inl (G.2 0, 14, .inl c25)), ((r 28), .inl (G.2 0, 12, .inl c28)), ((r 29), .inl (G.2 0, 12, .inl c29)), ((r 30), .inl (G.2 0, 2, .inl c30)), ((r 31), .inl (G.2 0, 2, .inl c31)), ((r 32), .inl (G.2 0, 8, .inl c32)), ((r 33), .inl (G.2 0, 8, .inl c33)), ((r 35), .inl (G.2 2, 260, .inl c35)), ((r 36), .inl (G.2 0, 260, .inl c36)), ((r 37), .inl (G.2 0, 260, .inl c37)), ((r 38), .inl (G.2 0, 260, .inl c38)), ((r 39), .inl (G.2 0, 260, .inl c39)), ((r 41), .inl (G.2 0, 840, .inl c41)), ((r 42), .inl (G.2 0, 840, .inl c42)), ((r 45), .inl (G.2 0, 9, .inl d45_4)), ((r 46), .inl (G.2 0, 400, .inl d46_5)), ((r 48), .inl (G.2 0, 71, .inl c48)), ((r 49), .inl (G.2 0, 71, .inl d49_6)), ((r 58), .inl (G.2 0, 42, .inl d58_7)), ((r 0), .inr (10, (zz_mo r [(0, j0), (2, j2), (4, j4), (10, j10), (11, j11), (12, j12), (13, j13), (14, j14), (15, j15), (16, j16), (17, j17), (18, (nI lv)), (19, j19), (20, j20), (34, j34), (40, j40), (44, j44), (47, k47_1), (50, k50_2), (51, k51_3), (56, j56), (61, j61)]))), ((r 26), .inl (G.2 0, 2, .inl c26)), ((r 59), .inl (G.2 0, 896, .inl d59_8))] H _ := hw
  refine W.eq (g2 := F0 m 18 ls []) rfl ?_
  refine lv_aload_n hx hb dX10_fillsGiven_18 rfl (lv_at hl 0 rfl) ?_
  refine zz_get (v := .ref (r 26)) S hw fgX10_55 21 rfl rfl dX10_fillsGiven_19 ?_
  refine lv_aload_n hx hb dX10_fillsGiven_22 rfl (lv_at hl 0 rfl) ?_
  refine zz_get (v := .int (nI lv)) S hw fgX10_236 21 rfl rfl dX10_fillsGiven_23 ?_
  refine W.eq (g2 := F0 m 26 ls [.int (nI lv), .ref (r 26)]) rfl ?_
  refine zz_iald (v := (nI pq)) S hw 22 rfl (vp_in_nI (n := lv) (by omega) (by decide)) (by rw [show ((nI lv) : Int32).toNatClampNeg = lv from nI_clamp (n := lv) (by omega)]; exact hpa) dX10_fillsGiven_26 ?_
  refine lv_iconst (v := 1) hx hb dX10_fillsGiven_27 (by decide) ?_
  refine lv_isub hx hb dX10_fillsGiven_28 ?_
  refine zz_topi (y := (zz_pm pq)) (zz_pms _) ?_
  refine lv_istore_n (lv' := [(1, .int (zz_pm pq)), (0, .ref (r 0))]) hx hb dX10_fillsGiven_29 rfl hl (by decide) rfl (fun ls hl => ?_)
  have lp30_196 : ∀ (vp9 : Nat) (vF116 : Nat → Int32) (H : Heap) (locs : List Loc) (ls : Array Slot), vp9 ≤ pq → zj_J (fun a p => ¬ d58_7 (6 * a + p) < 0) (fun a p => d58_7 (6 * a + p)) pp pq 128 vp9 vF116 → zz_w G A s [((r 22), .inl (G.2 0, 2, .inl c22)), ((r 24), .inl (G.2 0, 14, .inl c24)), ((r 25), .inl (G.2 0, 14, .inl c25)), ((r 28), .inl (G.2 0, 12, .inl c28)), ((r 29), .inl (G.2 0, 12, .inl c29)), ((r 30), .inl (G.2 0, 2, .inl c30)), ((r 31), .inl (G.2 0, 2, .inl c31)), ((r 32), .inl (G.2 0, 8, .inl c32)), ((r 33), .inl (G.2 0, 8, .inl c33)), ((r 35), .inl (G.2 2, 260, .inl c35)), ((r 36), .inl (G.2 0, 260, .inl c36)), ((r 37), .inl (G.2 0, 260, .inl c37)), ((r 38), .inl (G.2 0, 260, .inl c38)), ((r 39), .inl (G.2 0, 260, .inl c39)), ((r 41), .inl (G.2 0, 840, .inl c41)), ((r 42), .inl (G.2 0, 840, .inl c42)), ((r 45), .inl (G.2 0, 9, .inl d45_4)), ((r 46), .inl (G.2 0, 400, .inl d46_5)), ((r 48), .inl (G.2 0, 71, .inl c48)), ((r 49), .inl (G.2 0, 71, .inl d49_6)), ((r 58), .inl (G.2 0, 42, .inl d58_7)), ((r 0), .inr (10, (zz_mo r [(0, j0), (2, j2), (4, j4), (10, j10), (11, j11), (12, j12), (13, j13), (14, j14), (15, j15), (16, j16), (17, j17), (18, (nI lv)), (19, j19), (20, j20), (34, j34), (40, j40), (44, j44), (47, k47_1), (50, k50_2), (51, k51_3), (56, j56), (61, j61)]))), ((r 26), .inl (G.2 0, 2, .inl c26)), ((r 59), .inl (G.2 0, 896, .inl vF116))] H locs → lv_has ls 6 [(1, .int (zz_pm vp9)), (0, .ref (r 0))] → W p l e (zz_rm 5 0 0) s m args below meth c H locs (0) (0) Q (F0 m 30 ls []) := by
    intro vp9
    induction vp9 with
    | zero =>
      intro vF116 H locs ls hp30 hv30_195 hw hl
      have hl : lv_has ls 6 [(1, .int (-1)), (0, .ref (r 0))] := hl
      refine lv_iload_n hx hb dX10_fillsGiven_30 rfl (lv_at hl 0 rfl) ?_
      refine lv_if_lt (tgt := 154) hx hb dX10_fillsGiven_31 (by decide) (fun _ => ?_) (fun cc => absurd cc (by decide))
      exact hret _ _ _ _ _ ⟨k47_1, k50_2, k51_3, d45_4, d46_5, d49_6, d58_7, vF116, rfl, rfl, hq10_0, hq10_1, hv30_195⟩ (hw.sub [21, 0, 1, 2, 22, 3, 4, 5, 6, 7, 8, 9, 10, 11, 12, 13, 14, 15, 16, 17, 18, 19, 20, 23] (by decide +kernel) rfl) dX10_fillsGiven_154
    | succ vp9 ih30 =>
      intro vF116 H locs ls hp30 hv30_195 hw hl
      have hl : lv_has ls 6 [(1, .int (nI vp9)), (0, .ref (r 0))] := hl
      refine lv_iload_n hx hb dX10_fillsGiven_30 rfl (lv_at hl 0 rfl) ?_
      refine lv_if_lt (tgt := 154) hx hb dX10_fillsGiven_31 (by decide) (fun cc => absurd cc (nI_pos (n := vp9) (by omega))) (fun _ => ?_)
      refine lv_iconst (v := 0) hx hb dX10_fillsGiven_34 (by decide) ?_
      refine lv_istore_n (lv' := [(2, .int 0), (1, .int (nI vp9)), (0, .ref (r 0))]) hx hb dX10_fillsGiven_35 rfl hl (by decide) rfl (fun ls hl => ?_)
      have lp36_250 : ∀ (vn198 vi197 : Nat) (vF223 : Nat → Int32) (H : Heap) (locs : List Loc) (ls : Array Slot), vi197 ≤ 128 → 128 < vi197 + vn198 → zj_J (fun a p => ¬ d58_7 (6 * a + p) < 0) (fun a p => d58_7 (6 * a + p)) pp pq 128 (vp9 + 1) vF223 → (∀ s, s < vi197 → vF223 (128 * vp9 + s) = zj_b (fun a p => ¬ d58_7 (6 * a + p) < 0) (fun a p => d58_7 (6 * a + p)) pp pq (pq - vp9) s) → zz_w G A s [((r 22), .inl (G.2 0, 2, .inl c22)), ((r 24), .inl (G.2 0, 14, .inl c24)), ((r 25), .inl (G.2 0, 14, .inl c25)), ((r 28), .inl (G.2 0, 12, .inl c28)), ((r 29), .inl (G.2 0, 12, .inl c29)), ((r 30), .inl (G.2 0, 2, .inl c30)), ((r 31), .inl (G.2 0, 2, .inl c31)), ((r 32), .inl (G.2 0, 8, .inl c32)), ((r 33), .inl (G.2 0, 8, .inl c33)), ((r 35), .inl (G.2 2, 260, .inl c35)), ((r 36), .inl (G.2 0, 260, .inl c36)), ((r 37), .inl (G.2 0, 260, .inl c37)), ((r 38), .inl (G.2 0, 260, .inl c38)), ((r 39), .inl (G.2 0, 260, .inl c39)), ((r 41), .inl (G.2 0, 840, .inl c41)), ((r 42), .inl (G.2 0, 840, .inl c42)), ((r 45), .inl (G.2 0, 9, .inl d45_4)), ((r 46), .inl (G.2 0, 400, .inl d46_5)), ((r 48), .inl (G.2 0, 71, .inl c48)), ((r 49), .inl (G.2 0, 71, .inl d49_6)), ((r 58), .inl (G.2 0, 42, .inl d58_7)), ((r 0), .inr (10, (zz_mo r [(0, j0), (2, j2), (4, j4), (10, j10), (11, j11), (12, j12), (13, j13), (14, j14), (15, j15), (16, j16), (17, j17), (18, (nI lv)), (19, j19), (20, j20), (34, j34), (40, j40), (44, j44), (47, k47_1), (50, k50_2), (51, k51_3), (56, j56), (61, j61)]))), ((r 26), .inl (G.2 0, 2, .inl c26)), ((r 59), .inl (G.2 0, 896, .inl vF223))] H locs → lv_has ls 6 [(2, .int (nI vi197)), (1, .int (nI vp9)), (0, .ref (r 0))] → W p l e (zz_rm 5 0 0) s m args below meth c H locs (0) (0) Q (F0 m 36 ls []) := by
        intro vn198
        induction vn198 with
        | zero => intro vi197 vF223 H locs ls hi1 hi2; exact absurd hi2 (by omega)
        | succ vn198 ih36 =>
          intro vi197 vF223 H locs ls hi36a hi36b hv36_248 hv36_249 hw hl
          refine lv_iload_n hx hb dX10_fillsGiven_36 rfl (lv_at hl 0 rfl) ?_
          refine lv_sipush (v := 128) hx hb dX10_fillsGiven_37 (by decide) ?_
          refine lv_icmp_ge (tgt := 148) hx hb dX10_fillsGiven_40 (by decide) (fun c40_251 => ?_) (fun c40_251 => ?_)
          · skip
            have c40_251n : 128 ≤ vi197 := (zz_le (a := 128) (b := vi197) rfl rfl (by omega) (by omega)).mp c40_251
            refine lv_iinc (v := (zz_pm vp9)) (lv' := [(1, .int (zz_pm vp9)), (2, .int (nI vi197)), (0, .ref (r 0))]) hx hb dX10_fillsGiven_148 hl (k := 1) rfl (zz_pmd _) (by decide) rfl (fun ls hl => ?_)
            refine lv_goto (tgt := 30) hx hb dX10_fillsGiven_151 (by decide) ?_
            refine W.eq (g2 := F0 m 30 ls []) rfl ?_
            exact ih30 vF223 _ _ _ (by omega) (zj_rk3 hv36_248 hv36_249 (by omega)) hw (lv_sub hl [0, 2] rfl)
          · skip
            have c40_251n : ¬ (128 ≤ vi197) := fun z => c40_251 ((zz_le (a := 128) (b := vi197) rfl rfl (by omega) (by omega)).mpr z)
            refine lv_aload_n hx hb dX10_fillsGiven_43 rfl (lv_at hl 2 rfl) ?_
            refine zz_get (v := .ref (r 59)) S hw fgX10_134 21 rfl rfl dX10_fillsGiven_44 ?_
            refine lv_sipush (v := 128) hx hb dX10_fillsGiven_47 (by decide) ?_
            refine lv_iload_n hx hb dX10_fillsGiven_50 rfl (lv_at hl 1 rfl) ?_
            refine lv_imul hx hb dX10_fillsGiven_51 ?_
            refine zz_topi (y := (nI (128 * vp9))) (pk_mul _ _) ?_
            refine lv_sipush (v := 128) hx hb dX10_fillsGiven_52 (by decide) ?_
            refine lv_iadd hx hb dX10_fillsGiven_55 ?_
            refine zz_topi (y := (nI ((128 * vp9) + 128))) (nI_add _ _) ?_
            refine lv_iload_n hx hb dX10_fillsGiven_56 rfl (lv_at hl 0 rfl) ?_
            refine lv_iadd hx hb dX10_fillsGiven_57 ?_
            refine zz_topi (y := (nI (((128 * vp9) + 128) + vi197))) (nI_add _ _) ?_
            refine zz_iald (v := (vF223 (((128 * vp9) + 128) + vi197))) S hw 23 rfl (vp_in_nI (n := (((128 * vp9) + 128) + vi197)) (by omega) (by decide)) (congrArg vF223 (nI_clamp (n := (((128 * vp9) + 128) + vi197)) (by omega))) dX10_fillsGiven_58 ?_
            refine lv_istore_n (lv' := [(3, .int (vF223 (((128 * vp9) + 128) + vi197))), (2, .int (nI vi197)), (1, .int (nI vp9)), (0, .ref (r 0))]) hx hb dX10_fillsGiven_59 rfl hl (by decide) rfl (fun ls hl => ?_)
            refine lv_iconst (v := 0) hx hb dX10_fillsGiven_60 (by decide) ?_
            refine lv_istore (lv' := [(4, .int 0), (3, .int (vF223 (((128 * vp9) + 128) + vi197))), (2, .int (nI vi197)), (1, .int (nI vp9)), (0, .ref (r 0))]) hx hb dX10_fillsGiven_61 hl (by decide) rfl (fun ls hl => ?_)
            have lp63_268 : ∀ (vn253 vi252 : Nat) (vy260 : Int32) (H : Heap) (locs : List Loc) (ls : Array Slot), vi252 ≤ pp → pp < vi252 + vn253 → vy260 = zj_x (vF223 (128 * vp9 + 128 + vi197)) (fun a => zm_bit (nI vi197) (nI a) = 0 ∧ ¬ d58_7 (6 * a + vp9) < 0) (fun a => d58_7 (6 * a + vp9) + vF223 (128 * vp9 + 128 + zj_u vi197 a)) vi252 → zz_w G A s [((r 22), .inl (G.2 0, 2, .inl c22)), ((r 24), .inl (G.2 0, 14, .inl c24)), ((r 25), .inl (G.2 0, 14, .inl c25)), ((r 28), .inl (G.2 0, 12, .inl c28)), ((r 29), .inl (G.2 0, 12, .inl c29)), ((r 30), .inl (G.2 0, 2, .inl c30)), ((r 31), .inl (G.2 0, 2, .inl c31)), ((r 32), .inl (G.2 0, 8, .inl c32)), ((r 33), .inl (G.2 0, 8, .inl c33)), ((r 35), .inl (G.2 2, 260, .inl c35)), ((r 36), .inl (G.2 0, 260, .inl c36)), ((r 37), .inl (G.2 0, 260, .inl c37)), ((r 38), .inl (G.2 0, 260, .inl c38)), ((r 39), .inl (G.2 0, 260, .inl c39)), ((r 41), .inl (G.2 0, 840, .inl c41)), ((r 42), .inl (G.2 0, 840, .inl c42)), ((r 45), .inl (G.2 0, 9, .inl d45_4)), ((r 46), .inl (G.2 0, 400, .inl d46_5)), ((r 48), .inl (G.2 0, 71, .inl c48)), ((r 49), .inl (G.2 0, 71, .inl d49_6)), ((r 58), .inl (G.2 0, 42, .inl d58_7)), ((r 0), .inr (10, (zz_mo r [(0, j0), (2, j2), (4, j4), (10, j10), (11, j11), (12, j12), (13, j13), (14, j14), (15, j15), (16, j16), (17, j17), (18, (nI lv)), (19, j19), (20, j20), (34, j34), (40, j40), (44, j44), (47, k47_1), (50, k50_2), (51, k51_3), (56, j56), (61, j61)]))), ((r 26), .inl (G.2 0, 2, .inl c26)), ((r 59), .inl (G.2 0, 896, .inl vF223))] H locs → lv_has ls 6 [(4, .int (nI vi252)), (3, .int vy260), (2, .int (nI vi197)), (1, .int (nI vp9)), (0, .ref (r 0))] → W p l e (zz_rm 5 0 0) s m args below meth c H locs (0) (0) Q (F0 m 63 ls []) := by
              intro vn253
              induction vn253 with
              | zero => intro vi252 vy260 H locs ls hi1 hi2; exact absurd hi2 (by omega)
              | succ vn253 ih63 =>
                intro vi252 vy260 H locs ls hi63a hi63b hv63_267 hw hl
                refine lv_iload hx hb dX10_fillsGiven_63 (lv_at hl 0 rfl) ?_
                refine W.eq (g2 := F0 m 65 ls [.int (nI vi252)]) rfl ?_
                refine lv_aload_n hx hb dX10_fillsGiven_65 rfl (lv_at hl 4 rfl) ?_
                refine zz_get (v := .ref (r 22)) S hw fgX10_43 21 rfl rfl dX10_fillsGiven_66 ?_
                refine lv_aload_n hx hb dX10_fillsGiven_69 rfl (lv_at hl 4 rfl) ?_
                refine zz_get (v := .int (nI lv)) S hw fgX10_236 21 rfl rfl dX10_fillsGiven_70 ?_
                refine zz_iald (v := (nI pp)) S hw 0 rfl (vp_in_nI (n := lv) (by omega) (by decide)) (by rw [show ((nI lv) : Int32).toNatClampNeg = lv from nI_clamp (n := lv) (by omega)]; exact hpe) dX10_fillsGiven_73 ?_
                refine lv_icmp_ge (tgt := 129) hx hb dX10_fillsGiven_74 (by decide) (fun c74_269 => ?_) (fun c74_269 => ?_)
                · skip
                  have c74_269n : pp ≤ vi252 := (zz_le (a := pp) (b := vi252) rfl rfl (by omega) (by omega)).mp c74_269
                  refine lv_aload_n hx hb dX10_fillsGiven_129 rfl (lv_at hl 4 rfl) ?_
                  refine zz_get (v := .ref (r 59)) S hw fgX10_134 21 rfl rfl dX10_fillsGiven_130 ?_
                  refine lv_sipush (v := 128) hx hb dX10_fillsGiven_133 (by decide) ?_
                  refine lv_iload_n hx hb dX10_fillsGiven_136 rfl (lv_at hl 3 rfl) ?_
                  refine lv_imul hx hb dX10_fillsGiven_137 ?_
                  refine zz_topi (y := (nI (128 * vp9))) (pk_mul _ _) ?_
                  refine lv_iload_n hx hb dX10_fillsGiven_138 rfl (lv_at hl 2 rfl) ?_
                  refine lv_iadd hx hb dX10_fillsGiven_139 ?_
                  refine zz_topi (y := (nI ((128 * vp9) + vi197))) (nI_add _ _) ?_
                  refine lv_iload_n hx hb dX10_fillsGiven_140 rfl (lv_at hl 1 rfl) ?_
                  refine zz_iast (ws' := [((r 22), .inl (G.2 0, 2, .inl c22)), ((r 24), .inl (G.2 0, 14, .inl c24)), ((r 25), .inl (G.2 0, 14, .inl c25)), ((r 28), .inl (G.2 0, 12, .inl c28)), ((r 29), .inl (G.2 0, 12, .inl c29)), ((r 30), .inl (G.2 0, 2, .inl c30)), ((r 31), .inl (G.2 0, 2, .inl c31)), ((r 32), .inl (G.2 0, 8, .inl c32)), ((r 33), .inl (G.2 0, 8, .inl c33)), ((r 35), .inl (G.2 2, 260, .inl c35)), ((r 36), .inl (G.2 0, 260, .inl c36)), ((r 37), .inl (G.2 0, 260, .inl c37)), ((r 38), .inl (G.2 0, 260, .inl c38)), ((r 39), .inl (G.2 0, 260, .inl c39)), ((r 41), .inl (G.2 0, 840, .inl c41)), ((r 42), .inl (G.2 0, 840, .inl c42)), ((r 45), .inl (G.2 0, 9, .inl d45_4)), ((r 46), .inl (G.2 0, 400, .inl d46_5)), ((r 48), .inl (G.2 0, 71, .inl c48)), ((r 49), .inl (G.2 0, 71, .inl d49_6)), ((r 58), .inl (G.2 0, 42, .inl d58_7)), ((r 0), .inr (10, (zz_mo r [(0, j0), (2, j2), (4, j4), (10, j10), (11, j11), (12, j12), (13, j13), (14, j14), (15, j15), (16, j16), (17, j17), (18, (nI lv)), (19, j19), (20, j20), (34, j34), (40, j40), (44, j44), (47, k47_1), (50, k50_2), (51, k51_3), (56, j56), (61, j61)]))), ((r 26), .inl (G.2 0, 2, .inl c26)), ((r 59), .inl (G.2 0, 896, .inl (upd vF223 ((128 * vp9) + vi197) vy260)))]) (g := (upd vF223 ((128 * vp9) + vi197) vy260)) S hw 23 rfl (vp_in_nI (n := ((128 * vp9) + vi197)) (by omega) (by decide)) (zz_upn (n := ((128 * vp9) + vi197)) (by omega)) rfl dX10_fillsGiven_141 ?_
                  clear hw
                  intro H locs hw
                  refine W.eq (g2 := F0 m 142 ls []) rfl ?_
                  refine lv_iinc (v := (nI (vi197 + 1))) (lv' := [(2, .int (nI (vi197 + 1))), (4, .int (nI vi252)), (3, .int vy260), (1, .int (nI vp9)), (0, .ref (r 0))]) hx hb dX10_fillsGiven_142 hl (k := 2) rfl (nI_add _ 1) (by decide) rfl (fun ls hl => ?_)
                  refine lv_goto (tgt := 36) hx hb dX10_fillsGiven_145 (by decide) ?_
                  exact ih36 (vi197 + 1) (upd vF223 ((128 * vp9) + vi197) vy260) _ _ _ (by omega) (by omega) (zj_rk1 hv36_248 (by omega)) (zj_rk2 hv36_249 (zj_rst hv36_248 hpp (by omega) (by omega) (zj_xe hv63_267 (by omega)))) hw (lv_sub hl [0, 3, 4] rfl)
                · skip
                  have c74_269n : ¬ (pp ≤ vi252) := fun z => c74_269 ((zz_le (a := pp) (b := vi252) rfl rfl (by omega) (by omega)).mpr z)
                  refine lv_aload_n hx hb dX10_fillsGiven_77 rfl (lv_at hl 4 rfl) ?_
                  refine lv_iload hx hb dX10_fillsGiven_78 (lv_at hl 0 rfl) ?_
                  refine lv_iload_n hx hb dX10_fillsGiven_80 rfl (lv_at hl 3 rfl) ?_
                  refine lv_iload_n hx hb dX10_fillsGiven_81 rfl (lv_at hl 2 rfl) ?_
                  refine zz_callV (qb := 21) (As := [.int (nI vi252), .int (nI vp9), .int (nI vi197)]) (rest := []) (wr := [((r 22), .inl (G.2 0, 2, .inl c22)), ((r 24), .inl (G.2 0, 14, .inl c24)), ((r 25), .inl (G.2 0, 14, .inl c25)), ((r 28), .inl (G.2 0, 12, .inl c28)), ((r 29), .inl (G.2 0, 12, .inl c29)), ((r 30), .inl (G.2 0, 2, .inl c30)), ((r 31), .inl (G.2 0, 2, .inl c31)), ((r 32), .inl (G.2 0, 8, .inl c32)), ((r 33), .inl (G.2 0, 8, .inl c33)), ((r 35), .inl (G.2 2, 260, .inl c35)), ((r 36), .inl (G.2 0, 260, .inl c36)), ((r 37), .inl (G.2 0, 260, .inl c37)), ((r 38), .inl (G.2 0, 260, .inl c38)), ((r 39), .inl (G.2 0, 260, .inl c39)), ((r 41), .inl (G.2 0, 840, .inl c41)), ((r 42), .inl (G.2 0, 840, .inl c42)), ((r 45), .inl (G.2 0, 9, .inl d45_4)), ((r 46), .inl (G.2 0, 400, .inl d46_5)), ((r 48), .inl (G.2 0, 71, .inl c48)), ((r 49), .inl (G.2 0, 71, .inl d49_6)), ((r 26), .inl (G.2 0, 2, .inl c26)), ((r 59), .inl (G.2 0, 896, .inl vF223))]) S hw hl.1 lX10_409 (c_x_isFree l G r j0 j2 j4 j10 j11 j12 j13 j14 j15 j16 j17 (nI lv) j19 j20 j34 j40 j44 k47_1 k50_2 k51_3 j56 j61 d58_7 vi252 vp9 vi197 (by first | assumption | omega | exact Or.inr ⟨_, by omega, rfl⟩ | (unfold zz_sok; decide) | decide | exact (fun j hj => (hv7 j hj).1)) (by first | assumption | omega | exact Or.inr ⟨_, by omega, rfl⟩ | (unfold zz_sok; decide) | decide | exact (fun j hj => (hv7 j hj).1)) (by first | assumption | omega | exact Or.inr ⟨_, by omega, rfl⟩ | (unfold zz_sok; decide) | decide | exact (fun j hj => (hv7 j hj).1))) ⟨Nat.le_of_ble_eq_true rfl, Nat.le_of_ble_eq_true rfl⟩ ⟨Nat.le_of_ble_eq_true rfl, Nat.le_of_ble_eq_true rfl⟩ [21, 20] [0, 1, 2, 3, 4, 5, 6, 7, 8, 9, 10, 11, 12, 13, 14, 15, 16, 17, 18, 19, 22, 23] (by decide +kernel) rfl rfl (by decide +kernel) (by decide +kernel) rfl rfl rfl rfl (Nat.le_of_ble_eq_true rfl) dX10_fillsGiven_82 ?_
                  clear hw
                  intro rr u H locs hp hw
                  refine hp.elim fun rv_270 zg0 => zg0.elim fun zee1 zg1 => zg1.elim fun zee2 zg2 => zg2.elim fun hq82_0 hq82_1 => ?_
                  clear hp zg0 zg1 zg2
                  subst zee1
                  subst zee2
                  replace hw : zz_w G A s [((r 22), .inl (G.2 0, 2, .inl c22)), ((r 24), .inl (G.2 0, 14, .inl c24)), ((r 25), .inl (G.2 0, 14, .inl c25)), ((r 28), .inl (G.2 0, 12, .inl c28)), ((r 29), .inl (G.2 0, 12, .inl c29)), ((r 30), .inl (G.2 0, 2, .inl c30)), ((r 31), .inl (G.2 0, 2, .inl c31)), ((r 32), .inl (G.2 0, 8, .inl c32)), ((r 33), .inl (G.2 0, 8, .inl c33)), ((r 35), .inl (G.2 2, 260, .inl c35)), ((r 36), .inl (G.2 0, 260, .inl c36)), ((r 37), .inl (G.2 0, 260, .inl c37)), ((r 38), .inl (G.2 0, 260, .inl c38)), ((r 39), .inl (G.2 0, 260, .inl c39)), ((r 41), .inl (G.2 0, 840, .inl c41)), ((r 42), .inl (G.2 0, 840, .inl c42)), ((r 45), .inl (G.2 0, 9, .inl d45_4)), ((r 46), .inl (G.2 0, 400, .inl d46_5)), ((r 48), .inl (G.2 0, 71, .inl c48)), ((r 49), .inl (G.2 0, 71, .inl d49_6)), ((r 26), .inl (G.2 0, 2, .inl c26)), ((r 59), .inl (G.2 0, 896, .inl vF223)), ((r 0), .inr (10, (zz_mo r [(0, j0), (2, j2), (4, j4), (10, j10), (11, j11), (12, j12), (13, j13), (14, j14), (15, j15), (16, j16), (17, j17), (18, (nI lv)), (19, j19), (20, j20), (34, j34), (40, j40), (44, j44), (47, k47_1), (50, k50_2), (51, k51_3), (56, j56), (61, j61)]))), ((r 58), .inl (G.2 0, 42, .inl d58_7))] H _ := hw
                  refine W.eq (g2 := F0 m 85 ls [.int rv_270]) rfl ?_
                  refine lv_if_ne (tgt := 91) hx hb dX10_fillsGiven_85 (by decide) (fun c85_271 => ?_) (fun c85_271 => ?_)
                  · skip
                    refine lv_aload_n hx hb dX10_fillsGiven_91 rfl (lv_at hl 4 rfl) ?_
                    refine zz_get (v := .ref (r 58)) S hw fgX10_131 22 rfl rfl dX10_fillsGiven_92 ?_
                    refine lv_bipush (v := 6) hx hb dX10_fillsGiven_95 (by decide) ?_
                    refine lv_iload hx hb dX10_fillsGiven_97 (lv_at hl 0 rfl) ?_
                    refine lv_imul hx hb dX10_fillsGiven_99 ?_
                    refine zz_topi (y := (nI (6 * vi252))) (pk_mul _ _) ?_
                    refine lv_iload_n hx hb dX10_fillsGiven_100 rfl (lv_at hl 3 rfl) ?_
                    refine lv_iadd hx hb dX10_fillsGiven_101 ?_
                    refine zz_topi (y := (nI ((6 * vi252) + vp9))) (nI_add _ _) ?_
                    refine W.eq (g2 := F0 m 102 ls [.int (nI ((6 * vi252) + vp9)), .ref (r 58)]) rfl ?_
                    refine zz_iald (v := (d58_7 ((6 * vi252) + vp9))) S hw 23 rfl (vp_in_nI (n := ((6 * vi252) + vp9)) (by omega) (by decide)) (congrArg d58_7 (nI_clamp (n := ((6 * vi252) + vp9)) (by omega))) dX10_fillsGiven_102 ?_
                    refine lv_aload_n hx hb dX10_fillsGiven_103 rfl (lv_at hl 4 rfl) ?_
                    refine lv_iload hx hb dX10_fillsGiven_104 (lv_at hl 0 rfl) ?_
                    refine lv_iload_n hx hb dX10_fillsGiven_106 rfl (lv_at hl 3 rfl) ?_
                    refine lv_iload_n hx hb dX10_fillsGiven_107 rfl (lv_at hl 2 rfl) ?_
                    refine zz_callV (qb := 22) (As := [.int (nI vi252), .int (nI vp9), .int (nI vi197)]) (rest := [.int (d58_7 ((6 * vi252) + vp9))]) (wr := [((r 22), .inl (G.2 0, 2, .inl c22)), ((r 24), .inl (G.2 0, 14, .inl c24)), ((r 25), .inl (G.2 0, 14, .inl c25)), ((r 28), .inl (G.2 0, 12, .inl c28)), ((r 29), .inl (G.2 0, 12, .inl c29)), ((r 30), .inl (G.2 0, 2, .inl c30)), ((r 31), .inl (G.2 0, 2, .inl c31)), ((r 32), .inl (G.2 0, 8, .inl c32)), ((r 33), .inl (G.2 0, 8, .inl c33)), ((r 35), .inl (G.2 2, 260, .inl c35)), ((r 36), .inl (G.2 0, 260, .inl c36)), ((r 37), .inl (G.2 0, 260, .inl c37)), ((r 38), .inl (G.2 0, 260, .inl c38)), ((r 39), .inl (G.2 0, 260, .inl c39)), ((r 41), .inl (G.2 0, 840, .inl c41)), ((r 42), .inl (G.2 0, 840, .inl c42)), ((r 45), .inl (G.2 0, 9, .inl d45_4)), ((r 46), .inl (G.2 0, 400, .inl d46_5)), ((r 48), .inl (G.2 0, 71, .inl c48)), ((r 49), .inl (G.2 0, 71, .inl d49_6)), ((r 26), .inl (G.2 0, 2, .inl c26)), ((r 58), .inl (G.2 0, 42, .inl d58_7))]) S hw hl.1 lX10_412 (c_x_with l G r j0 j2 j4 j10 j11 j12 j13 j14 j15 j16 j17 (nI lv) j19 j20 j34 j40 j44 k47_1 k50_2 k51_3 j56 j61 vF223 vi252 vp9 vi197 (by first | assumption | omega | exact Or.inr ⟨_, by omega, rfl⟩ | (unfold zz_sok; decide) | decide | exact (fun j hj => (hv7 j hj).1)) (by first | assumption | omega | exact Or.inr ⟨_, by omega, rfl⟩ | (unfold zz_sok; decide) | decide | exact (fun j hj => (hv7 j hj).1)) (by first | assumption | omega | exact Or.inr ⟨_, by omega, rfl⟩ | (unfold zz_sok; decide) | decide | exact (fun j hj => (hv7 j hj).1))) ⟨Nat.le_of_ble_eq_true rfl, Nat.le_of_ble_eq_true rfl⟩ ⟨Nat.le_of_ble_eq_true rfl, Nat.le_of_ble_eq_true rfl⟩ [22, 21] [0, 1, 2, 3, 4, 5, 6, 7, 8, 9, 10, 11, 12, 13, 14, 15, 16, 17, 18, 19, 20, 23] (by decide +kernel) rfl rfl (by decide +kernel) (by decide +kernel) rfl rfl rfl rfl (Nat.le_of_ble_eq_true rfl) dX10_fillsGiven_108 ?_
                    clear hw
                    intro rr u H locs hp hw
                    refine hp.elim fun rv_272 zg0 => zg0.elim fun zee1 zg1 => zg1.elim fun zee2 hq108_0 => ?_
                    clear hp zg0 zg1
                    subst zee1
                    subst zee2
                    replace hw : zz_w G A s [((r 22), .inl (G.2 0, 2, .inl c22)), ((r 24), .inl (G.2 0, 14, .inl c24)), ((r 25), .inl (G.2 0, 14, .inl c25)), ((r 28), .inl (G.2 0, 12, .inl c28)), ((r 29), .inl (G.2 0, 12, .inl c29)), ((r 30), .inl (G.2 0, 2, .inl c30)), ((r 31), .inl (G.2 0, 2, .inl c31)), ((r 32), .inl (G.2 0, 8, .inl c32)), ((r 33), .inl (G.2 0, 8, .inl c33)), ((r 35), .inl (G.2 2, 260, .inl c35)), ((r 36), .inl (G.2 0, 260, .inl c36)), ((r 37), .inl (G.2 0, 260, .inl c37)), ((r 38), .inl (G.2 0, 260, .inl c38)), ((r 39), .inl (G.2 0, 260, .inl c39)), ((r 41), .inl (G.2 0, 840, .inl c41)), ((r 42), .inl (G.2 0, 840, .inl c42)), ((r 45), .inl (G.2 0, 9, .inl d45_4)), ((r 46), .inl (G.2 0, 400, .inl d46_5)), ((r 48), .inl (G.2 0, 71, .inl c48)), ((r 49), .inl (G.2 0, 71, .inl d49_6)), ((r 26), .inl (G.2 0, 2, .inl c26)), ((r 58), .inl (G.2 0, 42, .inl d58_7)), ((r 0), .inr (10, (zz_mo r [(0, j0), (2, j2), (4, j4), (10, j10), (11, j11), (12, j12), (13, j13), (14, j14), (15, j15), (16, j16), (17, j17), (18, (nI lv)), (19, j19), (20, j20), (34, j34), (40, j40), (44, j44), (47, k47_1), (50, k50_2), (51, k51_3), (56, j56), (61, j61)]))), ((r 59), .inl (G.2 0, 896, .inl vF223))] H _ := hw
                    refine W.eq (g2 := F0 m 111 ls [.int rv_272, .int (d58_7 ((6 * vi252) + vp9))]) rfl ?_
                    refine lv_iadd hx hb dX10_fillsGiven_111 ?_
                    refine lv_topi (fun z273 ez273 => ?_)
                    refine lv_istore (lv' := [(5, .int z273), (4, .int (nI vi252)), (3, .int vy260), (2, .int (nI vi197)), (1, .int (nI vp9)), (0, .ref (r 0))]) hx hb dX10_fillsGiven_112 hl (by decide) rfl (fun ls hl => ?_)
                    refine lv_iload hx hb dX10_fillsGiven_114 (lv_at hl 0 rfl) ?_
                    refine lv_iload_n hx hb dX10_fillsGiven_116 rfl (lv_at hl 2 rfl) ?_
                    refine lv_icmp_le (tgt := 123) hx hb dX10_fillsGiven_117 (by decide) (fun c117_274 => ?_) (fun c117_274 => ?_)
                    · skip
                      refine lv_iinc (v := (nI (vi252 + 1))) (lv' := [(4, .int (nI (vi252 + 1))), (5, .int z273), (3, .int vy260), (2, .int (nI vi197)), (1, .int (nI vp9)), (0, .ref (r 0))]) hx hb dX10_fillsGiven_123 hl (k := 1) rfl (nI_add _ 1) (by decide) rfl (fun ls hl => ?_)
                      refine lv_goto (tgt := 63) hx hb dX10_fillsGiven_126 (by decide) ?_
                      exact ih63 (vi252 + 1) vy260 _ _ _ (by omega) (by omega) (by first | exact zj_xn hv63_267 (fun z => absurd (by assumption) (hq82_0.mpr z)) | exact zj_xk hv63_267 (hq82_0.mp (by assumption)) (zj_ev ez273 hq108_0) (by first | assumption | exact Int32.not_lt.mpr (by assumption)) | exact zj_xt hv63_267 (hq82_0.mp (by assumption)) (zj_ev ez273 hq108_0) (by first | assumption | exact Int32.not_le.mp (by assumption))) (hw.sub [0, 1, 2, 3, 4, 5, 6, 7, 8, 9, 10, 11, 12, 13, 14, 15, 16, 17, 18, 19, 21, 22, 20, 23] (by decide +kernel) rfl) (lv_sub hl [0, 2, 3, 4, 5] rfl)
                    · skip
                      refine lv_iload hx hb dX10_fillsGiven_120 (lv_at hl 0 rfl) ?_
                      refine lv_istore_n (lv' := [(3, .int z273), (5, .int z273), (4, .int (nI vi252)), (2, .int (nI vi197)), (1, .int (nI vp9)), (0, .ref (r 0))]) hx hb dX10_fillsGiven_122 rfl hl (by decide) rfl (fun ls hl => ?_)
                      refine W.eq (g2 := F0 m 123 ls []) rfl ?_
                      refine lv_iinc (v := (nI (vi252 + 1))) (lv' := [(4, .int (nI (vi252 + 1))), (3, .int z273), (5, .int z273), (2, .int (nI vi197)), (1, .int (nI vp9)), (0, .ref (r 0))]) hx hb dX10_fillsGiven_123 hl (k := 2) rfl (nI_add _ 1) (by decide) rfl (fun ls hl => ?_)
                      refine lv_goto (tgt := 63) hx hb dX10_fillsGiven_126 (by decide) ?_
                      exact ih63 (vi252 + 1) z273 _ _ _ (by omega) (by omega) (by first | exact zj_xn hv63_267 (fun z => absurd (by assumption) (hq82_0.mpr z)) | exact zj_xk hv63_267 (hq82_0.mp (by assumption)) (zj_ev ez273 hq108_0) (by first | assumption | exact Int32.not_lt.mpr (by assumption)) | exact zj_xt hv63_267 (hq82_0.mp (by assumption)) (zj_ev ez273 hq108_0) (by first | assumption | exact Int32.not_le.mp (by assumption))) (hw.sub [0, 1, 2, 3, 4, 5, 6, 7, 8, 9, 10, 11, 12, 13, 14, 15, 16, 17, 18, 19, 21, 22, 20, 23] (by decide +kernel) rfl) (lv_sub hl [0, 1, 3, 4, 5] rfl)
                  · skip
                    refine lv_goto (tgt := 123) hx hb dX10_fillsGiven_88 (by decide) ?_
                    refine lv_iinc (v := (nI (vi252 + 1))) (lv' := [(4, .int (nI (vi252 + 1))), (3, .int vy260), (2, .int (nI vi197)), (1, .int (nI vp9)), (0, .ref (r 0))]) hx hb dX10_fillsGiven_123 hl (k := 0) rfl (nI_add _ 1) (by decide) rfl (fun ls hl => ?_)
                    refine lv_goto (tgt := 63) hx hb dX10_fillsGiven_126 (by decide) ?_
                    exact ih63 (vi252 + 1) vy260 _ _ _ (by omega) (by omega) (by first | exact zj_xn hv63_267 (fun z => absurd (by assumption) (hq82_0.mpr z)) | exact zj_xk hv63_267 (hq82_0.mp (by assumption)) (zj_ev ez273 hq108_0) (by first | assumption | exact Int32.not_lt.mpr (by assumption)) | exact zj_xt hv63_267 (hq82_0.mp (by assumption)) (zj_ev ez273 hq108_0) (by first | assumption | exact Int32.not_le.mp (by assumption))) (hw.sub [0, 1, 2, 3, 4, 5, 6, 7, 8, 9, 10, 11, 12, 13, 14, 15, 16, 17, 18, 19, 23, 22, 20, 21] (by decide +kernel) rfl) (lv_sub hl [0, 1, 2, 3, 4] rfl)
            exact lp63_268 (pp + 1 - 0) 0 (vF223 (((128 * vp9) + 128) + vi197)) _ _ _ (by omega) (by omega) rfl hw (lv_sub hl [0, 1, 2, 3, 4] rfl)
      exact lp36_250 (128 + 1 - 0) 0 vF116 _ _ _ (by omega) (by omega) hv30_195 (fun s hs => absurd hs (Nat.not_lt_zero s)) hw (lv_sub hl [0, 1, 2] rfl)
  exact lp30_196 pq d59_8 _ _ _ (Nat.le_refl _) (zj_j0 hq15_0) hw (lv_sub hl [0, 1] rfl)
theorem kd_ncX10_lowestFor : kd_ck 2550261643180983925722485837090463616448073688173067867255789431169606978664129235245038606656751930762011973653427226163454605260864898065383526221740884373095109705219 70 cX10_lowestFor.data.toList 0 = true := by decide +kernel
theorem dX10_lowestFor_0 : decode cX10_lowestFor 0 = .ok (.iconst 0, 1) := kd_dk0 kd_o3 kd_ncX10_lowestFor rfl
theorem dX10_lowestFor_1 : decode cX10_lowestFor 1 = .ok (.istore_n 3, 1) := kd_dk0 kd_o62 kd_ncX10_lowestFor rfl
theorem dX10_lowestFor_2 : decode cX10_lowestFor 2 = .ok (.iload_n 3, 1) := kd_dk0 kd_o29 kd_ncX10_lowestFor rfl
theorem dX10_lowestFor_3 : decode cX10_lowestFor 3 = .ok (.aload_n 0, 1) := kd_dk0 kd_o42 kd_ncX10_lowestFor rfl
theorem dX10_lowestFor_4 : decode cX10_lowestFor 4 = .ok (.getfield 43, 3) := kd_dk2 kd_o180 kd_ncX10_lowestFor rfl
theorem dX10_lowestFor_7 : decode cX10_lowestFor 7 = .ok (.aload_n 0, 1) := kd_dk0 kd_o42 kd_ncX10_lowestFor rfl
theorem dX10_lowestFor_8 : decode cX10_lowestFor 8 = .ok (.getfield 236, 3) := kd_dk2 kd_o180 kd_ncX10_lowestFor rfl
theorem dX10_lowestFor_11 : decode cX10_lowestFor 11 = .ok (.iaload, 1) := kd_dk0 kd_o46 kd_ncX10_lowestFor rfl
theorem dX10_lowestFor_12 : decode cX10_lowestFor 12 = .ok (.if_icmp .ge 55, 3) := kd_dj2 kd_o162 (w := 55) kd_ncX10_lowestFor rfl rfl
theorem dX10_lowestFor_15 : decode cX10_lowestFor 15 = .ok (.aload_n 0, 1) := kd_dk0 kd_o42 kd_ncX10_lowestFor rfl
theorem dX10_lowestFor_16 : decode cX10_lowestFor 16 = .ok (.iload_n 3, 1) := kd_dk0 kd_o29 kd_ncX10_lowestFor rfl
theorem dX10_lowestFor_17 : decode cX10_lowestFor 17 = .ok (.iload_n 1, 1) := kd_dk0 kd_o27 kd_ncX10_lowestFor rfl
theorem dX10_lowestFor_18 : decode cX10_lowestFor 18 = .ok (.iload_n 2, 1) := kd_dk0 kd_o28 kd_ncX10_lowestFor rfl
theorem dX10_lowestFor_19 : decode cX10_lowestFor 19 = .ok (.invokevirtual 409, 3) := kd_dk2 kd_o182 kd_ncX10_lowestFor rfl
theorem dX10_lowestFor_22 : decode cX10_lowestFor 22 = .ok (.ifCond .eq 39, 3) := kd_dj2 kd_o153 (w := 39) kd_ncX10_lowestFor rfl rfl
theorem dX10_lowestFor_25 : decode cX10_lowestFor 25 = .ok (.aload_n 0, 1) := kd_dk0 kd_o42 kd_ncX10_lowestFor rfl
theorem dX10_lowestFor_26 : decode cX10_lowestFor 26 = .ok (.getfield 131, 3) := kd_dk2 kd_o180 kd_ncX10_lowestFor rfl
theorem dX10_lowestFor_29 : decode cX10_lowestFor 29 = .ok (.bipush 6, 2) := kd_dj1 kd_o16 (w := 6) kd_ncX10_lowestFor rfl rfl
theorem dX10_lowestFor_31 : decode cX10_lowestFor 31 = .ok (.iload_n 3, 1) := kd_dk0 kd_o29 kd_ncX10_lowestFor rfl
theorem dX10_lowestFor_32 : decode cX10_lowestFor 32 = .ok (.imul, 1) := kd_dk0 kd_o104 kd_ncX10_lowestFor rfl
theorem dX10_lowestFor_33 : decode cX10_lowestFor 33 = .ok (.iload_n 1, 1) := kd_dk0 kd_o27 kd_ncX10_lowestFor rfl
theorem dX10_lowestFor_34 : decode cX10_lowestFor 34 = .ok (.iadd, 1) := kd_dk0 kd_o96 kd_ncX10_lowestFor rfl
theorem dX10_lowestFor_35 : decode cX10_lowestFor 35 = .ok (.iaload, 1) := kd_dk0 kd_o46 kd_ncX10_lowestFor rfl
theorem dX10_lowestFor_36 : decode cX10_lowestFor 36 = .ok (.aload_n 0, 1) := kd_dk0 kd_o42 kd_ncX10_lowestFor rfl
theorem dX10_lowestFor_37 : decode cX10_lowestFor 37 = .ok (.iload_n 3, 1) := kd_dk0 kd_o29 kd_ncX10_lowestFor rfl
theorem dX10_lowestFor_38 : decode cX10_lowestFor 38 = .ok (.iload_n 1, 1) := kd_dk0 kd_o27 kd_ncX10_lowestFor rfl
theorem dX10_lowestFor_39 : decode cX10_lowestFor 39 = .ok (.iload_n 2, 1) := kd_dk0 kd_o28 kd_ncX10_lowestFor rfl
theorem dX10_lowestFor_40 : decode cX10_lowestFor 40 = .ok (.invokevirtual 412, 3) := kd_dk2 kd_o182 kd_ncX10_lowestFor rfl
theorem dX10_lowestFor_43 : decode cX10_lowestFor 43 = .ok (.iadd, 1) := kd_dk0 kd_o96 kd_ncX10_lowestFor rfl
theorem dX10_lowestFor_44 : decode cX10_lowestFor 44 = .ok (.aload_n 0, 1) := kd_dk0 kd_o42 kd_ncX10_lowestFor rfl
theorem dX10_lowestFor_45 : decode cX10_lowestFor 45 = .ok (.getfield 134, 3) := kd_dk2 kd_o180 kd_ncX10_lowestFor rfl
theorem dX10_lowestFor_48 : decode cX10_lowestFor 48 = .ok (.sipush 128, 3) := kd_dj2 kd_o17 (w := 128) kd_ncX10_lowestFor rfl rfl
theorem dX10_lowestFor_51 : decode cX10_lowestFor 51 = .ok (.iload_n 1, 1) := kd_dk0 kd_o27 kd_ncX10_lowestFor rfl
theorem dX10_lowestFor_52 : decode cX10_lowestFor 52 = .ok (.imul, 1) := kd_dk0 kd_o104 kd_ncX10_lowestFor rfl
theorem dX10_lowestFor_53 : decode cX10_lowestFor 53 = .ok (.iload_n 2, 1) := kd_dk0 kd_o28 kd_ncX10_lowestFor rfl
theorem dX10_lowestFor_54 : decode cX10_lowestFor 54 = .ok (.iadd, 1) := kd_dk0 kd_o96 kd_ncX10_lowestFor rfl
theorem dX10_lowestFor_55 : decode cX10_lowestFor 55 = .ok (.iaload, 1) := kd_dk0 kd_o46 kd_ncX10_lowestFor rfl
theorem dX10_lowestFor_56 : decode cX10_lowestFor 56 = .ok (.if_icmp .ne 5, 3) := kd_dj2 kd_o160 (w := 5) kd_ncX10_lowestFor rfl rfl
theorem dX10_lowestFor_59 : decode cX10_lowestFor 59 = .ok (.iload_n 3, 1) := kd_dk0 kd_o29 kd_ncX10_lowestFor rfl
theorem dX10_lowestFor_60 : decode cX10_lowestFor 60 = .ok (.ireturn, 1) := kd_dk0 kd_o172 kd_ncX10_lowestFor rfl
theorem dX10_lowestFor_61 : decode cX10_lowestFor 61 = .ok (.iinc 3 1, 3) := kd_dji kd_o132 (w := 1) kd_ncX10_lowestFor rfl rfl
theorem dX10_lowestFor_64 : decode cX10_lowestFor 64 = .ok (.goto (-62), 3) := kd_dj2 kd_o167 (w := 65474) kd_ncX10_lowestFor rfl rfl
theorem dX10_lowestFor_67 : decode cX10_lowestFor 67 = .ok (.bipush (-2), 2) := kd_dj1 kd_o16 (w := 254) kd_ncX10_lowestFor rfl rfl
theorem dX10_lowestFor_69 : decode cX10_lowestFor 69 = .ok (.ireturn, 1) := kd_dk0 kd_o172 kd_ncX10_lowestFor rfl
set_option maxHeartbeats 8000000 in
set_option maxRecDepth 100000 in
theorem c_x_lowestFor (l : Launch) (G : zz_G) (r : Nat → Nat) (j0 : Int32) (j2 : Int32) (j4 : Int32) (j10 : Int32) (j11 : Int32) (j12 : Int32) (j13 : Int32) (j14 : Int32) (j15 : Int32) (j16 : Int32) (j17 : Int32) (j19 : Int32) (j20 : Int32) (j34 : Int32) (j40 : Int32) (j44 : Int32) (j47 : Int32) (j50 : Int32) (j51 : Int32) (j56 : Int32) (j61 : Int32) (lv : Nat) (pp : Nat) (c22 : Nat → Int32) (c58 : Nat → Int32) (c59 : Nat → Int32) (pa : Nat) (tk : Nat) (hlv : lv ≤ 1) (hpe : c22 lv = nI pp) (hpp : pp ≤ 7) (hpy : pa < 6) (htk : tk < 128) : zz_M l G mX10_lowestFor 1 0 0 [.ref (r 0), .int (nI pa), .int (nI tk)] [((r 0), .inr (10, (zz_mo r [(0, j0), (2, j2), (4, j4), (10, j10), (11, j11), (12, j12), (13, j13), (14, j14), (15, j15), (16, j16), (17, j17), (18, (nI lv)), (19, j19), (20, j20), (34, j34), (40, j40), (44, j44), (47, j47), (50, j50), (51, j51), (56, j56), (61, j61)]))), ((r 22), .inl (G.2 0, 2, .inl c22)), ((r 58), .inl (G.2 0, 42, .inl c58)), ((r 59), .inl (G.2 0, 896, .inl c59))] (fun rr u => ∃ (rv : Int32), rr = some (.int rv) ∧ u = [((r 0), .inr (10, (zz_mo r [(0, j0), (2, j2), (4, j4), (10, j10), (11, j11), (12, j12), (13, j13), (14, j14), (15, j15), (16, j16), (17, j17), (18, (nI lv)), (19, j19), (20, j20), (34, j34), (40, j40), (44, j44), (47, j47), (50, j50), (51, j51), (56, j56), (61, j61)]))), ((r 22), .inl (G.2 0, 2, .inl c22)), ((r 58), .inl (G.2 0, 42, .inl c58)), ((r 59), .inl (G.2 0, 896, .inl c59))] ∧ (zz_ok 7 rv) ∧ (rv = zj_h (fun a => (zm_bit (nI tk) (nI a) = 0 ∧ ¬ c58 (6 * a + pa) < 0) ∧ c58 (6 * a + pa) + c59 (128 * pa + 128 + zj_u tk a) = c59 (128 * pa + tk)) pp)) := by
  refine zz_enteri (by decide +kernel) (Nat.le_of_ble_eq_true rfl) ?_
  intro p e s m args below meth c A Q ls S hnm hret hw hl
  have hl : lv_has ls 4 [(0, .ref (r 0)), (1, .int (nI pa)), (2, .int (nI tk))] := hl
  have hx := S.1
  have hb := S.2.1
  refine lv_iconst (v := 0) hx hb dX10_lowestFor_0 (by decide) ?_
  refine lv_istore_n (lv' := [(3, .int 0), (0, .ref (r 0)), (1, .int (nI pa)), (2, .int (nI tk))]) hx hb dX10_lowestFor_1 rfl hl (by decide) rfl (fun ls hl => ?_)
  have lp2_10 : ∀ (vn2 vi1 : Nat) (H : Heap) (locs : List Loc) (ls : Array Slot), vi1 ≤ pp → pp < vi1 + vn2 → (∀ j, j < vi1 → ¬ (fun a => (zm_bit (nI tk) (nI a) = 0 ∧ ¬ c58 (6 * a + pa) < 0) ∧ c58 (6 * a + pa) + c59 (128 * pa + 128 + zj_u tk a) = c59 (128 * pa + tk)) j) → zz_w G A s [((r 0), .inr (10, (zz_mo r [(0, j0), (2, j2), (4, j4), (10, j10), (11, j11), (12, j12), (13, j13), (14, j14), (15, j15), (16, j16), (17, j17), (18, (nI lv)), (19, j19), (20, j20), (34, j34), (40, j40), (44, j44), (47, j47), (50, j50), (51, j51), (56, j56), (61, j61)]))), ((r 22), .inl (G.2 0, 2, .inl c22)), ((r 58), .inl (G.2 0, 42, .inl c58)), ((r 59), .inl (G.2 0, 896, .inl c59))] H locs → lv_has ls 4 [(3, .int (nI vi1)), (0, .ref (r 0)), (1, .int (nI pa)), (2, .int (nI tk))] → W p l e (zz_rm 1 0 0) s m args below meth c H locs (0) (0) Q (F0 m 2 ls []) := by
    intro vn2
    induction vn2 with
    | zero => intro vi1  H locs ls hi1 hi2; exact absurd hi2 (by omega)
    | succ vn2 ih2 =>
      intro vi1  H locs ls hi2a hi2b hv2_9 hw hl
      refine lv_iload_n hx hb dX10_lowestFor_2 rfl (lv_at hl 0 rfl) ?_
      refine lv_aload_n hx hb dX10_lowestFor_3 rfl (lv_at hl 1 rfl) ?_
      refine zz_get (v := .ref (r 22)) S hw fgX10_43 0 rfl rfl dX10_lowestFor_4 ?_
      refine lv_aload_n hx hb dX10_lowestFor_7 rfl (lv_at hl 1 rfl) ?_
      refine zz_get (v := .int (nI lv)) S hw fgX10_236 0 rfl rfl dX10_lowestFor_8 ?_
      refine zz_iald (v := (nI pp)) S hw 1 rfl (vp_in_nI (n := lv) (by omega) (by decide)) (by rw [show ((nI lv) : Int32).toNatClampNeg = lv from nI_clamp (n := lv) (by omega)]; exact hpe) dX10_lowestFor_11 ?_
      refine lv_icmp_ge (tgt := 67) hx hb dX10_lowestFor_12 (by decide) (fun c12_11 => ?_) (fun c12_11 => ?_)
      · skip
        have c12_11n : pp ≤ vi1 := (zz_le (a := pp) (b := vi1) rfl rfl (by omega) (by omega)).mp c12_11
        refine lv_bipush (v := (-2)) hx hb dX10_lowestFor_67 (by decide) ?_
        exact hret _ _ _ _ _ _ ⟨(-2), rfl, rfl, (by first | exact Or.inl rfl | exact Or.inr ⟨_, by omega, rfl⟩), (by first | exact (zj_hy hv2_9 ⟨hq19_0.mp (by assumption), (zj_ev hdry hq40_0).symm.trans (by assumption)⟩ _ (by omega) (by omega)).symm | exact (zj_hn (fun j hj => hv2_9 j (by omega))).symm)⟩ hw rfl dX10_lowestFor_69
      · skip
        have c12_11n : ¬ (pp ≤ vi1) := fun z => c12_11 ((zz_le (a := pp) (b := vi1) rfl rfl (by omega) (by omega)).mpr z)
        refine lv_aload_n hx hb dX10_lowestFor_15 rfl (lv_at hl 1 rfl) ?_
        refine lv_iload_n hx hb dX10_lowestFor_16 rfl (lv_at hl 0 rfl) ?_
        refine lv_iload_n hx hb dX10_lowestFor_17 rfl (lv_at hl 2 rfl) ?_
        refine lv_iload_n hx hb dX10_lowestFor_18 rfl (lv_at hl 3 rfl) ?_
        refine zz_callV (qb := 0) (As := [.int (nI vi1), .int (nI pa), .int (nI tk)]) (rest := []) (wr := [((r 22), .inl (G.2 0, 2, .inl c22)), ((r 59), .inl (G.2 0, 896, .inl c59))]) S hw hl.1 lX10_409 (c_x_isFree l G r j0 j2 j4 j10 j11 j12 j13 j14 j15 j16 j17 (nI lv) j19 j20 j34 j40 j44 j47 j50 j51 j56 j61 c58 vi1 pa tk (by first | assumption | omega | exact Or.inr ⟨_, by omega, rfl⟩ | (unfold zz_sok; decide) | decide | exact (fun j hj => (hv7 j hj).1)) (by first | assumption | omega | exact Or.inr ⟨_, by omega, rfl⟩ | (unfold zz_sok; decide) | decide | exact (fun j hj => (hv7 j hj).1)) (by first | assumption | omega | exact Or.inr ⟨_, by omega, rfl⟩ | (unfold zz_sok; decide) | decide | exact (fun j hj => (hv7 j hj).1))) ⟨Nat.le_of_ble_eq_true rfl, Nat.le_of_ble_eq_true rfl⟩ ⟨Nat.le_of_ble_eq_true rfl, Nat.le_of_ble_eq_true rfl⟩ [0, 2] [1, 3] (by decide) rfl rfl (by decide) (by decide) rfl rfl rfl rfl (Nat.le_of_ble_eq_true rfl) dX10_lowestFor_19 ?_
        clear hw
        intro rr u H locs hp hw
        refine hp.elim fun rv_12 zg0 => zg0.elim fun zee1 zg1 => zg1.elim fun zee2 zg2 => zg2.elim fun hq19_0 hq19_1 => ?_
        clear hp zg0 zg1 zg2
        subst zee1
        subst zee2
        replace hw : zz_w G A s [((r 22), .inl (G.2 0, 2, .inl c22)), ((r 59), .inl (G.2 0, 896, .inl c59)), ((r 0), .inr (10, (zz_mo r [(0, j0), (2, j2), (4, j4), (10, j10), (11, j11), (12, j12), (13, j13), (14, j14), (15, j15), (16, j16), (17, j17), (18, (nI lv)), (19, j19), (20, j20), (34, j34), (40, j40), (44, j44), (47, j47), (50, j50), (51, j51), (56, j56), (61, j61)]))), ((r 58), .inl (G.2 0, 42, .inl c58))] H _ := hw
        refine W.eq (g2 := F0 m 22 ls [.int rv_12]) rfl ?_
        refine W.eq (g2 := F0 m 22 ls [.int rv_12]) rfl ?_
        refine lv_if_eq (tgt := 61) hx hb dX10_lowestFor_22 (by decide) (fun c22_13 => ?_) (fun c22_13 => ?_)
        · skip
          refine lv_iinc (v := (nI (vi1 + 1))) (lv' := [(3, .int (nI (vi1 + 1))), (0, .ref (r 0)), (1, .int (nI pa)), (2, .int (nI tk))]) hx hb dX10_lowestFor_61 hl (k := 0) rfl (nI_add _ 1) (by decide) rfl (fun ls hl => ?_)
          refine lv_goto (tgt := 2) hx hb dX10_lowestFor_64 (by decide) ?_
          exact ih2 (vi1 + 1) _ _ _ (by omega) (by omega) (by first | exact zj_nx hv2_9 (fun z => absurd (by assumption) (hq19_0.mpr z.1)) | exact zj_nx hv2_9 (fun z => absurd ((zj_ev hdry hq40_0).trans z.2) (by assumption))) (hw.sub [2, 0, 3, 1] (by decide) rfl) (lv_sub hl [0, 1, 2, 3] rfl)
        · skip
          refine lv_aload_n hx hb dX10_lowestFor_25 rfl (lv_at hl 1 rfl) ?_
          refine zz_get (v := .ref (r 58)) S hw fgX10_131 2 rfl rfl dX10_lowestFor_26 ?_
          refine lv_bipush (v := 6) hx hb dX10_lowestFor_29 (by decide) ?_
          refine lv_iload_n hx hb dX10_lowestFor_31 rfl (lv_at hl 0 rfl) ?_
          refine lv_imul hx hb dX10_lowestFor_32 ?_
          refine zz_topi (y := (nI (6 * vi1))) (pk_mul _ _) ?_
          refine lv_iload_n hx hb dX10_lowestFor_33 rfl (lv_at hl 2 rfl) ?_
          refine lv_iadd hx hb dX10_lowestFor_34 ?_
          refine zz_topi (y := (nI ((6 * vi1) + pa))) (nI_add _ _) ?_
          refine zz_iald (v := (c58 ((6 * vi1) + pa))) S hw 3 rfl (vp_in_nI (n := ((6 * vi1) + pa)) (by omega) (by decide)) (congrArg c58 (nI_clamp (n := ((6 * vi1) + pa)) (by omega))) dX10_lowestFor_35 ?_
          refine lv_aload_n hx hb dX10_lowestFor_36 rfl (lv_at hl 1 rfl) ?_
          refine lv_iload_n hx hb dX10_lowestFor_37 rfl (lv_at hl 0 rfl) ?_
          refine lv_iload_n hx hb dX10_lowestFor_38 rfl (lv_at hl 2 rfl) ?_
          refine lv_iload_n hx hb dX10_lowestFor_39 rfl (lv_at hl 3 rfl) ?_
          refine W.eq (g2 := F0 m 40 ls [.int (nI tk), .int (nI pa), .int (nI vi1), .ref (r 0), .int (c58 ((6 * vi1) + pa))]) rfl ?_
          refine zz_callV (qb := 2) (As := [.int (nI vi1), .int (nI pa), .int (nI tk)]) (rest := [.int (c58 ((6 * vi1) + pa))]) (wr := [((r 22), .inl (G.2 0, 2, .inl c22)), ((r 58), .inl (G.2 0, 42, .inl c58))]) S hw hl.1 lX10_412 (c_x_with l G r j0 j2 j4 j10 j11 j12 j13 j14 j15 j16 j17 (nI lv) j19 j20 j34 j40 j44 j47 j50 j51 j56 j61 c59 vi1 pa tk (by first | assumption | omega | exact Or.inr ⟨_, by omega, rfl⟩ | (unfold zz_sok; decide) | decide | exact (fun j hj => (hv7 j hj).1)) (by first | assumption | omega | exact Or.inr ⟨_, by omega, rfl⟩ | (unfold zz_sok; decide) | decide | exact (fun j hj => (hv7 j hj).1)) (by first | assumption | omega | exact Or.inr ⟨_, by omega, rfl⟩ | (unfold zz_sok; decide) | decide | exact (fun j hj => (hv7 j hj).1))) ⟨Nat.le_of_ble_eq_true rfl, Nat.le_of_ble_eq_true rfl⟩ ⟨Nat.le_of_ble_eq_true rfl, Nat.le_of_ble_eq_true rfl⟩ [2, 1] [0, 3] (by decide) rfl rfl (by decide) (by decide) rfl rfl rfl rfl (Nat.le_of_ble_eq_true rfl) dX10_lowestFor_40 ?_
          clear hw
          intro rr u H locs hp hw
          refine hp.elim fun rv_14 zg0 => zg0.elim fun zee1 zg1 => zg1.elim fun zee2 hq40_0 => ?_
          clear hp zg0 zg1
          subst zee1
          subst zee2
          replace hw : zz_w G A s [((r 22), .inl (G.2 0, 2, .inl c22)), ((r 58), .inl (G.2 0, 42, .inl c58)), ((r 0), .inr (10, (zz_mo r [(0, j0), (2, j2), (4, j4), (10, j10), (11, j11), (12, j12), (13, j13), (14, j14), (15, j15), (16, j16), (17, j17), (18, (nI lv)), (19, j19), (20, j20), (34, j34), (40, j40), (44, j44), (47, j47), (50, j50), (51, j51), (56, j56), (61, j61)]))), ((r 59), .inl (G.2 0, 896, .inl c59))] H _ := hw
          refine W.eq (g2 := F0 m 43 ls [.int rv_14, .int (c58 ((6 * vi1) + pa))]) rfl ?_
          refine lv_iadd hx hb dX10_lowestFor_43 ?_
          refine lv_topi (fun z15 ez15 => ?_)
          refine lv_aload_n hx hb dX10_lowestFor_44 rfl (lv_at hl 1 rfl) ?_
          refine zz_get (v := .ref (r 59)) S hw fgX10_134 2 rfl rfl dX10_lowestFor_45 ?_
          refine lv_sipush (v := 128) hx hb dX10_lowestFor_48 (by decide) ?_
          refine lv_iload_n hx hb dX10_lowestFor_51 rfl (lv_at hl 2 rfl) ?_
          refine lv_imul hx hb dX10_lowestFor_52 ?_
          refine zz_topi (y := (nI (128 * pa))) (pk_mul _ _) ?_
          refine lv_iload_n hx hb dX10_lowestFor_53 rfl (lv_at hl 3 rfl) ?_
          refine lv_iadd hx hb dX10_lowestFor_54 ?_
          refine zz_topi (y := (nI ((128 * pa) + tk))) (nI_add _ _) ?_
          refine zz_iald (v := (c59 ((128 * pa) + tk))) S hw 3 rfl (vp_in_nI (n := ((128 * pa) + tk)) (by omega) (by decide)) (congrArg c59 (nI_clamp (n := ((128 * pa) + tk)) (by omega))) dX10_lowestFor_55 ?_
          refine lv_icmp_ne (tgt := 61) hx hb dX10_lowestFor_56 (by decide) (fun c56_16 => ?_) (fun c56_16 => ?_)
          · skip
            refine lv_iinc (v := (nI (vi1 + 1))) (lv' := [(3, .int (nI (vi1 + 1))), (0, .ref (r 0)), (1, .int (nI pa)), (2, .int (nI tk))]) hx hb dX10_lowestFor_61 hl (k := 0) rfl (nI_add _ 1) (by decide) rfl (fun ls hl => ?_)
            refine lv_goto (tgt := 2) hx hb dX10_lowestFor_64 (by decide) ?_
            exact ih2 (vi1 + 1) _ _ _ (by omega) (by omega) (by first | exact zj_nx hv2_9 (fun z => absurd (by assumption) (hq19_0.mpr z.1)) | exact zj_nx hv2_9 (fun z => absurd ((zj_ev ez15 hq40_0).trans z.2) (by assumption))) (hw.sub [2, 0, 1, 3] (by decide) rfl) (lv_sub hl [0, 1, 2, 3] rfl)
          · skip
            refine lv_iload_n hx hb dX10_lowestFor_59 rfl (lv_at hl 0 rfl) ?_
            exact hret _ _ _ _ _ _ ⟨(nI vi1), rfl, rfl, (by first | exact Or.inl rfl | exact Or.inr ⟨_, by omega, rfl⟩), (by first | exact (zj_hy hv2_9 ⟨hq19_0.mp (by assumption), (zj_ev ez15 hq40_0).symm.trans (by assumption)⟩ _ (by omega) (by omega)).symm | exact (zj_hn (fun j hj => hv2_9 j (by omega))).symm)⟩ (hw.sub [2, 0, 1, 3] (by decide) rfl) rfl dX10_lowestFor_60
  exact lp2_10 (pp + 1 - 0) 0 _ _ _ (by omega) (by omega) (fun j hj => absurd hj (Nat.not_lt_zero j)) hw (lv_sub hl [0, 1, 2, 3] rfl)
theorem kd_ncX10_given : kd_ck 42697349281688536968226309462747176975783079540259781745725749516233266513087522981479694461310370501375107240366438612324677385313697518316132060780109881927767333768840282651 73 cX10_given.data.toList 0 = true := by decide +kernel
theorem dX10_given_0 : decode cX10_given 0 = .ok (.iload_n 1, 1) := kd_dk0 kd_o27 kd_ncX10_given rfl
theorem dX10_given_1 : decode cX10_given 1 = .ok (.iconst (-1), 1) := kd_dk0 kd_o2 kd_ncX10_given rfl
theorem dX10_given_2 : decode cX10_given 2 = .ok (.if_icmp .eq 13, 3) := kd_dj2 kd_o159 (w := 13) kd_ncX10_given rfl rfl
theorem dX10_given_5 : decode cX10_given 5 = .ok (.aload_n 0, 1) := kd_dk0 kd_o42 kd_ncX10_given rfl
theorem dX10_given_6 : decode cX10_given 6 = .ok (.iload_n 1, 1) := kd_dk0 kd_o27 kd_ncX10_given rfl
theorem dX10_given_7 : decode cX10_given 7 = .ok (.invokevirtual 382, 3) := kd_dk2 kd_o182 kd_ncX10_given rfl
theorem dX10_given_10 : decode cX10_given 10 = .ok (.ifCond .ne 5, 3) := kd_dj2 kd_o154 (w := 5) kd_ncX10_given rfl rfl
theorem dX10_given_13 : decode cX10_given 13 = .ok (.iconst (-1), 1) := kd_dk0 kd_o2 kd_ncX10_given rfl
theorem dX10_given_14 : decode cX10_given 14 = .ok (.ireturn, 1) := kd_dk0 kd_o172 kd_ncX10_given rfl
theorem dX10_given_15 : decode cX10_given 15 = .ok (.aload_n 0, 1) := kd_dk0 kd_o42 kd_ncX10_given rfl
theorem dX10_given_16 : decode cX10_given 16 = .ok (.invokevirtual 415, 3) := kd_dk2 kd_o182 kd_ncX10_given rfl
theorem dX10_given_19 : decode cX10_given 19 = .ok (.iload_n 1, 1) := kd_dk0 kd_o27 kd_ncX10_given rfl
theorem dX10_given_20 : decode cX10_given 20 = .ok (.iconst (-1), 1) := kd_dk0 kd_o2 kd_ncX10_given rfl
theorem dX10_given_21 : decode cX10_given 21 = .ok (.if_icmp .ne 10, 3) := kd_dj2 kd_o160 (w := 10) kd_ncX10_given rfl rfl
theorem dX10_given_24 : decode cX10_given 24 = .ok (.aload_n 0, 1) := kd_dk0 kd_o42 kd_ncX10_given rfl
theorem dX10_given_25 : decode cX10_given 25 = .ok (.getfield 134, 3) := kd_dk2 kd_o180 kd_ncX10_given rfl
theorem dX10_given_28 : decode cX10_given 28 = .ok (.iconst 0, 1) := kd_dk0 kd_o3 kd_ncX10_given rfl
theorem dX10_given_29 : decode cX10_given 29 = .ok (.iaload, 1) := kd_dk0 kd_o46 kd_ncX10_given rfl
theorem dX10_given_30 : decode cX10_given 30 = .ok (.ireturn, 1) := kd_dk0 kd_o172 kd_ncX10_given rfl
theorem dX10_given_31 : decode cX10_given 31 = .ok (.iconst 0, 1) := kd_dk0 kd_o3 kd_ncX10_given rfl
theorem dX10_given_32 : decode cX10_given 32 = .ok (.istore_n 2, 1) := kd_dk0 kd_o61 kd_ncX10_given rfl
theorem dX10_given_33 : decode cX10_given 33 = .ok (.iconst 0, 1) := kd_dk0 kd_o3 kd_ncX10_given rfl
theorem dX10_given_34 : decode cX10_given 34 = .ok (.istore_n 3, 1) := kd_dk0 kd_o62 kd_ncX10_given rfl
theorem dX10_given_35 : decode cX10_given 35 = .ok (.iload_n 3, 1) := kd_dk0 kd_o29 kd_ncX10_given rfl
theorem dX10_given_36 : decode cX10_given 36 = .ok (.iload_n 1, 1) := kd_dk0 kd_o27 kd_ncX10_given rfl
theorem dX10_given_37 : decode cX10_given 37 = .ok (.if_icmp .ge 29, 3) := kd_dj2 kd_o162 (w := 29) kd_ncX10_given rfl rfl
theorem dX10_given_40 : decode cX10_given 40 = .ok (.aload_n 0, 1) := kd_dk0 kd_o42 kd_ncX10_given rfl
theorem dX10_given_41 : decode cX10_given 41 = .ok (.iload_n 3, 1) := kd_dk0 kd_o29 kd_ncX10_given rfl
theorem dX10_given_42 : decode cX10_given 42 = .ok (.iload_n 2, 1) := kd_dk0 kd_o28 kd_ncX10_given rfl
theorem dX10_given_43 : decode cX10_given 43 = .ok (.invokevirtual 418, 3) := kd_dk2 kd_o182 kd_ncX10_given rfl
theorem dX10_given_46 : decode cX10_given 46 = .ok (.istore 4, 2) := kd_dk1 kd_o54 kd_ncX10_given rfl
theorem dX10_given_48 : decode cX10_given 48 = .ok (.iload 4, 2) := kd_dk1 kd_o21 kd_ncX10_given rfl
theorem dX10_given_50 : decode cX10_given 50 = .ok (.ifCond .lt 10, 3) := kd_dj2 kd_o155 (w := 10) kd_ncX10_given rfl rfl
theorem dX10_given_53 : decode cX10_given 53 = .ok (.iload_n 2, 1) := kd_dk0 kd_o28 kd_ncX10_given rfl
theorem dX10_given_54 : decode cX10_given 54 = .ok (.iconst 1, 1) := kd_dk0 kd_o4 kd_ncX10_given rfl
theorem dX10_given_55 : decode cX10_given 55 = .ok (.iload 4, 2) := kd_dk1 kd_o21 kd_ncX10_given rfl
theorem dX10_given_57 : decode cX10_given 57 = .ok (.ishl, 1) := kd_dk0 kd_o120 kd_ncX10_given rfl
theorem dX10_given_58 : decode cX10_given 58 = .ok (.ior, 1) := kd_dk0 kd_o128 kd_ncX10_given rfl
theorem dX10_given_59 : decode cX10_given 59 = .ok (.istore_n 2, 1) := kd_dk0 kd_o61 kd_ncX10_given rfl
theorem dX10_given_60 : decode cX10_given 60 = .ok (.iinc 3 1, 3) := kd_dji kd_o132 (w := 1) kd_ncX10_given rfl rfl
theorem dX10_given_63 : decode cX10_given 63 = .ok (.goto (-28), 3) := kd_dj2 kd_o167 (w := 65508) kd_ncX10_given rfl rfl
theorem dX10_given_66 : decode cX10_given 66 = .ok (.aload_n 0, 1) := kd_dk0 kd_o42 kd_ncX10_given rfl
theorem dX10_given_67 : decode cX10_given 67 = .ok (.iload_n 1, 1) := kd_dk0 kd_o27 kd_ncX10_given rfl
theorem dX10_given_68 : decode cX10_given 68 = .ok (.iload_n 2, 1) := kd_dk0 kd_o28 kd_ncX10_given rfl
theorem dX10_given_69 : decode cX10_given 69 = .ok (.invokevirtual 418, 3) := kd_dk2 kd_o182 kd_ncX10_given rfl
theorem dX10_given_72 : decode cX10_given 72 = .ok (.ireturn, 1) := kd_dk0 kd_o172 kd_ncX10_given rfl
set_option maxHeartbeats 8000000 in
set_option maxRecDepth 100000 in
theorem c_x_given (l : Launch) (G : zz_G) (r : Nat → Nat) (j0 : Int32) (j2 : Int32) (j4 : Int32) (j10 : Int32) (j11 : Int32) (j12 : Int32) (j13 : Int32) (j14 : Int32) (j15 : Int32) (j16 : Int32) (j17 : Int32) (j19 : Int32) (j20 : Int32) (j34 : Int32) (j40 : Int32) (j44 : Int32) (j47 : Int32) (j50 : Int32) (j51 : Int32) (j56 : Int32) (j61 : Int32) (lv : Nat) (pp : Nat) (pq : Nat) (c22 : Nat → Int32) (c24 : Nat → Int32) (c25 : Nat → Int32) (c26 : Nat → Int32) (c28 : Nat → Int32) (c29 : Nat → Int32) (c30 : Nat → Int32) (c31 : Nat → Int32) (c32 : Nat → Int32) (c33 : Nat → Int32) (c35 : Nat → Int32) (c36 : Nat → Int32) (c37 : Nat → Int32) (c38 : Nat → Int32) (c39 : Nat → Int32) (c41 : Nat → Int32) (c42 : Nat → Int32) (c45 : Nat → Int32) (c46 : Nat → Int32) (c48 : Nat → Int32) (c49 : Nat → Int32) (c58 : Nat → Int32) (c59 : Nat → Int32) (ar1 : Int32) (hlv : lv ≤ 1) (hpe : c22 lv = nI pp) (hpp : pp ≤ 7) (hpa : c26 lv = nI pq) (hpq : pq ≤ 6) (hlw : zz_LW 2 0 0 c32 c33 c35 c36 c37 c38 c39 c41 c42) : zz_M l G mX10_given 6 0 0 [.ref (r 0), .int ar1] [((r 0), .inr (10, (zz_mo r [(0, j0), (2, j2), (4, j4), (10, j10), (11, j11), (12, j12), (13, j13), (14, j14), (15, j15), (16, j16), (17, j17), (18, (nI lv)), (19, j19), (20, j20), (34, j34), (40, j40), (44, j44), (47, j47), (50, j50), (51, j51), (56, j56), (61, j61)]))), ((r 22), .inl (G.2 0, 2, .inl c22)), ((r 24), .inl (G.2 0, 14, .inl c24)), ((r 25), .inl (G.2 0, 14, .inl c25)), ((r 26), .inl (G.2 0, 2, .inl c26)), ((r 28), .inl (G.2 0, 12, .inl c28)), ((r 29), .inl (G.2 0, 12, .inl c29)), ((r 30), .inl (G.2 0, 2, .inl c30)), ((r 31), .inl (G.2 0, 2, .inl c31)), ((r 32), .inl (G.2 0, 8, .inl c32)), ((r 33), .inl (G.2 0, 8, .inl c33)), ((r 35), .inl (G.2 2, 260, .inl c35)), ((r 36), .inl (G.2 0, 260, .inl c36)), ((r 37), .inl (G.2 0, 260, .inl c37)), ((r 38), .inl (G.2 0, 260, .inl c38)), ((r 39), .inl (G.2 0, 260, .inl c39)), ((r 41), .inl (G.2 0, 840, .inl c41)), ((r 42), .inl (G.2 0, 840, .inl c42)), ((r 45), .inl (G.2 0, 9, .inl c45)), ((r 46), .inl (G.2 0, 400, .inl c46)), ((r 48), .inl (G.2 0, 71, .inl c48)), ((r 49), .inl (G.2 0, 71, .inl c49)), ((r 58), .inl (G.2 0, 42, .inl c58)), ((r 59), .inl (G.2 0, 896, .inl c59))] (fun rr u => ∃ (rv : Int32), ∃ (k47 : Int32), ∃ (k50 : Int32), ∃ (k51 : Int32), ∃ (d45 : Nat → Int32), ∃ (d46 : Nat → Int32), ∃ (d49 : Nat → Int32), ∃ (d58 : Nat → Int32), ∃ (d59 : Nat → Int32), rr = some (.int rv) ∧ u = [((r 0), .inr (10, (zz_mo r [(0, j0), (2, j2), (4, j4), (10, j10), (11, j11), (12, j12), (13, j13), (14, j14), (15, j15), (16, j16), (17, j17), (18, (nI lv)), (19, j19), (20, j20), (34, j34), (40, j40), (44, j44), (47, k47), (50, k50), (51, k51), (56, j56), (61, j61)]))), ((r 22), .inl (G.2 0, 2, .inl c22)), ((r 24), .inl (G.2 0, 14, .inl c24)), ((r 25), .inl (G.2 0, 14, .inl c25)), ((r 26), .inl (G.2 0, 2, .inl c26)), ((r 28), .inl (G.2 0, 12, .inl c28)), ((r 29), .inl (G.2 0, 12, .inl c29)), ((r 30), .inl (G.2 0, 2, .inl c30)), ((r 31), .inl (G.2 0, 2, .inl c31)), ((r 32), .inl (G.2 0, 8, .inl c32)), ((r 33), .inl (G.2 0, 8, .inl c33)), ((r 35), .inl (G.2 2, 260, .inl c35)), ((r 36), .inl (G.2 0, 260, .inl c36)), ((r 37), .inl (G.2 0, 260, .inl c37)), ((r 38), .inl (G.2 0, 260, .inl c38)), ((r 39), .inl (G.2 0, 260, .inl c39)), ((r 41), .inl (G.2 0, 840, .inl c41)), ((r 42), .inl (G.2 0, 840, .inl c42)), ((r 45), .inl (G.2 0, 9, .inl d45)), ((r 46), .inl (G.2 0, 400, .inl d46)), ((r 48), .inl (G.2 0, 71, .inl c48)), ((r 49), .inl (G.2 0, 71, .inl d49)), ((r 58), .inl (G.2 0, 42, .inl d58)), ((r 59), .inl (G.2 0, 896, .inl d59))] ∧ (zA (ar1 = -1 ∨ zz_In pq ar1) (∃ τ W9 M9 : Nat → Int32, zy_q 71 c48 τ ∧ (∀ Λ, (zr_HD lv c32 c33 c35 c36 c37 c38 c39 c41 c42 (c30 lv)) Λ → ∀ i j, i < pp → j < pq → W9 (6 * i + j) = zj_p ((zr_Sx 99 lv τ c24 c28 c25 c29 (Λ 0)) i j) (c30 lv) (τ (14 + i) = 1) (-1)) ∧ zj_J (fun a p => ¬ W9 (6 * a + p) < 0) (fun a p => W9 (6 * a + p)) pp pq 128 0 M9 ∧ ((ar1 = -1 ∧ rv = M9 0) ∨ ∃ k : Nat, k < pq ∧ ar1 = nI k ∧ rv = (zj_t (fun p s => zj_h (fun a => (zm_bit (nI s) (nI a) = 0 ∧ ¬ W9 (6 * a + p) < 0) ∧ W9 (6 * a + p) + M9 (128 * p + 128 + zj_u s a) = M9 (128 * p + s)) pp) (k + 1)).2)) rv (-1))) := by
  refine zz_enteri (by decide +kernel) (Nat.le_of_ble_eq_true rfl) ?_
  intro p e s m args below meth c A Q ls S hnm hret hw hl
  have hl : lv_has ls 5 [(0, .ref (r 0)), (1, .int ar1)] := hl
  have hx := S.1
  have hb := S.2.1
  refine lv_iload_n hx hb dX10_given_0 rfl (lv_at hl 1 rfl) ?_
  refine lv_iconst (v := (-1)) hx hb dX10_given_1 (by decide) ?_
  refine lv_icmp_eq (tgt := 15) hx hb dX10_given_2 (by decide) (fun c2_1 => ?_) (fun c2_1 => ?_)
  · skip
    subst c2_1
    have hl : lv_has ls 5 [(0, .ref (r 0)), (1, .int (-1))] := hl
    refine lv_aload_n hx hb dX10_given_15 rfl (lv_at hl 0 rfl) ?_
    refine zz_callV (qb := 0) (As := []) (rest := []) (wr := []) S hw hl.1 lX10_415 (c_x_fillsGiven l G r j0 j2 j4 j10 j11 j12 j13 j14 j15 j16 j17 j19 j20 j34 j40 j44 j47 j50 j51 j56 j61 lv pp pq c22 c24 c25 c26 c28 c29 c30 c31 c32 c33 c35 c36 c37 c38 c39 c41 c42 c45 c46 c48 c49 c58 c59 (by first | assumption | omega | exact Or.inr ⟨_, by omega, rfl⟩ | (unfold zz_sok; decide) | decide | exact (fun j hj => (hv7 j hj).1)) (by first | assumption | omega | exact Or.inr ⟨_, by omega, rfl⟩ | (unfold zz_sok; decide) | decide | exact (fun j hj => (hv7 j hj).1)) (by first | assumption | omega | exact Or.inr ⟨_, by omega, rfl⟩ | (unfold zz_sok; decide) | decide | exact (fun j hj => (hv7 j hj).1)) (by first | assumption | omega | exact Or.inr ⟨_, by omega, rfl⟩ | (unfold zz_sok; decide) | decide | exact (fun j hj => (hv7 j hj).1)) (by first | assumption | omega | exact Or.inr ⟨_, by omega, rfl⟩ | (unfold zz_sok; decide) | decide | exact (fun j hj => (hv7 j hj).1)) (by first | assumption | omega | exact Or.inr ⟨_, by omega, rfl⟩ | (unfold zz_sok; decide) | decide | exact (fun j hj => (hv7 j hj).1))) ⟨Nat.le_of_ble_eq_true rfl, Nat.le_of_ble_eq_true rfl⟩ ⟨Nat.le_of_ble_eq_true rfl, Nat.le_of_ble_eq_true rfl⟩ [0, 1, 2, 3, 4, 5, 6, 7, 8, 9, 10, 11, 12, 13, 14, 15, 16, 17, 18, 19, 20, 21, 22, 23] [] (by decide +kernel) rfl rfl (by decide +kernel) (by decide +kernel) rfl rfl rfl rfl (Nat.le_of_ble_eq_true rfl) dX10_given_16 ?_
    clear hw
    intro rr u H locs hp hw
    refine hp.elim fun k47_2 zg0 => zg0.elim fun k50_3 zg1 => zg1.elim fun k51_4 zg2 => zg2.elim fun d45_5 zg3 => zg3.elim fun d46_6 zg4 => zg4.elim fun d49_7 zg5 => zg5.elim fun d58_8 zg6 => zg6.elim fun d59_9 zg7 => zg7.elim fun zee1 zg8 => zg8.elim fun zee2 zg9 => zg9.elim fun hq16_0 zg10 => zg10.elim fun hq16_1 hq16_2 => ?_
    clear hp zg0 zg1 zg2 zg3 zg4 zg5 zg6 zg7 zg8 zg9 zg10
    subst zee1
    subst zee2
    replace hw : zz_w G A s [((r 0), .inr (10, (zz_mo r [(0, j0), (2, j2), (4, j4), (10, j10), (11, j11), (12, j12), (13, j13), (14, j14), (15, j15), (16, j16), (17, j17), (18, (nI lv)), (19, j19), (20, j20), (34, j34), (40, j40), (44, j44), (47, k47_2), (50, k50_3), (51, k51_4), (56, j56), (61, j61)]))), ((r 22), .inl (G.2 0, 2, .inl c22)), ((r 24), .inl (G.2 0, 14, .inl c24)), ((r 25), .inl (G.2 0, 14, .inl c25)), ((r 26), .inl (G.2 0, 2, .inl c26)), ((r 28), .inl (G.2 0, 12, .inl c28)), ((r 29), .inl (G.2 0, 12, .inl c29)), ((r 30), .inl (G.2 0, 2, .inl c30)), ((r 31), .inl (G.2 0, 2, .inl c31)), ((r 32), .inl (G.2 0, 8, .inl c32)), ((r 33), .inl (G.2 0, 8, .inl c33)), ((r 35), .inl (G.2 2, 260, .inl c35)), ((r 36), .inl (G.2 0, 260, .inl c36)), ((r 37), .inl (G.2 0, 260, .inl c37)), ((r 38), .inl (G.2 0, 260, .inl c38)), ((r 39), .inl (G.2 0, 260, .inl c39)), ((r 41), .inl (G.2 0, 840, .inl c41)), ((r 42), .inl (G.2 0, 840, .inl c42)), ((r 45), .inl (G.2 0, 9, .inl d45_5)), ((r 46), .inl (G.2 0, 400, .inl d46_6)), ((r 48), .inl (G.2 0, 71, .inl c48)), ((r 49), .inl (G.2 0, 71, .inl d49_7)), ((r 58), .inl (G.2 0, 42, .inl d58_8)), ((r 59), .inl (G.2 0, 896, .inl d59_9))] H _ := hw
    refine W.eq (g2 := F0 m 19 ls []) rfl ?_
    refine lv_iload_n hx hb dX10_given_19 rfl (lv_at hl 1 rfl) ?_
    refine lv_iconst (v := (-1)) hx hb dX10_given_20 (by decide) ?_
    refine lv_icmp_ne (tgt := 31) hx hb dX10_given_21 (by decide) (fun cc => absurd cc (by decide)) (fun _ => ?_)
    refine lv_aload_n hx hb dX10_given_24 rfl (lv_at hl 0 rfl) ?_
    refine zz_get (v := .ref (r 59)) S hw fgX10_134 0 rfl rfl dX10_given_25 ?_
    refine lv_iconst (v := 0) hx hb dX10_given_28 (by decide) ?_
    refine zz_iald (v := (d59_9 0)) S hw 23 rfl (vp_in_nI (n := 0) (by decide) (by decide)) (congrArg d59_9 (nI_clamp (n := 0) (by omega))) dX10_given_29 ?_
    exact hret _ _ _ _ _ _ ⟨(d59_9 0), k47_2, k50_3, k51_4, d45_5, d46_6, d49_7, d58_8, d59_9, rfl, rfl, (by first | exact zA0 (fun z => z.elim (by assumption) (hq7_1 (by assumption))) | exact zA1 (Or.inl rfl) ⟨_, _, _, hq16_0, hq16_1, hq16_2, Or.inl ⟨rfl, rfl⟩⟩ | exact zA1 (Or.inr ⟨_, by assumption, rfl⟩) ⟨_, _, _, hq16_0, hq16_1, hq16_2, Or.inr ⟨_, by assumption, rfl, zj_s3 hdry (by omega) hq69_1⟩⟩)⟩ hw rfl dX10_given_30
  · skip
    refine lv_aload_n hx hb dX10_given_5 rfl (lv_at hl 0 rfl) ?_
    refine lv_iload_n hx hb dX10_given_6 rfl (lv_at hl 1 rfl) ?_
    refine zz_callV (qb := 0) (As := [.int ar1]) (rest := []) (wr := [((r 22), .inl (G.2 0, 2, .inl c22)), ((r 24), .inl (G.2 0, 14, .inl c24)), ((r 25), .inl (G.2 0, 14, .inl c25)), ((r 28), .inl (G.2 0, 12, .inl c28)), ((r 29), .inl (G.2 0, 12, .inl c29)), ((r 30), .inl (G.2 0, 2, .inl c30)), ((r 31), .inl (G.2 0, 2, .inl c31)), ((r 32), .inl (G.2 0, 8, .inl c32)), ((r 33), .inl (G.2 0, 8, .inl c33)), ((r 35), .inl (G.2 2, 260, .inl c35)), ((r 36), .inl (G.2 0, 260, .inl c36)), ((r 37), .inl (G.2 0, 260, .inl c37)), ((r 38), .inl (G.2 0, 260, .inl c38)), ((r 39), .inl (G.2 0, 260, .inl c39)), ((r 41), .inl (G.2 0, 840, .inl c41)), ((r 42), .inl (G.2 0, 840, .inl c42)), ((r 45), .inl (G.2 0, 9, .inl c45)), ((r 46), .inl (G.2 0, 400, .inl c46)), ((r 48), .inl (G.2 0, 71, .inl c48)), ((r 49), .inl (G.2 0, 71, .inl c49)), ((r 58), .inl (G.2 0, 42, .inl c58)), ((r 59), .inl (G.2 0, 896, .inl c59))]) S hw hl.1 lX10_382 (c_x_isPart l G r j0 j2 j4 j10 j11 j12 j13 j14 j15 j16 j17 j19 j20 j34 j40 j44 j47 j50 j51 j56 j61 lv pq c26 ar1 (by first | assumption | omega | exact Or.inr ⟨_, by omega, rfl⟩ | (unfold zz_sok; decide) | decide | exact (fun j hj => (hv7 j hj).1)) (by first | assumption | omega | exact Or.inr ⟨_, by omega, rfl⟩ | (unfold zz_sok; decide) | decide | exact (fun j hj => (hv7 j hj).1)) (by first | assumption | omega | exact Or.inr ⟨_, by omega, rfl⟩ | (unfold zz_sok; decide) | decide | exact (fun j hj => (hv7 j hj).1))) ⟨Nat.le_of_ble_eq_true rfl, Nat.le_of_ble_eq_true rfl⟩ ⟨Nat.le_of_ble_eq_true rfl, Nat.le_of_ble_eq_true rfl⟩ [0, 4] [1, 2, 3, 5, 6, 7, 8, 9, 10, 11, 12, 13, 14, 15, 16, 17, 18, 19, 20, 21, 22, 23] (by decide +kernel) rfl rfl (by decide +kernel) (by decide +kernel) rfl rfl rfl rfl (Nat.le_of_ble_eq_true rfl) dX10_given_7 ?_
    clear hw
    intro rr u H locs hp hw
    refine hp.elim fun rv_10 zg0 => zg0.elim fun zee1 zg1 => zg1.elim fun zee2 zg2 => zg2.elim fun hq7_0 zg3 => zg3.elim fun hq7_1 hq7_2 => ?_
    clear hp zg0 zg1 zg2 zg3
    subst zee1
    subst zee2
    replace hw : zz_w G A s [((r 22), .inl (G.2 0, 2, .inl c22)), ((r 24), .inl (G.2 0, 14, .inl c24)), ((r 25), .inl (G.2 0, 14, .inl c25)), ((r 28), .inl (G.2 0, 12, .inl c28)), ((r 29), .inl (G.2 0, 12, .inl c29)), ((r 30), .inl (G.2 0, 2, .inl c30)), ((r 31), .inl (G.2 0, 2, .inl c31)), ((r 32), .inl (G.2 0, 8, .inl c32)), ((r 33), .inl (G.2 0, 8, .inl c33)), ((r 35), .inl (G.2 2, 260, .inl c35)), ((r 36), .inl (G.2 0, 260, .inl c36)), ((r 37), .inl (G.2 0, 260, .inl c37)), ((r 38), .inl (G.2 0, 260, .inl c38)), ((r 39), .inl (G.2 0, 260, .inl c39)), ((r 41), .inl (G.2 0, 840, .inl c41)), ((r 42), .inl (G.2 0, 840, .inl c42)), ((r 45), .inl (G.2 0, 9, .inl c45)), ((r 46), .inl (G.2 0, 400, .inl c46)), ((r 48), .inl (G.2 0, 71, .inl c48)), ((r 49), .inl (G.2 0, 71, .inl c49)), ((r 58), .inl (G.2 0, 42, .inl c58)), ((r 59), .inl (G.2 0, 896, .inl c59)), ((r 0), .inr (10, (zz_mo r [(0, j0), (2, j2), (4, j4), (10, j10), (11, j11), (12, j12), (13, j13), (14, j14), (15, j15), (16, j16), (17, j17), (18, (nI lv)), (19, j19), (20, j20), (34, j34), (40, j40), (44, j44), (47, j47), (50, j50), (51, j51), (56, j56), (61, j61)]))), ((r 26), .inl (G.2 0, 2, .inl c26))] H _ := hw
    refine W.eq (g2 := F0 m 10 ls [.int rv_10]) rfl ?_
    refine W.eq (g2 := F0 m 10 ls [.int rv_10]) rfl ?_
    refine lv_if_ne (tgt := 15) hx hb dX10_given_10 (by decide) (fun c10_11 => ?_) (fun c10_11 => ?_)
    · skip
      obtain ⟨vq12, hvq12, rfl⟩ := hq7_0.resolve_left c10_11
      refine lv_aload_n hx hb dX10_given_15 rfl (lv_at hl 0 rfl) ?_
      refine zz_callV (qb := 22) (As := []) (rest := []) (wr := []) S hw hl.1 lX10_415 (c_x_fillsGiven l G r j0 j2 j4 j10 j11 j12 j13 j14 j15 j16 j17 j19 j20 j34 j40 j44 j47 j50 j51 j56 j61 lv pp pq c22 c24 c25 c26 c28 c29 c30 c31 c32 c33 c35 c36 c37 c38 c39 c41 c42 c45 c46 c48 c49 c58 c59 (by first | assumption | omega | exact Or.inr ⟨_, by omega, rfl⟩ | (unfold zz_sok; decide) | decide | exact (fun j hj => (hv7 j hj).1)) (by first | assumption | omega | exact Or.inr ⟨_, by omega, rfl⟩ | (unfold zz_sok; decide) | decide | exact (fun j hj => (hv7 j hj).1)) (by first | assumption | omega | exact Or.inr ⟨_, by omega, rfl⟩ | (unfold zz_sok; decide) | decide | exact (fun j hj => (hv7 j hj).1)) (by first | assumption | omega | exact Or.inr ⟨_, by omega, rfl⟩ | (unfold zz_sok; decide) | decide | exact (fun j hj => (hv7 j hj).1)) (by first | assumption | omega | exact Or.inr ⟨_, by omega, rfl⟩ | (unfold zz_sok; decide) | decide | exact (fun j hj => (hv7 j hj).1)) (by first | assumption | omega | exact Or.inr ⟨_, by omega, rfl⟩ | (unfold zz_sok; decide) | decide | exact (fun j hj => (hv7 j hj).1))) ⟨Nat.le_of_ble_eq_true rfl, Nat.le_of_ble_eq_true rfl⟩ ⟨Nat.le_of_ble_eq_true rfl, Nat.le_of_ble_eq_true rfl⟩ [22, 0, 1, 2, 23, 3, 4, 5, 6, 7, 8, 9, 10, 11, 12, 13, 14, 15, 16, 17, 18, 19, 20, 21] [] (by decide +kernel) rfl rfl (by decide +kernel) (by decide +kernel) rfl rfl rfl rfl (Nat.le_of_ble_eq_true rfl) dX10_given_16 ?_
      clear hw
      intro rr u H locs hp hw
      refine hp.elim fun k47_13 zg0 => zg0.elim fun k50_14 zg1 => zg1.elim fun k51_15 zg2 => zg2.elim fun d45_16 zg3 => zg3.elim fun d46_17 zg4 => zg4.elim fun d49_18 zg5 => zg5.elim fun d58_19 zg6 => zg6.elim fun d59_20 zg7 => zg7.elim fun zee1 zg8 => zg8.elim fun zee2 zg9 => zg9.elim fun hq16_0 zg10 => zg10.elim fun hq16_1 hq16_2 => ?_
      clear hp zg0 zg1 zg2 zg3 zg4 zg5 zg6 zg7 zg8 zg9 zg10
      subst zee1
      subst zee2
      replace hw : zz_w G A s [((r 0), .inr (10, (zz_mo r [(0, j0), (2, j2), (4, j4), (10, j10), (11, j11), (12, j12), (13, j13), (14, j14), (15, j15), (16, j16), (17, j17), (18, (nI lv)), (19, j19), (20, j20), (34, j34), (40, j40), (44, j44), (47, k47_13), (50, k50_14), (51, k51_15), (56, j56), (61, j61)]))), ((r 22), .inl (G.2 0, 2, .inl c22)), ((r 24), .inl (G.2 0, 14, .inl c24)), ((r 25), .inl (G.2 0, 14, .inl c25)), ((r 26), .inl (G.2 0, 2, .inl c26)), ((r 28), .inl (G.2 0, 12, .inl c28)), ((r 29), .inl (G.2 0, 12, .inl c29)), ((r 30), .inl (G.2 0, 2, .inl c30)), ((r 31), .inl (G.2 0, 2, .inl c31)), ((r 32), .inl (G.2 0, 8, .inl c32)), ((r 33), .inl (G.2 0, 8, .inl c33)), ((r 35), .inl (G.2 2, 260, .inl c35)), ((r 36), .inl (G.2 0, 260, .inl c36)), ((r 37), .inl (G.2 0, 260, .inl c37)), ((r 38), .inl (G.2 0, 260, .inl c38)), ((r 39), .inl (G.2 0, 260, .inl c39)), ((r 41), .inl (G.2 0, 840, .inl c41)), ((r 42), .inl (G.2 0, 840, .inl c42)), ((r 45), .inl (G.2 0, 9, .inl d45_16)), ((r 46), .inl (G.2 0, 400, .inl d46_17)), ((r 48), .inl (G.2 0, 71, .inl c48)), ((r 49), .inl (G.2 0, 71, .inl d49_18)), ((r 58), .inl (G.2 0, 42, .inl d58_19)), ((r 59), .inl (G.2 0, 896, .inl d59_20))] H _ := hw
      refine W.eq (g2 := F0 m 19 ls []) rfl ?_
      refine lv_iload_n hx hb dX10_given_19 rfl (lv_at hl 1 rfl) ?_
      refine lv_iconst (v := (-1)) hx hb dX10_given_20 (by decide) ?_
      refine lv_icmp_ne (tgt := 31) hx hb dX10_given_21 (by decide) (fun _ => ?_) (fun cc => absurd cc (zz_ng5 (n := vq12) (k := (-1)) (by decide) (by omega)))
      refine lv_iconst (v := 0) hx hb dX10_given_31 (by decide) ?_
      refine lv_istore_n (lv' := [(2, .int 0), (0, .ref (r 0)), (1, .int (nI vq12))]) hx hb dX10_given_32 rfl hl (by decide) rfl (fun ls hl => ?_)
      refine lv_iconst (v := 0) hx hb dX10_given_33 (by decide) ?_
      refine lv_istore_n (lv' := [(3, .int 0), (2, .int 0), (0, .ref (r 0)), (1, .int (nI vq12))]) hx hb dX10_given_34 rfl hl (by decide) rfl (fun ls hl => ?_)
      have lp35_45 : ∀ (vn22 vi21 : Nat) (vt35 : Nat) (H : Heap) (locs : List Loc) (ls : Array Slot), vi21 ≤ vq12 → vq12 < vi21 + vn22 → vt35 ≤ 127 → (∃ w, zj_t (fun p s => zj_h (fun a => (zm_bit (nI s) (nI a) = 0 ∧ ¬ d58_19 (6 * a + p) < 0) ∧ d58_19 (6 * a + p) + d59_20 (128 * p + 128 + zj_u s a) = d59_20 (128 * p + s)) pp) vi21 = (vt35, w)) → zz_w G A s [((r 0), .inr (10, (zz_mo r [(0, j0), (2, j2), (4, j4), (10, j10), (11, j11), (12, j12), (13, j13), (14, j14), (15, j15), (16, j16), (17, j17), (18, (nI lv)), (19, j19), (20, j20), (34, j34), (40, j40), (44, j44), (47, k47_13), (50, k50_14), (51, k51_15), (56, j56), (61, j61)]))), ((r 22), .inl (G.2 0, 2, .inl c22)), ((r 24), .inl (G.2 0, 14, .inl c24)), ((r 25), .inl (G.2 0, 14, .inl c25)), ((r 26), .inl (G.2 0, 2, .inl c26)), ((r 28), .inl (G.2 0, 12, .inl c28)), ((r 29), .inl (G.2 0, 12, .inl c29)), ((r 30), .inl (G.2 0, 2, .inl c30)), ((r 31), .inl (G.2 0, 2, .inl c31)), ((r 32), .inl (G.2 0, 8, .inl c32)), ((r 33), .inl (G.2 0, 8, .inl c33)), ((r 35), .inl (G.2 2, 260, .inl c35)), ((r 36), .inl (G.2 0, 260, .inl c36)), ((r 37), .inl (G.2 0, 260, .inl c37)), ((r 38), .inl (G.2 0, 260, .inl c38)), ((r 39), .inl (G.2 0, 260, .inl c39)), ((r 41), .inl (G.2 0, 840, .inl c41)), ((r 42), .inl (G.2 0, 840, .inl c42)), ((r 45), .inl (G.2 0, 9, .inl d45_16)), ((r 46), .inl (G.2 0, 400, .inl d46_17)), ((r 48), .inl (G.2 0, 71, .inl c48)), ((r 49), .inl (G.2 0, 71, .inl d49_18)), ((r 58), .inl (G.2 0, 42, .inl d58_19)), ((r 59), .inl (G.2 0, 896, .inl d59_20))] H locs → lv_has ls 5 [(3, .int (nI vi21)), (2, .int (nI vt35)), (0, .ref (r 0)), (1, .int (nI vq12))] → W p l e (zz_rm 6 0 0) s m args below meth c H locs (0) (0) Q (F0 m 35 ls []) := by
        intro vn22
        induction vn22 with
        | zero => intro vi21 vt35 H locs ls hi1 hi2; exact absurd hi2 (by omega)
        | succ vn22 ih35 =>
          intro vi21 vt35 H locs ls hi35a hi35b hv35_43 hv35_44 hw hl
          refine lv_iload_n hx hb dX10_given_35 rfl (lv_at hl 0 rfl) ?_
          refine lv_iload_n hx hb dX10_given_36 rfl (lv_at hl 3 rfl) ?_
          refine lv_icmp_ge (tgt := 66) hx hb dX10_given_37 (by decide) (fun c37_46 => ?_) (fun c37_46 => ?_)
          · skip
            have c37_46n : vq12 ≤ vi21 := (zz_le (a := vq12) (b := vi21) rfl rfl (by omega) (by omega)).mp c37_46
            refine lv_aload_n hx hb dX10_given_66 rfl (lv_at hl 2 rfl) ?_
            refine lv_iload_n hx hb dX10_given_67 rfl (lv_at hl 3 rfl) ?_
            refine lv_iload_n hx hb dX10_given_68 rfl (lv_at hl 1 rfl) ?_
            refine W.eq (g2 := F0 m 69 ls [.int (nI vt35), .int (nI vq12), .ref (r 0)]) rfl ?_
            refine zz_callV (qb := 0) (As := [.int (nI vq12), .int (nI vt35)]) (rest := []) (wr := [((r 24), .inl (G.2 0, 14, .inl c24)), ((r 25), .inl (G.2 0, 14, .inl c25)), ((r 26), .inl (G.2 0, 2, .inl c26)), ((r 28), .inl (G.2 0, 12, .inl c28)), ((r 29), .inl (G.2 0, 12, .inl c29)), ((r 30), .inl (G.2 0, 2, .inl c30)), ((r 31), .inl (G.2 0, 2, .inl c31)), ((r 32), .inl (G.2 0, 8, .inl c32)), ((r 33), .inl (G.2 0, 8, .inl c33)), ((r 35), .inl (G.2 2, 260, .inl c35)), ((r 36), .inl (G.2 0, 260, .inl c36)), ((r 37), .inl (G.2 0, 260, .inl c37)), ((r 38), .inl (G.2 0, 260, .inl c38)), ((r 39), .inl (G.2 0, 260, .inl c39)), ((r 41), .inl (G.2 0, 840, .inl c41)), ((r 42), .inl (G.2 0, 840, .inl c42)), ((r 45), .inl (G.2 0, 9, .inl d45_16)), ((r 46), .inl (G.2 0, 400, .inl d46_17)), ((r 48), .inl (G.2 0, 71, .inl c48)), ((r 49), .inl (G.2 0, 71, .inl d49_18))]) S hw hl.1 lX10_418 (c_x_lowestFor l G r j0 j2 j4 j10 j11 j12 j13 j14 j15 j16 j17 j19 j20 j34 j40 j44 k47_13 k50_14 k51_15 j56 j61 lv pp c22 d58_19 d59_20 vq12 vt35 (by first | assumption | omega | exact Or.inr ⟨_, by omega, rfl⟩ | (unfold zz_sok; decide) | decide | exact (fun j hj => (hv7 j hj).1)) (by first | assumption | omega | exact Or.inr ⟨_, by omega, rfl⟩ | (unfold zz_sok; decide) | decide | exact (fun j hj => (hv7 j hj).1)) (by first | assumption | omega | exact Or.inr ⟨_, by omega, rfl⟩ | (unfold zz_sok; decide) | decide | exact (fun j hj => (hv7 j hj).1)) (by first | assumption | omega | exact Or.inr ⟨_, by omega, rfl⟩ | (unfold zz_sok; decide) | decide | exact (fun j hj => (hv7 j hj).1)) (by first | assumption | omega | exact Or.inr ⟨_, by omega, rfl⟩ | (unfold zz_sok; decide) | decide | exact (fun j hj => (hv7 j hj).1))) ⟨Nat.le_of_ble_eq_true rfl, Nat.le_of_ble_eq_true rfl⟩ ⟨Nat.le_of_ble_eq_true rfl, Nat.le_of_ble_eq_true rfl⟩ [0, 1, 22, 23] [2, 3, 4, 5, 6, 7, 8, 9, 10, 11, 12, 13, 14, 15, 16, 17, 18, 19, 20, 21] (by decide +kernel) rfl rfl (by decide +kernel) (by decide +kernel) rfl rfl rfl rfl (Nat.le_of_ble_eq_true rfl) dX10_given_69 ?_
            clear hw
            intro rr u H locs hp hw
            refine hp.elim fun rv_47 zg0 => zg0.elim fun zee1 zg1 => zg1.elim fun zee2 zg2 => zg2.elim fun hq69_0 hq69_1 => ?_
            clear hp zg0 zg1 zg2
            subst zee1
            subst zee2
            replace hw : zz_w G A s [((r 24), .inl (G.2 0, 14, .inl c24)), ((r 25), .inl (G.2 0, 14, .inl c25)), ((r 26), .inl (G.2 0, 2, .inl c26)), ((r 28), .inl (G.2 0, 12, .inl c28)), ((r 29), .inl (G.2 0, 12, .inl c29)), ((r 30), .inl (G.2 0, 2, .inl c30)), ((r 31), .inl (G.2 0, 2, .inl c31)), ((r 32), .inl (G.2 0, 8, .inl c32)), ((r 33), .inl (G.2 0, 8, .inl c33)), ((r 35), .inl (G.2 2, 260, .inl c35)), ((r 36), .inl (G.2 0, 260, .inl c36)), ((r 37), .inl (G.2 0, 260, .inl c37)), ((r 38), .inl (G.2 0, 260, .inl c38)), ((r 39), .inl (G.2 0, 260, .inl c39)), ((r 41), .inl (G.2 0, 840, .inl c41)), ((r 42), .inl (G.2 0, 840, .inl c42)), ((r 45), .inl (G.2 0, 9, .inl d45_16)), ((r 46), .inl (G.2 0, 400, .inl d46_17)), ((r 48), .inl (G.2 0, 71, .inl c48)), ((r 49), .inl (G.2 0, 71, .inl d49_18)), ((r 0), .inr (10, (zz_mo r [(0, j0), (2, j2), (4, j4), (10, j10), (11, j11), (12, j12), (13, j13), (14, j14), (15, j15), (16, j16), (17, j17), (18, (nI lv)), (19, j19), (20, j20), (34, j34), (40, j40), (44, j44), (47, k47_13), (50, k50_14), (51, k51_15), (56, j56), (61, j61)]))), ((r 22), .inl (G.2 0, 2, .inl c22)), ((r 58), .inl (G.2 0, 42, .inl d58_19)), ((r 59), .inl (G.2 0, 896, .inl d59_20))] H _ := hw
            refine W.eq (g2 := F0 m 72 ls [.int rv_47]) rfl ?_
            exact hret _ _ _ _ _ _ ⟨rv_47, k47_13, k50_14, k51_15, d45_16, d46_17, d49_18, d58_19, d59_20, rfl, rfl, (by first | exact zA0 (fun z => z.elim (by assumption) (hq7_1 (by assumption))) | exact zA1 (Or.inl rfl) ⟨_, _, _, hq16_0, hq16_1, hq16_2, Or.inl ⟨rfl, rfl⟩⟩ | exact zA1 (Or.inr ⟨_, by assumption, rfl⟩) ⟨_, _, _, hq16_0, hq16_1, hq16_2, Or.inr ⟨_, by assumption, rfl, zj_s3 hv35_44 (by omega) hq69_1⟩⟩)⟩ (hw.sub [20, 21, 0, 1, 2, 3, 4, 5, 6, 7, 8, 9, 10, 11, 12, 13, 14, 15, 16, 17, 18, 19, 22, 23] (by decide +kernel) rfl) rfl dX10_given_72
          · skip
            have c37_46n : ¬ (vq12 ≤ vi21) := fun z => c37_46 ((zz_le (a := vq12) (b := vi21) rfl rfl (by omega) (by omega)).mpr z)
            refine lv_aload_n hx hb dX10_given_40 rfl (lv_at hl 2 rfl) ?_
            refine lv_iload_n hx hb dX10_given_41 rfl (lv_at hl 0 rfl) ?_
            refine lv_iload_n hx hb dX10_given_42 rfl (lv_at hl 1 rfl) ?_
            refine zz_callV (qb := 0) (As := [.int (nI vi21), .int (nI vt35)]) (rest := []) (wr := [((r 24), .inl (G.2 0, 14, .inl c24)), ((r 25), .inl (G.2 0, 14, .inl c25)), ((r 26), .inl (G.2 0, 2, .inl c26)), ((r 28), .inl (G.2 0, 12, .inl c28)), ((r 29), .inl (G.2 0, 12, .inl c29)), ((r 30), .inl (G.2 0, 2, .inl c30)), ((r 31), .inl (G.2 0, 2, .inl c31)), ((r 32), .inl (G.2 0, 8, .inl c32)), ((r 33), .inl (G.2 0, 8, .inl c33)), ((r 35), .inl (G.2 2, 260, .inl c35)), ((r 36), .inl (G.2 0, 260, .inl c36)), ((r 37), .inl (G.2 0, 260, .inl c37)), ((r 38), .inl (G.2 0, 260, .inl c38)), ((r 39), .inl (G.2 0, 260, .inl c39)), ((r 41), .inl (G.2 0, 840, .inl c41)), ((r 42), .inl (G.2 0, 840, .inl c42)), ((r 45), .inl (G.2 0, 9, .inl d45_16)), ((r 46), .inl (G.2 0, 400, .inl d46_17)), ((r 48), .inl (G.2 0, 71, .inl c48)), ((r 49), .inl (G.2 0, 71, .inl d49_18))]) S hw hl.1 lX10_418 (c_x_lowestFor l G r j0 j2 j4 j10 j11 j12 j13 j14 j15 j16 j17 j19 j20 j34 j40 j44 k47_13 k50_14 k51_15 j56 j61 lv pp c22 d58_19 d59_20 vi21 vt35 (by first | assumption | omega | exact Or.inr ⟨_, by omega, rfl⟩ | (unfold zz_sok; decide) | decide | exact (fun j hj => (hv7 j hj).1)) (by first | assumption | omega | exact Or.inr ⟨_, by omega, rfl⟩ | (unfold zz_sok; decide) | decide | exact (fun j hj => (hv7 j hj).1)) (by first | assumption | omega | exact Or.inr ⟨_, by omega, rfl⟩ | (unfold zz_sok; decide) | decide | exact (fun j hj => (hv7 j hj).1)) (by first | assumption | omega | exact Or.inr ⟨_, by omega, rfl⟩ | (unfold zz_sok; decide) | decide | exact (fun j hj => (hv7 j hj).1)) (by first | assumption | omega | exact Or.inr ⟨_, by omega, rfl⟩ | (unfold zz_sok; decide) | decide | exact (fun j hj => (hv7 j hj).1))) ⟨Nat.le_of_ble_eq_true rfl, Nat.le_of_ble_eq_true rfl⟩ ⟨Nat.le_of_ble_eq_true rfl, Nat.le_of_ble_eq_true rfl⟩ [0, 1, 22, 23] [2, 3, 4, 5, 6, 7, 8, 9, 10, 11, 12, 13, 14, 15, 16, 17, 18, 19, 20, 21] (by decide +kernel) rfl rfl (by decide +kernel) (by decide +kernel) rfl rfl rfl rfl (Nat.le_of_ble_eq_true rfl) dX10_given_43 ?_
            clear hw
            intro rr u H locs hp hw
            refine hp.elim fun rv_48 zg0 => zg0.elim fun zee1 zg1 => zg1.elim fun zee2 zg2 => zg2.elim fun hq43_0 hq43_1 => ?_
            clear hp zg0 zg1 zg2
            subst zee1
            subst zee2
            replace hw : zz_w G A s [((r 24), .inl (G.2 0, 14, .inl c24)), ((r 25), .inl (G.2 0, 14, .inl c25)), ((r 26), .inl (G.2 0, 2, .inl c26)), ((r 28), .inl (G.2 0, 12, .inl c28)), ((r 29), .inl (G.2 0, 12, .inl c29)), ((r 30), .inl (G.2 0, 2, .inl c30)), ((r 31), .inl (G.2 0, 2, .inl c31)), ((r 32), .inl (G.2 0, 8, .inl c32)), ((r 33), .inl (G.2 0, 8, .inl c33)), ((r 35), .inl (G.2 2, 260, .inl c35)), ((r 36), .inl (G.2 0, 260, .inl c36)), ((r 37), .inl (G.2 0, 260, .inl c37)), ((r 38), .inl (G.2 0, 260, .inl c38)), ((r 39), .inl (G.2 0, 260, .inl c39)), ((r 41), .inl (G.2 0, 840, .inl c41)), ((r 42), .inl (G.2 0, 840, .inl c42)), ((r 45), .inl (G.2 0, 9, .inl d45_16)), ((r 46), .inl (G.2 0, 400, .inl d46_17)), ((r 48), .inl (G.2 0, 71, .inl c48)), ((r 49), .inl (G.2 0, 71, .inl d49_18)), ((r 0), .inr (10, (zz_mo r [(0, j0), (2, j2), (4, j4), (10, j10), (11, j11), (12, j12), (13, j13), (14, j14), (15, j15), (16, j16), (17, j17), (18, (nI lv)), (19, j19), (20, j20), (34, j34), (40, j40), (44, j44), (47, k47_13), (50, k50_14), (51, k51_15), (56, j56), (61, j61)]))), ((r 22), .inl (G.2 0, 2, .inl c22)), ((r 58), .inl (G.2 0, 42, .inl d58_19)), ((r 59), .inl (G.2 0, 896, .inl d59_20))] H _ := hw
            refine W.eq (g2 := F0 m 46 ls [.int rv_48]) rfl ?_
            refine lv_istore (lv' := [(4, .int rv_48), (3, .int (nI vi21)), (2, .int (nI vt35)), (0, .ref (r 0)), (1, .int (nI vq12))]) hx hb dX10_given_46 hl (by decide) rfl (fun ls hl => ?_)
            refine lv_iload hx hb dX10_given_48 (lv_at hl 0 rfl) ?_
            refine lv_if_lt (tgt := 60) hx hb dX10_given_50 (by decide) (fun c50_49 => ?_) (fun c50_49 => ?_)
            · skip
              refine lv_iinc (v := (nI (vi21 + 1))) (lv' := [(3, .int (nI (vi21 + 1))), (4, .int rv_48), (2, .int (nI vt35)), (0, .ref (r 0)), (1, .int (nI vq12))]) hx hb dX10_given_60 hl (k := 1) rfl (nI_add _ 1) (by decide) rfl (fun ls hl => ?_)
              refine lv_goto (tgt := 35) hx hb dX10_given_63 (by decide) ?_
              exact ih35 (vi21 + 1) vt35 _ _ _ (by omega) (by omega) (by omega) (by first | exact zj_s1 hv35_44 hq43_1 hq43_0 (by assumption) | exact zj_s2 hv35_44 hq43_1 (by omega) hdry) (hw.sub [20, 21, 0, 1, 2, 3, 4, 5, 6, 7, 8, 9, 10, 11, 12, 13, 14, 15, 16, 17, 18, 19, 22, 23] (by decide +kernel) rfl) (lv_sub hl [0, 2, 3, 4] rfl)
            · skip
              obtain ⟨vq50, hvq50, rfl⟩ := zz_okn hq43_0 c50_49
              refine lv_iload_n hx hb dX10_given_53 rfl (lv_at hl 2 rfl) ?_
              refine lv_iconst (v := 1) hx hb dX10_given_54 (by decide) ?_
              refine lv_iload hx hb dX10_given_55 (lv_at hl 0 rfl) ?_
              refine lv_ishl hx hb dX10_given_57 ?_
              refine lv_topi (fun z51 ez51 => ?_)
              refine lv_ior hx hb dX10_given_58 ?_
              obtain ⟨vw52, hvw52, evw52, edvw52⟩ := zj_or (s := vt35) (q := vq50) (by omega) (by omega) ez51
              refine zz_topi (y := (nI vw52)) (evw52) ?_
              refine W.eq (g2 := F0 m 59 ls [.int (nI vw52)]) rfl ?_
              refine lv_istore_n (lv' := [(2, .int (nI vw52)), (4, .int (nI vq50)), (3, .int (nI vi21)), (0, .ref (r 0)), (1, .int (nI vq12))]) hx hb dX10_given_59 rfl hl (by decide) rfl (fun ls hl => ?_)
              refine lv_iinc (v := (nI (vi21 + 1))) (lv' := [(3, .int (nI (vi21 + 1))), (2, .int (nI vw52)), (4, .int (nI vq50)), (0, .ref (r 0)), (1, .int (nI vq12))]) hx hb dX10_given_60 hl (k := 2) rfl (nI_add _ 1) (by decide) rfl (fun ls hl => ?_)
              refine lv_goto (tgt := 35) hx hb dX10_given_63 (by decide) ?_
              exact ih35 (vi21 + 1) vw52 _ _ _ (by omega) (by omega) (by omega) (by first | exact zj_s1 hv35_44 hq43_1 hq43_0 (by assumption) | exact zj_s2 hv35_44 hq43_1 (by omega) edvw52) (hw.sub [20, 21, 0, 1, 2, 3, 4, 5, 6, 7, 8, 9, 10, 11, 12, 13, 14, 15, 16, 17, 18, 19, 22, 23] (by decide +kernel) rfl) (lv_sub hl [0, 1, 3, 4] rfl)
      exact lp35_45 (vq12 + 1 - 0) 0 0 _ _ _ (by omega) (by omega) (by omega) zj_s0 hw (lv_sub hl [0, 1, 2, 3] rfl)
    · skip
      refine lv_iconst (v := (-1)) hx hb dX10_given_13 (by decide) ?_
      exact hret _ _ _ _ _ _ ⟨(-1), j47, j50, j51, c45, c46, c49, c58, c59, rfl, rfl, (by first | exact zA0 (fun z => z.elim (by assumption) (hq7_1 (by assumption))) | exact zA1 (Or.inl rfl) ⟨_, _, _, hq16_0, hq16_1, hq16_2, Or.inl ⟨rfl, rfl⟩⟩ | exact zA1 (Or.inr ⟨_, by assumption, rfl⟩) ⟨_, _, _, hq16_0, hq16_1, hq16_2, Or.inr ⟨_, by assumption, rfl, zj_s3 hdry (by omega) hq69_1⟩⟩)⟩ (hw.sub [22, 0, 1, 2, 23, 3, 4, 5, 6, 7, 8, 9, 10, 11, 12, 13, 14, 15, 16, 17, 18, 19, 20, 21] (by decide +kernel) rfl) rfl dX10_given_14
theorem kd_ncX10_costsOf : kd_ck 51433475790848407246917363807890700407188568068097746902583154340088388388600056377859681678812012777472050011115453021502981099974182832333314574396913819442897961147605061490054299954501751916246058 83 cX10_costsOf.data.toList 0 = true := by decide +kernel
theorem dX10_costsOf_0 : decode cX10_costsOf 0 = .ok (.aload_n 0, 1) := kd_dk0 kd_o42 kd_ncX10_costsOf rfl
theorem dX10_costsOf_1 : decode cX10_costsOf 1 = .ok (.getfield 110, 3) := kd_dk2 kd_o180 kd_ncX10_costsOf rfl
theorem dX10_costsOf_4 : decode cX10_costsOf 4 = .ok (.iload_n 1, 1) := kd_dk0 kd_o27 kd_ncX10_costsOf rfl
theorem dX10_costsOf_5 : decode cX10_costsOf 5 = .ok (.iaload, 1) := kd_dk0 kd_o46 kd_ncX10_costsOf rfl
theorem dX10_costsOf_6 : decode cX10_costsOf 6 = .ok (.istore_n 3, 1) := kd_dk0 kd_o62 kd_ncX10_costsOf rfl
theorem dX10_costsOf_7 : decode cX10_costsOf 7 = .ok (.ldc_w 421, 3) := kd_dk2 kd_o19 kd_ncX10_costsOf rfl
theorem dX10_costsOf_10 : decode cX10_costsOf 10 = .ok (.istore 4, 2) := kd_dk1 kd_o54 kd_ncX10_costsOf rfl
theorem dX10_costsOf_12 : decode cX10_costsOf 12 = .ok (.iconst 0, 1) := kd_dk0 kd_o3 kd_ncX10_costsOf rfl
theorem dX10_costsOf_13 : decode cX10_costsOf 13 = .ok (.istore 5, 2) := kd_dk1 kd_o54 kd_ncX10_costsOf rfl
theorem dX10_costsOf_15 : decode cX10_costsOf 15 = .ok (.iload 5, 2) := kd_dk1 kd_o21 kd_ncX10_costsOf rfl
theorem dX10_costsOf_17 : decode cX10_costsOf 17 = .ok (.bipush 24, 2) := kd_dj1 kd_o16 (w := 24) kd_ncX10_costsOf rfl rfl
theorem dX10_costsOf_19 : decode cX10_costsOf 19 = .ok (.if_icmp .ge 54, 3) := kd_dj2 kd_o162 (w := 54) kd_ncX10_costsOf rfl rfl
theorem dX10_costsOf_22 : decode cX10_costsOf 22 = .ok (.aload_n 0, 1) := kd_dk0 kd_o42 kd_ncX10_costsOf rfl
theorem dX10_costsOf_23 : decode cX10_costsOf 23 = .ok (.getfield 113, 3) := kd_dk2 kd_o180 kd_ncX10_costsOf rfl
theorem dX10_costsOf_26 : decode cX10_costsOf 26 = .ok (.iload_n 1, 1) := kd_dk0 kd_o27 kd_ncX10_costsOf rfl
theorem dX10_costsOf_27 : decode cX10_costsOf 27 = .ok (.iload 5, 2) := kd_dk1 kd_o21 kd_ncX10_costsOf rfl
theorem dX10_costsOf_29 : decode cX10_costsOf 29 = .ok (.iastore, 1) := kd_dk0 kd_o79 kd_ncX10_costsOf rfl
theorem dX10_costsOf_30 : decode cX10_costsOf 30 = .ok (.iload 5, 2) := kd_dk1 kd_o21 kd_ncX10_costsOf rfl
theorem dX10_costsOf_32 : decode cX10_costsOf 32 = .ok (.iload_n 3, 1) := kd_dk0 kd_o29 kd_ncX10_costsOf rfl
theorem dX10_costsOf_33 : decode cX10_costsOf 33 = .ok (.invokestatic 330, 3) := kd_dk2 kd_o184 kd_ncX10_costsOf rfl
theorem dX10_costsOf_36 : decode cX10_costsOf 36 = .ok (.iload 4, 2) := kd_dk1 kd_o21 kd_ncX10_costsOf rfl
theorem dX10_costsOf_38 : decode cX10_costsOf 38 = .ok (.if_icmp .ge 29, 3) := kd_dj2 kd_o162 (w := 29) kd_ncX10_costsOf rfl rfl
theorem dX10_costsOf_41 : decode cX10_costsOf 41 = .ok (.aload_n 0, 1) := kd_dk0 kd_o42 kd_ncX10_costsOf rfl
theorem dX10_costsOf_42 : decode cX10_costsOf 42 = .ok (.iload_n 1, 1) := kd_dk0 kd_o27 kd_ncX10_costsOf rfl
theorem dX10_costsOf_43 : decode cX10_costsOf 43 = .ok (.iload_n 2, 1) := kd_dk0 kd_o28 kd_ncX10_costsOf rfl
theorem dX10_costsOf_44 : decode cX10_costsOf 44 = .ok (.invokevirtual 348, 3) := kd_dk2 kd_o182 kd_ncX10_costsOf rfl
theorem dX10_costsOf_47 : decode cX10_costsOf 47 = .ok (.aload_n 0, 1) := kd_dk0 kd_o42 kd_ncX10_costsOf rfl
theorem dX10_costsOf_48 : decode cX10_costsOf 48 = .ok (.getfield 67, 3) := kd_dk2 kd_o180 kd_ncX10_costsOf rfl
theorem dX10_costsOf_51 : decode cX10_costsOf 51 = .ok (.aload_n 0, 1) := kd_dk0 kd_o42 kd_ncX10_costsOf rfl
theorem dX10_costsOf_52 : decode cX10_costsOf 52 = .ok (.getfield 236, 3) := kd_dk2 kd_o180 kd_ncX10_costsOf rfl
theorem dX10_costsOf_55 : decode cX10_costsOf 55 = .ok (.iaload, 1) := kd_dk0 kd_o46 kd_ncX10_costsOf rfl
theorem dX10_costsOf_56 : decode cX10_costsOf 56 = .ok (.if_icmp .lt 11, 3) := kd_dj2 kd_o161 (w := 11) kd_ncX10_costsOf rfl rfl
theorem dX10_costsOf_59 : decode cX10_costsOf 59 = .ok (.iload 5, 2) := kd_dk1 kd_o21 kd_ncX10_costsOf rfl
theorem dX10_costsOf_61 : decode cX10_costsOf 61 = .ok (.iload_n 3, 1) := kd_dk0 kd_o29 kd_ncX10_costsOf rfl
theorem dX10_costsOf_62 : decode cX10_costsOf 62 = .ok (.invokestatic 330, 3) := kd_dk2 kd_o184 kd_ncX10_costsOf rfl
theorem dX10_costsOf_65 : decode cX10_costsOf 65 = .ok (.istore 4, 2) := kd_dk1 kd_o54 kd_ncX10_costsOf rfl
theorem dX10_costsOf_67 : decode cX10_costsOf 67 = .ok (.iinc 5 1, 3) := kd_dji kd_o132 (w := 1) kd_ncX10_costsOf rfl rfl
theorem dX10_costsOf_70 : decode cX10_costsOf 70 = .ok (.goto (-55), 3) := kd_dj2 kd_o167 (w := 65481) kd_ncX10_costsOf rfl rfl
theorem dX10_costsOf_73 : decode cX10_costsOf 73 = .ok (.aload_n 0, 1) := kd_dk0 kd_o42 kd_ncX10_costsOf rfl
theorem dX10_costsOf_74 : decode cX10_costsOf 74 = .ok (.getfield 113, 3) := kd_dk2 kd_o180 kd_ncX10_costsOf rfl
theorem dX10_costsOf_77 : decode cX10_costsOf 77 = .ok (.iload_n 1, 1) := kd_dk0 kd_o27 kd_ncX10_costsOf rfl
theorem dX10_costsOf_78 : decode cX10_costsOf 78 = .ok (.iload_n 3, 1) := kd_dk0 kd_o29 kd_ncX10_costsOf rfl
theorem dX10_costsOf_79 : decode cX10_costsOf 79 = .ok (.iastore, 1) := kd_dk0 kd_o79 kd_ncX10_costsOf rfl
theorem dX10_costsOf_80 : decode cX10_costsOf 80 = .ok (.iload 4, 2) := kd_dk1 kd_o21 kd_ncX10_costsOf rfl
theorem dX10_costsOf_82 : decode cX10_costsOf 82 = .ok (.ireturn, 1) := kd_dk0 kd_o172 kd_ncX10_costsOf rfl
set_option maxHeartbeats 8000000 in
set_option maxRecDepth 100000 in
theorem c_x_costsOf (l : Launch) (G : zz_G) (r : Nat → Nat) (j0 : Int32) (j2 : Int32) (j4 : Int32) (j10 : Int32) (j11 : Int32) (j12 : Int32) (j13 : Int32) (j14 : Int32) (j15 : Int32) (j16 : Int32) (j17 : Int32) (j19 : Int32) (j20 : Int32) (j34 : Int32) (j40 : Int32) (j44 : Int32) (j47 : Int32) (j50 : Int32) (j51 : Int32) (j56 : Int32) (j61 : Int32) (lv : Nat) (c24 : Nat → Int32) (c25 : Nat → Int32) (c28 : Nat → Int32) (c29 : Nat → Int32) (c30 : Nat → Int32) (c32 : Nat → Int32) (c33 : Nat → Int32) (c35 : Nat → Int32) (c36 : Nat → Int32) (c37 : Nat → Int32) (c38 : Nat → Int32) (c39 : Nat → Int32) (c41 : Nat → Int32) (c42 : Nat → Int32) (c45 : Nat → Int32) (c46 : Nat → Int32) (c48 : Nat → Int32) (c49 : Nat → Int32) (pe : Nat) (pa : Nat) (hlv : lv ≤ 1) (hlw : zz_LW 2 0 0 c32 c33 c35 c36 c37 c38 c39 c41 c42) (hpx : pe < 7) (hpy : pa < 6) : zz_M l G mX10_costsOf 4 0 0 [.ref (r 0), .int (nI pe), .int (nI pa)] [((r 0), .inr (10, (zz_mo r [(0, j0), (2, j2), (4, j4), (10, j10), (11, j11), (12, j12), (13, j13), (14, j14), (15, j15), (16, j16), (17, j17), (18, (nI lv)), (19, j19), (20, j20), (34, j34), (40, j40), (44, j44), (47, j47), (50, j50), (51, j51), (56, j56), (61, j61)]))), ((r 24), .inl (G.2 0, 14, .inl c24)), ((r 25), .inl (G.2 0, 14, .inl c25)), ((r 28), .inl (G.2 0, 12, .inl c28)), ((r 29), .inl (G.2 0, 12, .inl c29)), ((r 30), .inl (G.2 0, 2, .inl c30)), ((r 32), .inl (G.2 0, 8, .inl c32)), ((r 33), .inl (G.2 0, 8, .inl c33)), ((r 35), .inl (G.2 2, 260, .inl c35)), ((r 36), .inl (G.2 0, 260, .inl c36)), ((r 37), .inl (G.2 0, 260, .inl c37)), ((r 38), .inl (G.2 0, 260, .inl c38)), ((r 39), .inl (G.2 0, 260, .inl c39)), ((r 41), .inl (G.2 0, 840, .inl c41)), ((r 42), .inl (G.2 0, 840, .inl c42)), ((r 45), .inl (G.2 0, 9, .inl c45)), ((r 46), .inl (G.2 0, 400, .inl c46)), ((r 48), .inl (G.2 0, 71, .inl c48)), ((r 49), .inl (G.2 0, 71, .inl c49))] (fun rr u => ∃ (rv : Int32), ∃ (k47 : Int32), ∃ (d45 : Nat → Int32), ∃ (d46 : Nat → Int32), ∃ (d49 : Nat → Int32), rr = some (.int rv) ∧ u = [((r 0), .inr (10, (zz_mo r [(0, j0), (2, j2), (4, j4), (10, j10), (11, j11), (12, j12), (13, j13), (14, j14), (15, j15), (16, j16), (17, j17), (18, (nI lv)), (19, j19), (20, j20), (34, j34), (40, j40), (44, j44), (47, k47), (50, j50), (51, j51), (56, j56), (61, j61)]))), ((r 24), .inl (G.2 0, 14, .inl c24)), ((r 25), .inl (G.2 0, 14, .inl c25)), ((r 28), .inl (G.2 0, 12, .inl c28)), ((r 29), .inl (G.2 0, 12, .inl c29)), ((r 30), .inl (G.2 0, 2, .inl c30)), ((r 32), .inl (G.2 0, 8, .inl c32)), ((r 33), .inl (G.2 0, 8, .inl c33)), ((r 35), .inl (G.2 2, 260, .inl c35)), ((r 36), .inl (G.2 0, 260, .inl c36)), ((r 37), .inl (G.2 0, 260, .inl c37)), ((r 38), .inl (G.2 0, 260, .inl c38)), ((r 39), .inl (G.2 0, 260, .inl c39)), ((r 41), .inl (G.2 0, 840, .inl c41)), ((r 42), .inl (G.2 0, 840, .inl c42)), ((r 45), .inl (G.2 0, 9, .inl d45)), ((r 46), .inl (G.2 0, 400, .inl d46)), ((r 48), .inl (G.2 0, 71, .inl c48)), ((r 49), .inl (G.2 0, 71, .inl d49))] ∧ (∀ Λ, (zr_HD lv c32 c33 c35 c36 c37 c38 c39 c41 c42 (c30 lv)) Λ → rv = zHr (fun i => zr_ro (nI i) (c48 pe)) (fun i => ¬ zr_Sx 99 lv (upd c49 pe (nI i)) c24 c28 c25 c29 (Λ 0) pe pa < c30 lv) 24) ∧ (d49 = upd c49 pe (c48 pe))) := by
  refine zz_enteri (by decide +kernel) (Nat.le_of_ble_eq_true rfl) ?_
  intro p e s m args below meth c A Q ls S hnm hret hw hl
  have hl : lv_has ls 6 [(0, .ref (r 0)), (1, .int (nI pe)), (2, .int (nI pa))] := hl
  have hx := S.1
  have hb := S.2.1
  refine lv_aload_n hx hb dX10_costsOf_0 rfl (lv_at hl 0 rfl) ?_
  refine zz_get (v := .ref (r 48)) S hw fgX10_110 0 rfl rfl dX10_costsOf_1 ?_
  refine lv_iload_n hx hb dX10_costsOf_4 rfl (lv_at hl 1 rfl) ?_
  refine zz_iald (v := (c48 pe)) S hw 17 rfl (vp_in_nI (n := pe) (by omega) (by decide)) (congrArg c48 (nI_clamp (n := pe) (by omega))) dX10_costsOf_5 ?_
  refine lv_istore_n (lv' := [(3, .int (c48 pe)), (0, .ref (r 0)), (1, .int (nI pe)), (2, .int (nI pa))]) hx hb dX10_costsOf_6 rfl hl (by decide) rfl (fun ls hl => ?_)
  refine lv_ldcw (v := 100000) hx hb S.2.2.2.1 (S.2.2.2.2 _ (zz_c7 147 rfl rfl)) dX10_costsOf_7 ?_
  refine lv_istore (lv' := [(4, .int 100000), (3, .int (c48 pe)), (0, .ref (r 0)), (1, .int (nI pe)), (2, .int (nI pa))]) hx hb dX10_costsOf_10 hl (by decide) rfl (fun ls hl => ?_)
  refine lv_iconst (v := 0) hx hb dX10_costsOf_12 (by decide) ?_
  refine lv_istore (lv' := [(5, .int 0), (4, .int 100000), (3, .int (c48 pe)), (0, .ref (r 0)), (1, .int (nI pe)), (2, .int (nI pa))]) hx hb dX10_costsOf_13 hl (by decide) rfl (fun ls hl => ?_)
  have lp15_36 : ∀ (vn2 vi1 : Nat) (vy20 : Int32) (vy21 : Int32) (vF22 : Nat → Int32) (vF23 : Nat → Int32) (vF24 : Nat → Int32) (H : Heap) (locs : List Loc) (ls : Array Slot), vi1 ≤ 24 → 24 < vi1 + vn2 → (∀ x, upd vF24 pe x = upd c49 pe x) → (∀ Λ, (zr_HD lv c32 c33 c35 c36 c37 c38 c39 c41 c42 (c30 lv)) Λ → vy20 = zHr (fun i => zr_ro (nI i) (c48 pe)) (fun i => ¬ zr_Sx 99 lv (upd c49 pe (nI i)) c24 c28 c25 c29 (Λ 0) pe pa < c30 lv) vi1) → zz_w G A s [((r 0), .inr (10, (zz_mo r [(0, j0), (2, j2), (4, j4), (10, j10), (11, j11), (12, j12), (13, j13), (14, j14), (15, j15), (16, j16), (17, j17), (18, (nI lv)), (19, j19), (20, j20), (34, j34), (40, j40), (44, j44), (47, vy21), (50, j50), (51, j51), (56, j56), (61, j61)]))), ((r 24), .inl (G.2 0, 14, .inl c24)), ((r 25), .inl (G.2 0, 14, .inl c25)), ((r 28), .inl (G.2 0, 12, .inl c28)), ((r 29), .inl (G.2 0, 12, .inl c29)), ((r 30), .inl (G.2 0, 2, .inl c30)), ((r 32), .inl (G.2 0, 8, .inl c32)), ((r 33), .inl (G.2 0, 8, .inl c33)), ((r 35), .inl (G.2 2, 260, .inl c35)), ((r 36), .inl (G.2 0, 260, .inl c36)), ((r 37), .inl (G.2 0, 260, .inl c37)), ((r 38), .inl (G.2 0, 260, .inl c38)), ((r 39), .inl (G.2 0, 260, .inl c39)), ((r 41), .inl (G.2 0, 840, .inl c41)), ((r 42), .inl (G.2 0, 840, .inl c42)), ((r 45), .inl (G.2 0, 9, .inl vF22)), ((r 46), .inl (G.2 0, 400, .inl vF23)), ((r 48), .inl (G.2 0, 71, .inl c48)), ((r 49), .inl (G.2 0, 71, .inl vF24))] H locs → lv_has ls 6 [(5, .int (nI vi1)), (4, .int vy20), (3, .int (c48 pe)), (0, .ref (r 0)), (1, .int (nI pe)), (2, .int (nI pa))] → W p l e (zz_rm 4 0 0) s m args below meth c H locs (0) (0) Q (F0 m 15 ls []) := by
    intro vn2
    induction vn2 with
    | zero => intro vi1 vy20 vy21 vF22 vF23 vF24 H locs ls hi1 hi2; exact absurd hi2 (by omega)
    | succ vn2 ih15 =>
      intro vi1 vy20 vy21 vF22 vF23 vF24 H locs ls hi15a hi15b hv15_34 hv15_35 hw hl
      refine lv_iload hx hb dX10_costsOf_15 (lv_at hl 0 rfl) ?_
      refine lv_bipush (v := 24) hx hb dX10_costsOf_17 (by decide) ?_
      refine lv_icmp_ge (tgt := 73) hx hb dX10_costsOf_19 (by decide) (fun c19_37 => ?_) (fun c19_37 => ?_)
      · skip
        have c19_37n : 24 ≤ vi1 := (zz_le (a := 24) (b := vi1) rfl rfl (by omega) (by omega)).mp c19_37
        refine lv_aload_n hx hb dX10_costsOf_73 rfl (lv_at hl 3 rfl) ?_
        refine zz_get (v := .ref (r 49)) S hw fgX10_113 0 rfl rfl dX10_costsOf_74 ?_
        refine lv_iload_n hx hb dX10_costsOf_77 rfl (lv_at hl 4 rfl) ?_
        refine W.eq (g2 := F0 m 78 ls [.int (nI pe), .ref (r 49)]) rfl ?_
        refine lv_iload_n hx hb dX10_costsOf_78 rfl (lv_at hl 2 rfl) ?_
        refine zz_iast (ws' := [((r 0), .inr (10, (zz_mo r [(0, j0), (2, j2), (4, j4), (10, j10), (11, j11), (12, j12), (13, j13), (14, j14), (15, j15), (16, j16), (17, j17), (18, (nI lv)), (19, j19), (20, j20), (34, j34), (40, j40), (44, j44), (47, vy21), (50, j50), (51, j51), (56, j56), (61, j61)]))), ((r 24), .inl (G.2 0, 14, .inl c24)), ((r 25), .inl (G.2 0, 14, .inl c25)), ((r 28), .inl (G.2 0, 12, .inl c28)), ((r 29), .inl (G.2 0, 12, .inl c29)), ((r 30), .inl (G.2 0, 2, .inl c30)), ((r 32), .inl (G.2 0, 8, .inl c32)), ((r 33), .inl (G.2 0, 8, .inl c33)), ((r 35), .inl (G.2 2, 260, .inl c35)), ((r 36), .inl (G.2 0, 260, .inl c36)), ((r 37), .inl (G.2 0, 260, .inl c37)), ((r 38), .inl (G.2 0, 260, .inl c38)), ((r 39), .inl (G.2 0, 260, .inl c39)), ((r 41), .inl (G.2 0, 840, .inl c41)), ((r 42), .inl (G.2 0, 840, .inl c42)), ((r 45), .inl (G.2 0, 9, .inl vF22)), ((r 46), .inl (G.2 0, 400, .inl vF23)), ((r 48), .inl (G.2 0, 71, .inl c48)), ((r 49), .inl (G.2 0, 71, .inl (upd vF24 pe (c48 pe))))]) (g := (upd vF24 pe (c48 pe))) S hw 18 rfl (vp_in_nI (n := pe) (by omega) (by decide)) (zz_upn (n := pe) (by omega)) rfl dX10_costsOf_79 ?_
        clear hw
        intro H locs hw
        refine lv_iload hx hb dX10_costsOf_80 (lv_at hl 1 rfl) ?_
        exact hret _ _ _ _ _ _ ⟨vy20, vy21, vF22, vF23, (upd vF24 pe (c48 pe)), rfl, rfl, (fun Λ h => zHr_e (hv15_35 Λ h) (by omega)), (hv15_34 _)⟩ hw rfl dX10_costsOf_82
      · skip
        have c19_37n : ¬ (24 ≤ vi1) := fun z => c19_37 ((zz_le (a := 24) (b := vi1) rfl rfl (by omega) (by omega)).mpr z)
        refine lv_aload_n hx hb dX10_costsOf_22 rfl (lv_at hl 3 rfl) ?_
        refine zz_get (v := .ref (r 49)) S hw fgX10_113 0 rfl rfl dX10_costsOf_23 ?_
        refine lv_iload_n hx hb dX10_costsOf_26 rfl (lv_at hl 4 rfl) ?_
        refine lv_iload hx hb dX10_costsOf_27 (lv_at hl 0 rfl) ?_
        refine zz_iast (ws' := [((r 0), .inr (10, (zz_mo r [(0, j0), (2, j2), (4, j4), (10, j10), (11, j11), (12, j12), (13, j13), (14, j14), (15, j15), (16, j16), (17, j17), (18, (nI lv)), (19, j19), (20, j20), (34, j34), (40, j40), (44, j44), (47, vy21), (50, j50), (51, j51), (56, j56), (61, j61)]))), ((r 24), .inl (G.2 0, 14, .inl c24)), ((r 25), .inl (G.2 0, 14, .inl c25)), ((r 28), .inl (G.2 0, 12, .inl c28)), ((r 29), .inl (G.2 0, 12, .inl c29)), ((r 30), .inl (G.2 0, 2, .inl c30)), ((r 32), .inl (G.2 0, 8, .inl c32)), ((r 33), .inl (G.2 0, 8, .inl c33)), ((r 35), .inl (G.2 2, 260, .inl c35)), ((r 36), .inl (G.2 0, 260, .inl c36)), ((r 37), .inl (G.2 0, 260, .inl c37)), ((r 38), .inl (G.2 0, 260, .inl c38)), ((r 39), .inl (G.2 0, 260, .inl c39)), ((r 41), .inl (G.2 0, 840, .inl c41)), ((r 42), .inl (G.2 0, 840, .inl c42)), ((r 45), .inl (G.2 0, 9, .inl vF22)), ((r 46), .inl (G.2 0, 400, .inl vF23)), ((r 48), .inl (G.2 0, 71, .inl c48)), ((r 49), .inl (G.2 0, 71, .inl (upd vF24 pe (nI vi1))))]) (g := (upd vF24 pe (nI vi1))) S hw 18 rfl (vp_in_nI (n := pe) (by omega) (by decide)) (zz_upn (n := pe) (by omega)) rfl dX10_costsOf_29 ?_
        clear hw
        intro H locs hw
        refine lv_iload hx hb dX10_costsOf_30 (lv_at hl 0 rfl) ?_
        refine lv_iload_n hx hb dX10_costsOf_32 rfl (lv_at hl 2 rfl) ?_
        refine zz_callS (As := [.int (nI vi1), .int (c48 pe)]) (rest := []) (wr := [((r 0), .inr (10, (zz_mo r [(0, j0), (2, j2), (4, j4), (10, j10), (11, j11), (12, j12), (13, j13), (14, j14), (15, j15), (16, j16), (17, j17), (18, (nI lv)), (19, j19), (20, j20), (34, j34), (40, j40), (44, j44), (47, vy21), (50, j50), (51, j51), (56, j56), (61, j61)]))), ((r 24), .inl (G.2 0, 14, .inl c24)), ((r 25), .inl (G.2 0, 14, .inl c25)), ((r 28), .inl (G.2 0, 12, .inl c28)), ((r 29), .inl (G.2 0, 12, .inl c29)), ((r 30), .inl (G.2 0, 2, .inl c30)), ((r 32), .inl (G.2 0, 8, .inl c32)), ((r 33), .inl (G.2 0, 8, .inl c33)), ((r 35), .inl (G.2 2, 260, .inl c35)), ((r 36), .inl (G.2 0, 260, .inl c36)), ((r 37), .inl (G.2 0, 260, .inl c37)), ((r 38), .inl (G.2 0, 260, .inl c38)), ((r 39), .inl (G.2 0, 260, .inl c39)), ((r 41), .inl (G.2 0, 840, .inl c41)), ((r 42), .inl (G.2 0, 840, .inl c42)), ((r 45), .inl (G.2 0, 9, .inl vF22)), ((r 46), .inl (G.2 0, 400, .inl vF23)), ((r 48), .inl (G.2 0, 71, .inl c48)), ((r 49), .inl (G.2 0, 71, .inl (upd vF24 pe (nI vi1))))]) S hw hl.1 lX10_330 (c_x_roundOff l G (nI vi1) (c48 pe)) ⟨Nat.le_of_ble_eq_true rfl, Nat.le_of_ble_eq_true rfl⟩ ⟨Nat.le_of_ble_eq_true rfl, Nat.le_of_ble_eq_true rfl⟩ [] [0, 1, 2, 3, 4, 5, 6, 7, 8, 9, 10, 11, 12, 13, 14, 15, 16, 17, 18] (by decide +kernel) rfl rfl (by decide +kernel) (by decide +kernel) rfl rfl (Nat.le_of_ble_eq_true rfl) dX10_costsOf_33 ?_
        clear hw
        intro rr u H locs hp hw
        refine hp.elim fun rv_38 zg0 => zg0.elim fun zee1 zg1 => zg1.elim fun zee2 hq33_0 => ?_
        clear hp zg0 zg1
        subst zee1
        subst zee2
        replace hw : zz_w G A s [((r 0), .inr (10, (zz_mo r [(0, j0), (2, j2), (4, j4), (10, j10), (11, j11), (12, j12), (13, j13), (14, j14), (15, j15), (16, j16), (17, j17), (18, (nI lv)), (19, j19), (20, j20), (34, j34), (40, j40), (44, j44), (47, vy21), (50, j50), (51, j51), (56, j56), (61, j61)]))), ((r 24), .inl (G.2 0, 14, .inl c24)), ((r 25), .inl (G.2 0, 14, .inl c25)), ((r 28), .inl (G.2 0, 12, .inl c28)), ((r 29), .inl (G.2 0, 12, .inl c29)), ((r 30), .inl (G.2 0, 2, .inl c30)), ((r 32), .inl (G.2 0, 8, .inl c32)), ((r 33), .inl (G.2 0, 8, .inl c33)), ((r 35), .inl (G.2 2, 260, .inl c35)), ((r 36), .inl (G.2 0, 260, .inl c36)), ((r 37), .inl (G.2 0, 260, .inl c37)), ((r 38), .inl (G.2 0, 260, .inl c38)), ((r 39), .inl (G.2 0, 260, .inl c39)), ((r 41), .inl (G.2 0, 840, .inl c41)), ((r 42), .inl (G.2 0, 840, .inl c42)), ((r 45), .inl (G.2 0, 9, .inl vF22)), ((r 46), .inl (G.2 0, 400, .inl vF23)), ((r 48), .inl (G.2 0, 71, .inl c48)), ((r 49), .inl (G.2 0, 71, .inl (upd vF24 pe (nI vi1))))] H _ := hw
        refine W.eq (g2 := F0 m 36 ls [.int rv_38]) rfl ?_
        refine lv_iload hx hb dX10_costsOf_36 (lv_at hl 1 rfl) ?_
        refine lv_icmp_ge (tgt := 67) hx hb dX10_costsOf_38 (by decide) (fun c38_39 => ?_) (fun c38_39 => ?_)
        · skip
          refine lv_iinc (v := (nI (vi1 + 1))) (lv' := [(5, .int (nI (vi1 + 1))), (4, .int vy20), (3, .int (c48 pe)), (0, .ref (r 0)), (1, .int (nI pe)), (2, .int (nI pa))]) hx hb dX10_costsOf_67 hl (k := 0) rfl (nI_add _ 1) (by decide) rfl (fun ls hl => ?_)
          refine lv_goto (tgt := 15) hx hb dX10_costsOf_70 (by decide) ?_
          refine W.eq (g2 := F0 m 15 ls []) rfl ?_
          exact ih15 (vi1 + 1) vy20 vy21 vF22 vF23 (upd vF24 pe (nI vi1)) _ _ _ (by omega) (by omega) (zT_uu hv15_34) (by first | exact fun Λ h => zHr_y (hv15_35 Λ h) hq33_0 (by first | assumption | exact Int32.not_le.mp (by assumption)) hq62_0 (zH_o ((hq44_0 Λ h.1 (h.2.1 0 (by decide))).trans (by rw [← hv15_34] <;> rfl)) (by first | assumption | exact Int32.not_lt.mpr (by assumption))) | exact fun Λ h => zHr_n (hv15_35 Λ h) hq33_0 (by first | assumption | exact Int32.not_lt.mpr (by assumption)) | exact fun Λ h => zHr_x (hv15_35 Λ h) (zH_p ((hq44_0 Λ h.1 (h.2.1 0 (by decide))).trans (by rw [← hv15_34] <;> rfl)) (by first | assumption | exact Int32.not_le.mp (by assumption)))) hw (lv_sub hl [0, 1, 2, 3, 4, 5] rfl)
        · skip
          refine lv_aload_n hx hb dX10_costsOf_41 rfl (lv_at hl 3 rfl) ?_
          refine lv_iload_n hx hb dX10_costsOf_42 rfl (lv_at hl 4 rfl) ?_
          refine lv_iload_n hx hb dX10_costsOf_43 rfl (lv_at hl 5 rfl) ?_
          refine zz_callV (qb := 0) (As := [.int (nI pe), .int (nI pa)]) (rest := []) (wr := [((r 30), .inl (G.2 0, 2, .inl c30)), ((r 48), .inl (G.2 0, 71, .inl c48))]) S hw hl.1 lX10_348 (c_x_standsOf l G r j0 j2 j4 j10 j11 j12 j13 j14 j15 j16 j17 j19 j20 j34 j40 j44 vy21 j50 j51 j56 j61 lv c24 c25 c28 c29 c32 c33 c35 c36 c37 c38 c39 c41 c42 vF22 vF23 (upd vF24 pe (nI vi1)) pe pa (by first | assumption | omega | exact Or.inr ⟨_, by omega, rfl⟩ | (unfold zz_sok; decide) | decide | exact (fun j hj => (hv7 j hj).1)) (by first | assumption | omega | exact Or.inr ⟨_, by omega, rfl⟩ | (unfold zz_sok; decide) | decide | exact (fun j hj => (hv7 j hj).1)) (by first | assumption | omega | exact Or.inr ⟨_, by omega, rfl⟩ | (unfold zz_sok; decide) | decide | exact (fun j hj => (hv7 j hj).1)) (by first | assumption | omega | exact Or.inr ⟨_, by omega, rfl⟩ | (unfold zz_sok; decide) | decide | exact (fun j hj => (hv7 j hj).1))) ⟨Nat.le_of_ble_eq_true rfl, Nat.le_of_ble_eq_true rfl⟩ ⟨Nat.le_of_ble_eq_true rfl, Nat.le_of_ble_eq_true rfl⟩ [0, 1, 2, 3, 4, 6, 7, 8, 9, 10, 11, 12, 13, 14, 15, 16, 18] [5, 17] (by decide +kernel) rfl rfl (by decide +kernel) (by decide +kernel) rfl rfl rfl rfl (Nat.le_of_ble_eq_true rfl) dX10_costsOf_44 ?_
          clear hw
          intro rr u H locs hp hw
          refine hp.elim fun rv_40 zg0 => zg0.elim fun k47_41 zg1 => zg1.elim fun d45_42 zg2 => zg2.elim fun d46_43 zg3 => zg3.elim fun zee1 zg4 => zg4.elim fun zee2 hq44_0 => ?_
          clear hp zg0 zg1 zg2 zg3 zg4
          subst zee1
          subst zee2
          replace hw : zz_w G A s [((r 30), .inl (G.2 0, 2, .inl c30)), ((r 48), .inl (G.2 0, 71, .inl c48)), ((r 0), .inr (10, (zz_mo r [(0, j0), (2, j2), (4, j4), (10, j10), (11, j11), (12, j12), (13, j13), (14, j14), (15, j15), (16, j16), (17, j17), (18, (nI lv)), (19, j19), (20, j20), (34, j34), (40, j40), (44, j44), (47, k47_41), (50, j50), (51, j51), (56, j56), (61, j61)]))), ((r 24), .inl (G.2 0, 14, .inl c24)), ((r 25), .inl (G.2 0, 14, .inl c25)), ((r 28), .inl (G.2 0, 12, .inl c28)), ((r 29), .inl (G.2 0, 12, .inl c29)), ((r 32), .inl (G.2 0, 8, .inl c32)), ((r 33), .inl (G.2 0, 8, .inl c33)), ((r 35), .inl (G.2 2, 260, .inl c35)), ((r 36), .inl (G.2 0, 260, .inl c36)), ((r 37), .inl (G.2 0, 260, .inl c37)), ((r 38), .inl (G.2 0, 260, .inl c38)), ((r 39), .inl (G.2 0, 260, .inl c39)), ((r 41), .inl (G.2 0, 840, .inl c41)), ((r 42), .inl (G.2 0, 840, .inl c42)), ((r 45), .inl (G.2 0, 9, .inl d45_42)), ((r 46), .inl (G.2 0, 400, .inl d46_43)), ((r 49), .inl (G.2 0, 71, .inl (upd vF24 pe (nI vi1))))] H _ := hw
          refine W.eq (g2 := F0 m 47 ls [.int rv_40]) rfl ?_
          refine lv_aload_n hx hb dX10_costsOf_47 rfl (lv_at hl 3 rfl) ?_
          refine zz_get (v := .ref (r 30)) S hw fgX10_67 2 rfl rfl dX10_costsOf_48 ?_
          refine lv_aload_n hx hb dX10_costsOf_51 rfl (lv_at hl 3 rfl) ?_
          refine zz_get (v := .int (nI lv)) S hw fgX10_236 2 rfl rfl dX10_costsOf_52 ?_
          refine zz_iald (v := (c30 lv)) S hw 0 rfl (vp_in_nI (n := lv) (by omega) (by decide)) (congrArg c30 (nI_clamp (n := lv) (by omega))) dX10_costsOf_55 ?_
          refine lv_icmp_lt (tgt := 67) hx hb dX10_costsOf_56 (by decide) (fun c56_44 => ?_) (fun c56_44 => ?_)
          · skip
            refine lv_iinc (v := (nI (vi1 + 1))) (lv' := [(5, .int (nI (vi1 + 1))), (4, .int vy20), (3, .int (c48 pe)), (0, .ref (r 0)), (1, .int (nI pe)), (2, .int (nI pa))]) hx hb dX10_costsOf_67 hl (k := 0) rfl (nI_add _ 1) (by decide) rfl (fun ls hl => ?_)
            refine lv_goto (tgt := 15) hx hb dX10_costsOf_70 (by decide) ?_
            exact ih15 (vi1 + 1) vy20 k47_41 d45_42 d46_43 (upd vF24 pe (nI vi1)) _ _ _ (by omega) (by omega) (zT_uu hv15_34) (by first | exact fun Λ h => zHr_y (hv15_35 Λ h) hq33_0 (by first | assumption | exact Int32.not_le.mp (by assumption)) hq62_0 (zH_o ((hq44_0 Λ h.1 (h.2.1 0 (by decide))).trans (by rw [← hv15_34] <;> rfl)) (by first | assumption | exact Int32.not_lt.mpr (by assumption))) | exact fun Λ h => zHr_n (hv15_35 Λ h) hq33_0 (by first | assumption | exact Int32.not_lt.mpr (by assumption)) | exact fun Λ h => zHr_x (hv15_35 Λ h) (zH_p ((hq44_0 Λ h.1 (h.2.1 0 (by decide))).trans (by rw [← hv15_34] <;> rfl)) (by first | assumption | exact Int32.not_le.mp (by assumption)))) (hw.sub [2, 3, 4, 5, 6, 0, 7, 8, 9, 10, 11, 12, 13, 14, 15, 16, 17, 1, 18] (by decide +kernel) rfl) (lv_sub hl [0, 1, 2, 3, 4, 5] rfl)
          · skip
            refine lv_iload hx hb dX10_costsOf_59 (lv_at hl 0 rfl) ?_
            refine lv_iload_n hx hb dX10_costsOf_61 rfl (lv_at hl 2 rfl) ?_
            refine zz_callS (As := [.int (nI vi1), .int (c48 pe)]) (rest := []) (wr := [((r 30), .inl (G.2 0, 2, .inl c30)), ((r 48), .inl (G.2 0, 71, .inl c48)), ((r 0), .inr (10, (zz_mo r [(0, j0), (2, j2), (4, j4), (10, j10), (11, j11), (12, j12), (13, j13), (14, j14), (15, j15), (16, j16), (17, j17), (18, (nI lv)), (19, j19), (20, j20), (34, j34), (40, j40), (44, j44), (47, k47_41), (50, j50), (51, j51), (56, j56), (61, j61)]))), ((r 24), .inl (G.2 0, 14, .inl c24)), ((r 25), .inl (G.2 0, 14, .inl c25)), ((r 28), .inl (G.2 0, 12, .inl c28)), ((r 29), .inl (G.2 0, 12, .inl c29)), ((r 32), .inl (G.2 0, 8, .inl c32)), ((r 33), .inl (G.2 0, 8, .inl c33)), ((r 35), .inl (G.2 2, 260, .inl c35)), ((r 36), .inl (G.2 0, 260, .inl c36)), ((r 37), .inl (G.2 0, 260, .inl c37)), ((r 38), .inl (G.2 0, 260, .inl c38)), ((r 39), .inl (G.2 0, 260, .inl c39)), ((r 41), .inl (G.2 0, 840, .inl c41)), ((r 42), .inl (G.2 0, 840, .inl c42)), ((r 45), .inl (G.2 0, 9, .inl d45_42)), ((r 46), .inl (G.2 0, 400, .inl d46_43)), ((r 49), .inl (G.2 0, 71, .inl (upd vF24 pe (nI vi1))))]) S hw hl.1 lX10_330 (c_x_roundOff l G (nI vi1) (c48 pe)) ⟨Nat.le_of_ble_eq_true rfl, Nat.le_of_ble_eq_true rfl⟩ ⟨Nat.le_of_ble_eq_true rfl, Nat.le_of_ble_eq_true rfl⟩ [] [0, 1, 2, 3, 4, 5, 6, 7, 8, 9, 10, 11, 12, 13, 14, 15, 16, 17, 18] (by decide +kernel) rfl rfl (by decide +kernel) (by decide +kernel) rfl rfl (Nat.le_of_ble_eq_true rfl) dX10_costsOf_62 ?_
            clear hw
            intro rr u H locs hp hw
            refine hp.elim fun rv_45 zg0 => zg0.elim fun zee1 zg1 => zg1.elim fun zee2 hq62_0 => ?_
            clear hp zg0 zg1
            subst zee1
            subst zee2
            replace hw : zz_w G A s [((r 30), .inl (G.2 0, 2, .inl c30)), ((r 48), .inl (G.2 0, 71, .inl c48)), ((r 0), .inr (10, (zz_mo r [(0, j0), (2, j2), (4, j4), (10, j10), (11, j11), (12, j12), (13, j13), (14, j14), (15, j15), (16, j16), (17, j17), (18, (nI lv)), (19, j19), (20, j20), (34, j34), (40, j40), (44, j44), (47, k47_41), (50, j50), (51, j51), (56, j56), (61, j61)]))), ((r 24), .inl (G.2 0, 14, .inl c24)), ((r 25), .inl (G.2 0, 14, .inl c25)), ((r 28), .inl (G.2 0, 12, .inl c28)), ((r 29), .inl (G.2 0, 12, .inl c29)), ((r 32), .inl (G.2 0, 8, .inl c32)), ((r 33), .inl (G.2 0, 8, .inl c33)), ((r 35), .inl (G.2 2, 260, .inl c35)), ((r 36), .inl (G.2 0, 260, .inl c36)), ((r 37), .inl (G.2 0, 260, .inl c37)), ((r 38), .inl (G.2 0, 260, .inl c38)), ((r 39), .inl (G.2 0, 260, .inl c39)), ((r 41), .inl (G.2 0, 840, .inl c41)), ((r 42), .inl (G.2 0, 840, .inl c42)), ((r 45), .inl (G.2 0, 9, .inl d45_42)), ((r 46), .inl (G.2 0, 400, .inl d46_43)), ((r 49), .inl (G.2 0, 71, .inl (upd vF24 pe (nI vi1))))] H _ := hw
            refine W.eq (g2 := F0 m 65 ls [.int rv_45]) rfl ?_
            refine W.eq (g2 := F0 m 65 ls [.int rv_45]) rfl ?_
            refine lv_istore (lv' := [(4, .int rv_45), (5, .int (nI vi1)), (3, .int (c48 pe)), (0, .ref (r 0)), (1, .int (nI pe)), (2, .int (nI pa))]) hx hb dX10_costsOf_65 hl (by decide) rfl (fun ls hl => ?_)
            refine lv_iinc (v := (nI (vi1 + 1))) (lv' := [(5, .int (nI (vi1 + 1))), (4, .int rv_45), (3, .int (c48 pe)), (0, .ref (r 0)), (1, .int (nI pe)), (2, .int (nI pa))]) hx hb dX10_costsOf_67 hl (k := 1) rfl (nI_add _ 1) (by decide) rfl (fun ls hl => ?_)
            refine lv_goto (tgt := 15) hx hb dX10_costsOf_70 (by decide) ?_
            exact ih15 (vi1 + 1) rv_45 k47_41 d45_42 d46_43 (upd vF24 pe (nI vi1)) _ _ _ (by omega) (by omega) (zT_uu hv15_34) (by first | exact fun Λ h => zHr_y (hv15_35 Λ h) hq33_0 (by first | assumption | exact Int32.not_le.mp (by assumption)) hq62_0 (zH_o ((hq44_0 Λ h.1 (h.2.1 0 (by decide))).trans (by rw [← hv15_34] <;> rfl)) (by first | assumption | exact Int32.not_lt.mpr (by assumption))) | exact fun Λ h => zHr_n (hv15_35 Λ h) hq33_0 (by first | assumption | exact Int32.not_lt.mpr (by assumption)) | exact fun Λ h => zHr_x (hv15_35 Λ h) (zH_p ((hq44_0 Λ h.1 (h.2.1 0 (by decide))).trans (by rw [← hv15_34] <;> rfl)) (by first | assumption | exact Int32.not_le.mp (by assumption)))) (hw.sub [2, 3, 4, 5, 6, 0, 7, 8, 9, 10, 11, 12, 13, 14, 15, 16, 17, 1, 18] (by decide +kernel) rfl) (lv_sub hl [0, 1, 2, 3, 4, 5] rfl)
  exact lp15_36 (24 + 1 - 0) 0 100000 j47 c45 c46 c49 _ _ _ (by omega) (by omega) (fun _ => rfl) (fun _ _ => rfl) hw (lv_sub hl [0, 1, 2, 3, 4, 5] rfl)
theorem kd_ncX10_costs : kd_ck 24093122095589521831192487171021078342114125682174561131250806458928297596648678427561268828661140036394 43 cX10_costs.data.toList 0 = true := by decide +kernel
theorem dX10_costs_0 : decode cX10_costs 0 = .ok (.aload_n 0, 1) := kd_dk0 kd_o42 kd_ncX10_costs rfl
theorem dX10_costs_1 : decode cX10_costs 1 = .ok (.iload_n 1, 1) := kd_dk0 kd_o27 kd_ncX10_costs rfl
theorem dX10_costs_2 : decode cX10_costs 2 = .ok (.invokevirtual 373, 3) := kd_dk2 kd_o182 kd_ncX10_costs rfl
theorem dX10_costs_5 : decode cX10_costs 5 = .ok (.ifCond .eq 11, 3) := kd_dj2 kd_o153 (w := 11) kd_ncX10_costs rfl rfl
theorem dX10_costs_8 : decode cX10_costs 8 = .ok (.aload_n 0, 1) := kd_dk0 kd_o42 kd_ncX10_costs rfl
theorem dX10_costs_9 : decode cX10_costs 9 = .ok (.iload_n 2, 1) := kd_dk0 kd_o28 kd_ncX10_costs rfl
theorem dX10_costs_10 : decode cX10_costs 10 = .ok (.invokevirtual 382, 3) := kd_dk2 kd_o182 kd_ncX10_costs rfl
theorem dX10_costs_13 : decode cX10_costs 13 = .ok (.ifCond .ne 5, 3) := kd_dj2 kd_o154 (w := 5) kd_ncX10_costs rfl rfl
theorem dX10_costs_16 : decode cX10_costs 16 = .ok (.iconst (-1), 1) := kd_dk0 kd_o2 kd_ncX10_costs rfl
theorem dX10_costs_17 : decode cX10_costs 17 = .ok (.ireturn, 1) := kd_dk0 kd_o172 kd_ncX10_costs rfl
theorem dX10_costs_18 : decode cX10_costs 18 = .ok (.aload_n 0, 1) := kd_dk0 kd_o42 kd_ncX10_costs rfl
theorem dX10_costs_19 : decode cX10_costs 19 = .ok (.invokevirtual 323, 3) := kd_dk2 kd_o182 kd_ncX10_costs rfl
theorem dX10_costs_22 : decode cX10_costs 22 = .ok (.aload_n 0, 1) := kd_dk0 kd_o42 kd_ncX10_costs rfl
theorem dX10_costs_23 : decode cX10_costs 23 = .ok (.iload_n 1, 1) := kd_dk0 kd_o27 kd_ncX10_costs rfl
theorem dX10_costs_24 : decode cX10_costs 24 = .ok (.iload_n 2, 1) := kd_dk0 kd_o28 kd_ncX10_costs rfl
theorem dX10_costs_25 : decode cX10_costs 25 = .ok (.invokevirtual 422, 3) := kd_dk2 kd_o182 kd_ncX10_costs rfl
theorem dX10_costs_28 : decode cX10_costs 28 = .ok (.istore_n 3, 1) := kd_dk0 kd_o62 kd_ncX10_costs rfl
theorem dX10_costs_29 : decode cX10_costs 29 = .ok (.iload_n 3, 1) := kd_dk0 kd_o29 kd_ncX10_costs rfl
theorem dX10_costs_30 : decode cX10_costs 30 = .ok (.ldc_w 421, 3) := kd_dk2 kd_o19 kd_ncX10_costs rfl
theorem dX10_costs_33 : decode cX10_costs 33 = .ok (.if_icmp .ne 8, 3) := kd_dj2 kd_o160 (w := 8) kd_ncX10_costs rfl rfl
theorem dX10_costs_36 : decode cX10_costs 36 = .ok (.bipush (-2), 2) := kd_dj1 kd_o16 (w := 254) kd_ncX10_costs rfl rfl
theorem dX10_costs_38 : decode cX10_costs 38 = .ok (.goto 4, 3) := kd_dj2 kd_o167 (w := 4) kd_ncX10_costs rfl rfl
theorem dX10_costs_41 : decode cX10_costs 41 = .ok (.iload_n 3, 1) := kd_dk0 kd_o29 kd_ncX10_costs rfl
theorem dX10_costs_42 : decode cX10_costs 42 = .ok (.ireturn, 1) := kd_dk0 kd_o172 kd_ncX10_costs rfl
set_option maxHeartbeats 8000000 in
set_option maxRecDepth 100000 in
theorem c_x_costs (l : Launch) (G : zz_G) (r : Nat → Nat) (j0 : Int32) (j2 : Int32) (j4 : Int32) (j10 : Int32) (j11 : Int32) (j12 : Int32) (j13 : Int32) (j14 : Int32) (j15 : Int32) (j16 : Int32) (j17 : Int32) (j19 : Int32) (j20 : Int32) (j34 : Int32) (j40 : Int32) (j44 : Int32) (j47 : Int32) (j50 : Int32) (j51 : Int32) (j56 : Int32) (j61 : Int32) (lv : Nat) (pp : Nat) (pq : Nat) (c22 : Nat → Int32) (c24 : Nat → Int32) (c25 : Nat → Int32) (c26 : Nat → Int32) (c28 : Nat → Int32) (c29 : Nat → Int32) (c30 : Nat → Int32) (c31 : Nat → Int32) (c32 : Nat → Int32) (c33 : Nat → Int32) (c35 : Nat → Int32) (c36 : Nat → Int32) (c37 : Nat → Int32) (c38 : Nat → Int32) (c39 : Nat → Int32) (c41 : Nat → Int32) (c42 : Nat → Int32) (c45 : Nat → Int32) (c46 : Nat → Int32) (c48 : Nat → Int32) (c49 : Nat → Int32) (ar1 : Int32) (ar2 : Int32) (hlv : lv ≤ 1) (hpe : c22 lv = nI pp) (hpp : pp ≤ 7) (hpa : c26 lv = nI pq) (hpq : pq ≤ 6) (hlw : zz_LW 2 0 0 c32 c33 c35 c36 c37 c38 c39 c41 c42) : zz_M l G mX10_costs 5 0 0 [.ref (r 0), .int ar1, .int ar2] [((r 0), .inr (10, (zz_mo r [(0, j0), (2, j2), (4, j4), (10, j10), (11, j11), (12, j12), (13, j13), (14, j14), (15, j15), (16, j16), (17, j17), (18, (nI lv)), (19, j19), (20, j20), (34, j34), (40, j40), (44, j44), (47, j47), (50, j50), (51, j51), (56, j56), (61, j61)]))), ((r 22), .inl (G.2 0, 2, .inl c22)), ((r 24), .inl (G.2 0, 14, .inl c24)), ((r 25), .inl (G.2 0, 14, .inl c25)), ((r 26), .inl (G.2 0, 2, .inl c26)), ((r 28), .inl (G.2 0, 12, .inl c28)), ((r 29), .inl (G.2 0, 12, .inl c29)), ((r 30), .inl (G.2 0, 2, .inl c30)), ((r 31), .inl (G.2 0, 2, .inl c31)), ((r 32), .inl (G.2 0, 8, .inl c32)), ((r 33), .inl (G.2 0, 8, .inl c33)), ((r 35), .inl (G.2 2, 260, .inl c35)), ((r 36), .inl (G.2 0, 260, .inl c36)), ((r 37), .inl (G.2 0, 260, .inl c37)), ((r 38), .inl (G.2 0, 260, .inl c38)), ((r 39), .inl (G.2 0, 260, .inl c39)), ((r 41), .inl (G.2 0, 840, .inl c41)), ((r 42), .inl (G.2 0, 840, .inl c42)), ((r 45), .inl (G.2 0, 9, .inl c45)), ((r 46), .inl (G.2 0, 400, .inl c46)), ((r 48), .inl (G.2 0, 71, .inl c48)), ((r 49), .inl (G.2 0, 71, .inl c49))] (fun rr u => ∃ (rv : Int32), ∃ (k47 : Int32), ∃ (k50 : Int32), ∃ (k51 : Int32), ∃ (d45 : Nat → Int32), ∃ (d46 : Nat → Int32), ∃ (d49 : Nat → Int32), rr = some (.int rv) ∧ u = [((r 0), .inr (10, (zz_mo r [(0, j0), (2, j2), (4, j4), (10, j10), (11, j11), (12, j12), (13, j13), (14, j14), (15, j15), (16, j16), (17, j17), (18, (nI lv)), (19, j19), (20, j20), (34, j34), (40, j40), (44, j44), (47, k47), (50, k50), (51, k51), (56, j56), (61, j61)]))), ((r 22), .inl (G.2 0, 2, .inl c22)), ((r 24), .inl (G.2 0, 14, .inl c24)), ((r 25), .inl (G.2 0, 14, .inl c25)), ((r 26), .inl (G.2 0, 2, .inl c26)), ((r 28), .inl (G.2 0, 12, .inl c28)), ((r 29), .inl (G.2 0, 12, .inl c29)), ((r 30), .inl (G.2 0, 2, .inl c30)), ((r 31), .inl (G.2 0, 2, .inl c31)), ((r 32), .inl (G.2 0, 8, .inl c32)), ((r 33), .inl (G.2 0, 8, .inl c33)), ((r 35), .inl (G.2 2, 260, .inl c35)), ((r 36), .inl (G.2 0, 260, .inl c36)), ((r 37), .inl (G.2 0, 260, .inl c37)), ((r 38), .inl (G.2 0, 260, .inl c38)), ((r 39), .inl (G.2 0, 260, .inl c39)), ((r 41), .inl (G.2 0, 840, .inl c41)), ((r 42), .inl (G.2 0, 840, .inl c42)), ((r 45), .inl (G.2 0, 9, .inl d45)), ((r 46), .inl (G.2 0, 400, .inl d46)), ((r 48), .inl (G.2 0, 71, .inl c48)), ((r 49), .inl (G.2 0, 71, .inl d49))]) := by
  refine zz_enteri (by decide +kernel) (Nat.le_of_ble_eq_true rfl) ?_
  intro p e s m args below meth c A Q ls S hnm hret hw hl
  have hl : lv_has ls 4 [(0, .ref (r 0)), (1, .int ar1), (2, .int ar2)] := hl
  have hx := S.1
  have hb := S.2.1
  refine lv_aload_n hx hb dX10_costs_0 rfl (lv_at hl 0 rfl) ?_
  refine lv_iload_n hx hb dX10_costs_1 rfl (lv_at hl 1 rfl) ?_
  refine zz_callV (qb := 0) (As := [.int ar1]) (rest := []) (wr := [((r 24), .inl (G.2 0, 14, .inl c24)), ((r 25), .inl (G.2 0, 14, .inl c25)), ((r 26), .inl (G.2 0, 2, .inl c26)), ((r 28), .inl (G.2 0, 12, .inl c28)), ((r 29), .inl (G.2 0, 12, .inl c29)), ((r 30), .inl (G.2 0, 2, .inl c30)), ((r 31), .inl (G.2 0, 2, .inl c31)), ((r 32), .inl (G.2 0, 8, .inl c32)), ((r 33), .inl (G.2 0, 8, .inl c33)), ((r 35), .inl (G.2 2, 260, .inl c35)), ((r 36), .inl (G.2 0, 260, .inl c36)), ((r 37), .inl (G.2 0, 260, .inl c37)), ((r 38), .inl (G.2 0, 260, .inl c38)), ((r 39), .inl (G.2 0, 260, .inl c39)), ((r 41), .inl (G.2 0, 840, .inl c41)), ((r 42), .inl (G.2 0, 840, .inl c42)), ((r 45), .inl (G.2 0, 9, .inl c45)), ((r 46), .inl (G.2 0, 400, .inl c46)), ((r 48), .inl (G.2 0, 71, .inl c48)), ((r 49), .inl (G.2 0, 71, .inl c49))]) S hw hl.1 lX10_373 (c_x_isPerson l G r j0 j2 j4 j10 j11 j12 j13 j14 j15 j16 j17 j19 j20 j34 j40 j44 j47 j50 j51 j56 j61 lv pp c22 ar1 (by first | assumption | omega | exact Or.inr ⟨_, by omega, rfl⟩ | (unfold zz_sok; decide) | decide | exact (fun j hj => (hv7 j hj).1)) (by first | assumption | omega | exact Or.inr ⟨_, by omega, rfl⟩ | (unfold zz_sok; decide) | decide | exact (fun j hj => (hv7 j hj).1)) (by first | assumption | omega | exact Or.inr ⟨_, by omega, rfl⟩ | (unfold zz_sok; decide) | decide | exact (fun j hj => (hv7 j hj).1))) ⟨Nat.le_of_ble_eq_true rfl, Nat.le_of_ble_eq_true rfl⟩ ⟨Nat.le_of_ble_eq_true rfl, Nat.le_of_ble_eq_true rfl⟩ [0, 1] [2, 3, 4, 5, 6, 7, 8, 9, 10, 11, 12, 13, 14, 15, 16, 17, 18, 19, 20, 21] (by decide +kernel) rfl rfl (by decide +kernel) (by decide +kernel) rfl rfl rfl rfl (Nat.le_of_ble_eq_true rfl) dX10_costs_2 ?_
  clear hw
  intro rr u H locs hp hw
  refine hp.elim fun rv_1 zg0 => zg0.elim fun zee1 zg1 => zg1.elim fun zee2 zg2 => zg2.elim fun hq2_0 zg3 => zg3.elim fun hq2_1 hq2_2 => ?_
  clear hp zg0 zg1 zg2 zg3
  subst zee1
  subst zee2
  replace hw : zz_w G A s [((r 24), .inl (G.2 0, 14, .inl c24)), ((r 25), .inl (G.2 0, 14, .inl c25)), ((r 26), .inl (G.2 0, 2, .inl c26)), ((r 28), .inl (G.2 0, 12, .inl c28)), ((r 29), .inl (G.2 0, 12, .inl c29)), ((r 30), .inl (G.2 0, 2, .inl c30)), ((r 31), .inl (G.2 0, 2, .inl c31)), ((r 32), .inl (G.2 0, 8, .inl c32)), ((r 33), .inl (G.2 0, 8, .inl c33)), ((r 35), .inl (G.2 2, 260, .inl c35)), ((r 36), .inl (G.2 0, 260, .inl c36)), ((r 37), .inl (G.2 0, 260, .inl c37)), ((r 38), .inl (G.2 0, 260, .inl c38)), ((r 39), .inl (G.2 0, 260, .inl c39)), ((r 41), .inl (G.2 0, 840, .inl c41)), ((r 42), .inl (G.2 0, 840, .inl c42)), ((r 45), .inl (G.2 0, 9, .inl c45)), ((r 46), .inl (G.2 0, 400, .inl c46)), ((r 48), .inl (G.2 0, 71, .inl c48)), ((r 49), .inl (G.2 0, 71, .inl c49)), ((r 0), .inr (10, (zz_mo r [(0, j0), (2, j2), (4, j4), (10, j10), (11, j11), (12, j12), (13, j13), (14, j14), (15, j15), (16, j16), (17, j17), (18, (nI lv)), (19, j19), (20, j20), (34, j34), (40, j40), (44, j44), (47, j47), (50, j50), (51, j51), (56, j56), (61, j61)]))), ((r 22), .inl (G.2 0, 2, .inl c22))] H _ := hw
  refine W.eq (g2 := F0 m 5 ls [.int rv_1]) rfl ?_
  refine lv_if_eq (tgt := 16) hx hb dX10_costs_5 (by decide) (fun c5_2 => ?_) (fun c5_2 => ?_)
  · skip
    refine lv_iconst (v := (-1)) hx hb dX10_costs_16 (by decide) ?_
    exact hret _ _ _ _ _ _ ⟨(-1), j47, j50, j51, c45, c46, c49, rfl, rfl⟩ (hw.sub [20, 21, 0, 1, 2, 3, 4, 5, 6, 7, 8, 9, 10, 11, 12, 13, 14, 15, 16, 17, 18, 19] (by decide +kernel) rfl) rfl dX10_costs_17
  · skip
    obtain ⟨vq3, hvq3, rfl⟩ := hq2_0.resolve_left c5_2
    refine lv_aload_n hx hb dX10_costs_8 rfl (lv_at hl 0 rfl) ?_
    refine lv_iload_n hx hb dX10_costs_9 rfl (lv_at hl 2 rfl) ?_
    refine zz_callV (qb := 20) (As := [.int ar2]) (rest := []) (wr := [((r 24), .inl (G.2 0, 14, .inl c24)), ((r 25), .inl (G.2 0, 14, .inl c25)), ((r 28), .inl (G.2 0, 12, .inl c28)), ((r 29), .inl (G.2 0, 12, .inl c29)), ((r 30), .inl (G.2 0, 2, .inl c30)), ((r 31), .inl (G.2 0, 2, .inl c31)), ((r 32), .inl (G.2 0, 8, .inl c32)), ((r 33), .inl (G.2 0, 8, .inl c33)), ((r 35), .inl (G.2 2, 260, .inl c35)), ((r 36), .inl (G.2 0, 260, .inl c36)), ((r 37), .inl (G.2 0, 260, .inl c37)), ((r 38), .inl (G.2 0, 260, .inl c38)), ((r 39), .inl (G.2 0, 260, .inl c39)), ((r 41), .inl (G.2 0, 840, .inl c41)), ((r 42), .inl (G.2 0, 840, .inl c42)), ((r 45), .inl (G.2 0, 9, .inl c45)), ((r 46), .inl (G.2 0, 400, .inl c46)), ((r 48), .inl (G.2 0, 71, .inl c48)), ((r 49), .inl (G.2 0, 71, .inl c49)), ((r 22), .inl (G.2 0, 2, .inl c22))]) S hw hl.1 lX10_382 (c_x_isPart l G r j0 j2 j4 j10 j11 j12 j13 j14 j15 j16 j17 j19 j20 j34 j40 j44 j47 j50 j51 j56 j61 lv pq c26 ar2 (by first | assumption | omega | exact Or.inr ⟨_, by omega, rfl⟩ | (unfold zz_sok; decide) | decide | exact (fun j hj => (hv7 j hj).1)) (by first | assumption | omega | exact Or.inr ⟨_, by omega, rfl⟩ | (unfold zz_sok; decide) | decide | exact (fun j hj => (hv7 j hj).1)) (by first | assumption | omega | exact Or.inr ⟨_, by omega, rfl⟩ | (unfold zz_sok; decide) | decide | exact (fun j hj => (hv7 j hj).1))) ⟨Nat.le_of_ble_eq_true rfl, Nat.le_of_ble_eq_true rfl⟩ ⟨Nat.le_of_ble_eq_true rfl, Nat.le_of_ble_eq_true rfl⟩ [20, 2] [0, 1, 3, 4, 5, 6, 7, 8, 9, 10, 11, 12, 13, 14, 15, 16, 17, 18, 19, 21] (by decide +kernel) rfl rfl (by decide +kernel) (by decide +kernel) rfl rfl rfl rfl (Nat.le_of_ble_eq_true rfl) dX10_costs_10 ?_
    clear hw
    intro rr u H locs hp hw
    refine hp.elim fun rv_4 zg0 => zg0.elim fun zee1 zg1 => zg1.elim fun zee2 zg2 => zg2.elim fun hq10_0 zg3 => zg3.elim fun hq10_1 hq10_2 => ?_
    clear hp zg0 zg1 zg2 zg3
    subst zee1
    subst zee2
    replace hw : zz_w G A s [((r 24), .inl (G.2 0, 14, .inl c24)), ((r 25), .inl (G.2 0, 14, .inl c25)), ((r 28), .inl (G.2 0, 12, .inl c28)), ((r 29), .inl (G.2 0, 12, .inl c29)), ((r 30), .inl (G.2 0, 2, .inl c30)), ((r 31), .inl (G.2 0, 2, .inl c31)), ((r 32), .inl (G.2 0, 8, .inl c32)), ((r 33), .inl (G.2 0, 8, .inl c33)), ((r 35), .inl (G.2 2, 260, .inl c35)), ((r 36), .inl (G.2 0, 260, .inl c36)), ((r 37), .inl (G.2 0, 260, .inl c37)), ((r 38), .inl (G.2 0, 260, .inl c38)), ((r 39), .inl (G.2 0, 260, .inl c39)), ((r 41), .inl (G.2 0, 840, .inl c41)), ((r 42), .inl (G.2 0, 840, .inl c42)), ((r 45), .inl (G.2 0, 9, .inl c45)), ((r 46), .inl (G.2 0, 400, .inl c46)), ((r 48), .inl (G.2 0, 71, .inl c48)), ((r 49), .inl (G.2 0, 71, .inl c49)), ((r 22), .inl (G.2 0, 2, .inl c22)), ((r 0), .inr (10, (zz_mo r [(0, j0), (2, j2), (4, j4), (10, j10), (11, j11), (12, j12), (13, j13), (14, j14), (15, j15), (16, j16), (17, j17), (18, (nI lv)), (19, j19), (20, j20), (34, j34), (40, j40), (44, j44), (47, j47), (50, j50), (51, j51), (56, j56), (61, j61)]))), ((r 26), .inl (G.2 0, 2, .inl c26))] H _ := hw
    refine W.eq (g2 := F0 m 13 ls [.int rv_4]) rfl ?_
    refine lv_if_ne (tgt := 18) hx hb dX10_costs_13 (by decide) (fun c13_5 => ?_) (fun c13_5 => ?_)
    · skip
      obtain ⟨vq6, hvq6, rfl⟩ := hq10_0.resolve_left c13_5
      refine lv_aload_n hx hb dX10_costs_18 rfl (lv_at hl 0 rfl) ?_
      refine zz_callV (qb := 20) (As := []) (rest := []) (wr := [((r 24), .inl (G.2 0, 14, .inl c24)), ((r 25), .inl (G.2 0, 14, .inl c25)), ((r 28), .inl (G.2 0, 12, .inl c28)), ((r 29), .inl (G.2 0, 12, .inl c29)), ((r 30), .inl (G.2 0, 2, .inl c30)), ((r 32), .inl (G.2 0, 8, .inl c32)), ((r 33), .inl (G.2 0, 8, .inl c33)), ((r 35), .inl (G.2 2, 260, .inl c35)), ((r 36), .inl (G.2 0, 260, .inl c36)), ((r 37), .inl (G.2 0, 260, .inl c37)), ((r 38), .inl (G.2 0, 260, .inl c38)), ((r 39), .inl (G.2 0, 260, .inl c39)), ((r 41), .inl (G.2 0, 840, .inl c41)), ((r 42), .inl (G.2 0, 840, .inl c42)), ((r 45), .inl (G.2 0, 9, .inl c45)), ((r 46), .inl (G.2 0, 400, .inl c46)), ((r 22), .inl (G.2 0, 2, .inl c22)), ((r 26), .inl (G.2 0, 2, .inl c26))]) S hw hl.1 lX10_323 (c_x_copies l G r j0 j2 j4 j10 j11 j12 j13 j14 j15 j16 j17 j19 j20 j34 j40 j44 j47 j50 j51 j56 j61 lv c31 c48 c49 (by first | assumption | omega | exact Or.inr ⟨_, by omega, rfl⟩ | (unfold zz_sok; decide) | decide | exact (fun j hj => (hv7 j hj).1))) ⟨Nat.le_of_ble_eq_true rfl, Nat.le_of_ble_eq_true rfl⟩ ⟨Nat.le_of_ble_eq_true rfl, Nat.le_of_ble_eq_true rfl⟩ [20, 5, 17, 18] [0, 1, 2, 3, 4, 6, 7, 8, 9, 10, 11, 12, 13, 14, 15, 16, 19, 21] (by decide +kernel) rfl rfl (by decide +kernel) (by decide +kernel) rfl rfl rfl rfl (Nat.le_of_ble_eq_true rfl) dX10_costs_19 ?_
      clear hw
      intro rr u H locs hp hw
      refine hp.elim fun k50_7 zg0 => zg0.elim fun k51_8 zg1 => zg1.elim fun d49_9 zg2 => zg2.elim fun zee1 zg3 => zg3.elim fun zee2 zg4 => zg4.elim fun hq19_0 zg5 => zg5.elim fun hq19_1 hq19_2 => ?_
      clear hp zg0 zg1 zg2 zg3 zg4 zg5
      subst zee1
      subst zee2
      replace hw : zz_w G A s [((r 24), .inl (G.2 0, 14, .inl c24)), ((r 25), .inl (G.2 0, 14, .inl c25)), ((r 28), .inl (G.2 0, 12, .inl c28)), ((r 29), .inl (G.2 0, 12, .inl c29)), ((r 30), .inl (G.2 0, 2, .inl c30)), ((r 32), .inl (G.2 0, 8, .inl c32)), ((r 33), .inl (G.2 0, 8, .inl c33)), ((r 35), .inl (G.2 2, 260, .inl c35)), ((r 36), .inl (G.2 0, 260, .inl c36)), ((r 37), .inl (G.2 0, 260, .inl c37)), ((r 38), .inl (G.2 0, 260, .inl c38)), ((r 39), .inl (G.2 0, 260, .inl c39)), ((r 41), .inl (G.2 0, 840, .inl c41)), ((r 42), .inl (G.2 0, 840, .inl c42)), ((r 45), .inl (G.2 0, 9, .inl c45)), ((r 46), .inl (G.2 0, 400, .inl c46)), ((r 22), .inl (G.2 0, 2, .inl c22)), ((r 26), .inl (G.2 0, 2, .inl c26)), ((r 0), .inr (10, (zz_mo r [(0, j0), (2, j2), (4, j4), (10, j10), (11, j11), (12, j12), (13, j13), (14, j14), (15, j15), (16, j16), (17, j17), (18, (nI lv)), (19, j19), (20, j20), (34, j34), (40, j40), (44, j44), (47, j47), (50, k50_7), (51, k51_8), (56, j56), (61, j61)]))), ((r 31), .inl (G.2 0, 2, .inl c31)), ((r 48), .inl (G.2 0, 71, .inl c48)), ((r 49), .inl (G.2 0, 71, .inl d49_9))] H _ := hw
      refine W.eq (g2 := F0 m 22 ls []) rfl ?_
      refine lv_aload_n hx hb dX10_costs_22 rfl (lv_at hl 0 rfl) ?_
      refine lv_iload_n hx hb dX10_costs_23 rfl (lv_at hl 1 rfl) ?_
      refine lv_iload_n hx hb dX10_costs_24 rfl (lv_at hl 2 rfl) ?_
      refine zz_callV (qb := 18) (As := [.int (nI vq3), .int (nI vq6)]) (rest := []) (wr := [((r 22), .inl (G.2 0, 2, .inl c22)), ((r 26), .inl (G.2 0, 2, .inl c26)), ((r 31), .inl (G.2 0, 2, .inl c31))]) S hw hl.1 lX10_422 (c_x_costsOf l G r j0 j2 j4 j10 j11 j12 j13 j14 j15 j16 j17 j19 j20 j34 j40 j44 j47 k50_7 k51_8 j56 j61 lv c24 c25 c28 c29 c30 c32 c33 c35 c36 c37 c38 c39 c41 c42 c45 c46 c48 d49_9 vq3 vq6 (by first | assumption | omega | exact Or.inr ⟨_, by omega, rfl⟩ | (unfold zz_sok; decide) | decide | exact (fun j hj => (hv7 j hj).1)) (by first | assumption | omega | exact Or.inr ⟨_, by omega, rfl⟩ | (unfold zz_sok; decide) | decide | exact (fun j hj => (hv7 j hj).1)) (by first | assumption | omega | exact Or.inr ⟨_, by omega, rfl⟩ | (unfold zz_sok; decide) | decide | exact (fun j hj => (hv7 j hj).1)) (by first | assumption | omega | exact Or.inr ⟨_, by omega, rfl⟩ | (unfold zz_sok; decide) | decide | exact (fun j hj => (hv7 j hj).1))) ⟨Nat.le_of_ble_eq_true rfl, Nat.le_of_ble_eq_true rfl⟩ ⟨Nat.le_of_ble_eq_true rfl, Nat.le_of_ble_eq_true rfl⟩ [18, 0, 1, 2, 3, 4, 5, 6, 7, 8, 9, 10, 11, 12, 13, 14, 15, 20, 21] [16, 17, 19] (by decide +kernel) rfl rfl (by decide +kernel) (by decide +kernel) rfl rfl rfl rfl (Nat.le_of_ble_eq_true rfl) dX10_costs_25 ?_
      clear hw
      intro rr u H locs hp hw
      refine hp.elim fun rv_10 zg0 => zg0.elim fun k47_11 zg1 => zg1.elim fun d45_12 zg2 => zg2.elim fun d46_13 zg3 => zg3.elim fun d49_14 zg4 => zg4.elim fun zee1 zg5 => zg5.elim fun zee2 zg6 => zg6.elim fun hq25_0 hq25_1 => ?_
      clear hp zg0 zg1 zg2 zg3 zg4 zg5 zg6
      subst zee1
      subst zee2
      replace hw : zz_w G A s [((r 22), .inl (G.2 0, 2, .inl c22)), ((r 26), .inl (G.2 0, 2, .inl c26)), ((r 31), .inl (G.2 0, 2, .inl c31)), ((r 0), .inr (10, (zz_mo r [(0, j0), (2, j2), (4, j4), (10, j10), (11, j11), (12, j12), (13, j13), (14, j14), (15, j15), (16, j16), (17, j17), (18, (nI lv)), (19, j19), (20, j20), (34, j34), (40, j40), (44, j44), (47, k47_11), (50, k50_7), (51, k51_8), (56, j56), (61, j61)]))), ((r 24), .inl (G.2 0, 14, .inl c24)), ((r 25), .inl (G.2 0, 14, .inl c25)), ((r 28), .inl (G.2 0, 12, .inl c28)), ((r 29), .inl (G.2 0, 12, .inl c29)), ((r 30), .inl (G.2 0, 2, .inl c30)), ((r 32), .inl (G.2 0, 8, .inl c32)), ((r 33), .inl (G.2 0, 8, .inl c33)), ((r 35), .inl (G.2 2, 260, .inl c35)), ((r 36), .inl (G.2 0, 260, .inl c36)), ((r 37), .inl (G.2 0, 260, .inl c37)), ((r 38), .inl (G.2 0, 260, .inl c38)), ((r 39), .inl (G.2 0, 260, .inl c39)), ((r 41), .inl (G.2 0, 840, .inl c41)), ((r 42), .inl (G.2 0, 840, .inl c42)), ((r 45), .inl (G.2 0, 9, .inl d45_12)), ((r 46), .inl (G.2 0, 400, .inl d46_13)), ((r 48), .inl (G.2 0, 71, .inl c48)), ((r 49), .inl (G.2 0, 71, .inl d49_14))] H _ := hw
      refine W.eq (g2 := F0 m 28 ls [.int rv_10]) rfl ?_
      refine lv_istore_n (lv' := [(3, .int rv_10), (0, .ref (r 0)), (1, .int (nI vq3)), (2, .int (nI vq6))]) hx hb dX10_costs_28 rfl hl (by decide) rfl (fun ls hl => ?_)
      refine W.eq (g2 := F0 m 29 ls []) rfl ?_
      refine lv_iload_n hx hb dX10_costs_29 rfl (lv_at hl 0 rfl) ?_
      refine lv_ldcw (v := 100000) hx hb S.2.2.2.1 (S.2.2.2.2 _ (zz_c7 147 rfl rfl)) dX10_costs_30 ?_
      refine lv_icmp_ne (tgt := 41) hx hb dX10_costs_33 (by decide) (fun c33_15 => ?_) (fun c33_15 => ?_)
      · skip
        refine lv_iload_n hx hb dX10_costs_41 rfl (lv_at hl 0 rfl) ?_
        exact hret _ _ _ _ _ _ ⟨rv_10, k47_11, k50_7, k51_8, d45_12, d46_13, d49_14, rfl, rfl⟩ (hw.sub [3, 0, 4, 5, 1, 6, 7, 8, 2, 9, 10, 11, 12, 13, 14, 15, 16, 17, 18, 19, 20, 21] (by decide +kernel) rfl) rfl dX10_costs_42
      · skip
        refine lv_bipush (v := (-2)) hx hb dX10_costs_36 (by decide) ?_
        refine lv_goto (tgt := 42) hx hb dX10_costs_38 (by decide) ?_
        exact hret _ _ _ _ _ _ ⟨(-2), k47_11, k50_7, k51_8, d45_12, d46_13, d49_14, rfl, rfl⟩ (hw.sub [3, 0, 4, 5, 1, 6, 7, 8, 2, 9, 10, 11, 12, 13, 14, 15, 16, 17, 18, 19, 20, 21] (by decide +kernel) rfl) rfl dX10_costs_42
    · skip
      refine lv_iconst (v := (-1)) hx hb dX10_costs_16 (by decide) ?_
      exact hret _ _ _ _ _ _ ⟨(-1), j47, j50, j51, c45, c46, c49, rfl, rfl⟩ (hw.sub [20, 19, 0, 1, 21, 2, 3, 4, 5, 6, 7, 8, 9, 10, 11, 12, 13, 14, 15, 16, 17, 18] (by decide +kernel) rfl) rfl dX10_costs_17
theorem kd_ncX10_whole : kd_ck 331660136209190790362246709256734442641752285615578825783571353307381286305276729813318475116694278486575672242553930043993336799662003193047646580161050705113976153633705760351908026389778735649856768472995671192082846209575810189635247363677566636631156639401715979142566690781628366983976609090161979802990192136877327009860937447156176126939100595708674719996091062022409560836585296672595379973666251355200223453850567256724923475454274045614029528269175549454313700471610814025091572273664924008990890908028775139185902523999925763669585636783997676721840896467328765758590291745306618230848569483762710058 254 cX10_whole.data.toList 0 = true := by decide +kernel
theorem dX10_whole_0 : decode cX10_whole 0 = .ok (.aload_n 0, 1) := kd_dk0 kd_o42 kd_ncX10_whole rfl
theorem dX10_whole_1 : decode cX10_whole 1 = .ok (.invokevirtual 323, 3) := kd_dk2 kd_o182 kd_ncX10_whole rfl
theorem dX10_whole_4 : decode cX10_whole 4 = .ok (.iconst 0, 1) := kd_dk0 kd_o3 kd_ncX10_whole rfl
theorem dX10_whole_5 : decode cX10_whole 5 = .ok (.istore_n 1, 1) := kd_dk0 kd_o60 kd_ncX10_whole rfl
theorem dX10_whole_6 : decode cX10_whole 6 = .ok (.iload_n 1, 1) := kd_dk0 kd_o27 kd_ncX10_whole rfl
theorem dX10_whole_7 : decode cX10_whole 7 = .ok (.aload_n 0, 1) := kd_dk0 kd_o42 kd_ncX10_whole rfl
theorem dX10_whole_8 : decode cX10_whole 8 = .ok (.getfield 43, 3) := kd_dk2 kd_o180 kd_ncX10_whole rfl
theorem dX10_whole_11 : decode cX10_whole 11 = .ok (.aload_n 0, 1) := kd_dk0 kd_o42 kd_ncX10_whole rfl
theorem dX10_whole_12 : decode cX10_whole 12 = .ok (.getfield 236, 3) := kd_dk2 kd_o180 kd_ncX10_whole rfl
theorem dX10_whole_15 : decode cX10_whole 15 = .ok (.iaload, 1) := kd_dk0 kd_o46 kd_ncX10_whole rfl
theorem dX10_whole_16 : decode cX10_whole 16 = .ok (.if_icmp .ge 74, 3) := kd_dj2 kd_o162 (w := 74) kd_ncX10_whole rfl rfl
theorem dX10_whole_19 : decode cX10_whole 19 = .ok (.iconst 0, 1) := kd_dk0 kd_o3 kd_ncX10_whole rfl
theorem dX10_whole_20 : decode cX10_whole 20 = .ok (.istore_n 2, 1) := kd_dk0 kd_o61 kd_ncX10_whole rfl
theorem dX10_whole_21 : decode cX10_whole 21 = .ok (.iload_n 2, 1) := kd_dk0 kd_o28 kd_ncX10_whole rfl
theorem dX10_whole_22 : decode cX10_whole 22 = .ok (.aload_n 0, 1) := kd_dk0 kd_o42 kd_ncX10_whole rfl
theorem dX10_whole_23 : decode cX10_whole 23 = .ok (.getfield 55, 3) := kd_dk2 kd_o180 kd_ncX10_whole rfl
theorem dX10_whole_26 : decode cX10_whole 26 = .ok (.aload_n 0, 1) := kd_dk0 kd_o42 kd_ncX10_whole rfl
theorem dX10_whole_27 : decode cX10_whole 27 = .ok (.getfield 236, 3) := kd_dk2 kd_o180 kd_ncX10_whole rfl
theorem dX10_whole_30 : decode cX10_whole 30 = .ok (.iaload, 1) := kd_dk0 kd_o46 kd_ncX10_whole rfl
theorem dX10_whole_31 : decode cX10_whole 31 = .ok (.if_icmp .ge 53, 3) := kd_dj2 kd_o162 (w := 53) kd_ncX10_whole rfl rfl
theorem dX10_whole_34 : decode cX10_whole 34 = .ok (.aload_n 0, 1) := kd_dk0 kd_o42 kd_ncX10_whole rfl
theorem dX10_whole_35 : decode cX10_whole 35 = .ok (.iload_n 1, 1) := kd_dk0 kd_o27 kd_ncX10_whole rfl
theorem dX10_whole_36 : decode cX10_whole 36 = .ok (.invokevirtual 345, 3) := kd_dk2 kd_o182 kd_ncX10_whole rfl
theorem dX10_whole_39 : decode cX10_whole 39 = .ok (.ifCond .eq 9, 3) := kd_dj2 kd_o153 (w := 9) kd_ncX10_whole rfl rfl
theorem dX10_whole_42 : decode cX10_whole 42 = .ok (.ldc_w 421, 3) := kd_dk2 kd_o19 kd_ncX10_whole rfl
theorem dX10_whole_45 : decode cX10_whole 45 = .ok (.goto 9, 3) := kd_dj2 kd_o167 (w := 9) kd_ncX10_whole rfl rfl
theorem dX10_whole_48 : decode cX10_whole 48 = .ok (.aload_n 0, 1) := kd_dk0 kd_o42 kd_ncX10_whole rfl
theorem dX10_whole_49 : decode cX10_whole 49 = .ok (.iload_n 1, 1) := kd_dk0 kd_o27 kd_ncX10_whole rfl
theorem dX10_whole_50 : decode cX10_whole 50 = .ok (.iload_n 2, 1) := kd_dk0 kd_o28 kd_ncX10_whole rfl
theorem dX10_whole_51 : decode cX10_whole 51 = .ok (.invokevirtual 422, 3) := kd_dk2 kd_o182 kd_ncX10_whole rfl
theorem dX10_whole_54 : decode cX10_whole 54 = .ok (.istore_n 3, 1) := kd_dk0 kd_o62 kd_ncX10_whole rfl
theorem dX10_whole_55 : decode cX10_whole 55 = .ok (.aload_n 0, 1) := kd_dk0 kd_o42 kd_ncX10_whole rfl
theorem dX10_whole_56 : decode cX10_whole 56 = .ok (.getfield 131, 3) := kd_dk2 kd_o180 kd_ncX10_whole rfl
theorem dX10_whole_59 : decode cX10_whole 59 = .ok (.bipush 6, 2) := kd_dj1 kd_o16 (w := 6) kd_ncX10_whole rfl rfl
theorem dX10_whole_61 : decode cX10_whole 61 = .ok (.iload_n 1, 1) := kd_dk0 kd_o27 kd_ncX10_whole rfl
theorem dX10_whole_62 : decode cX10_whole 62 = .ok (.imul, 1) := kd_dk0 kd_o104 kd_ncX10_whole rfl
theorem dX10_whole_63 : decode cX10_whole 63 = .ok (.iload_n 2, 1) := kd_dk0 kd_o28 kd_ncX10_whole rfl
theorem dX10_whole_64 : decode cX10_whole 64 = .ok (.iadd, 1) := kd_dk0 kd_o96 kd_ncX10_whole rfl
theorem dX10_whole_65 : decode cX10_whole 65 = .ok (.iload_n 3, 1) := kd_dk0 kd_o29 kd_ncX10_whole rfl
theorem dX10_whole_66 : decode cX10_whole 66 = .ok (.ldc_w 421, 3) := kd_dk2 kd_o19 kd_ncX10_whole rfl
theorem dX10_whole_69 : decode cX10_whole 69 = .ok (.if_icmp .ne 7, 3) := kd_dj2 kd_o160 (w := 7) kd_ncX10_whole rfl rfl
theorem dX10_whole_72 : decode cX10_whole 72 = .ok (.iconst (-1), 1) := kd_dk0 kd_o2 kd_ncX10_whole rfl
theorem dX10_whole_73 : decode cX10_whole 73 = .ok (.goto 4, 3) := kd_dj2 kd_o167 (w := 4) kd_ncX10_whole rfl rfl
theorem dX10_whole_76 : decode cX10_whole 76 = .ok (.iload_n 3, 1) := kd_dk0 kd_o29 kd_ncX10_whole rfl
theorem dX10_whole_77 : decode cX10_whole 77 = .ok (.iastore, 1) := kd_dk0 kd_o79 kd_ncX10_whole rfl
theorem dX10_whole_78 : decode cX10_whole 78 = .ok (.iinc 2 1, 3) := kd_dji kd_o132 (w := 1) kd_ncX10_whole rfl rfl
theorem dX10_whole_81 : decode cX10_whole 81 = .ok (.goto (-60), 3) := kd_dj2 kd_o167 (w := 65476) kd_ncX10_whole rfl rfl
theorem dX10_whole_84 : decode cX10_whole 84 = .ok (.iinc 1 1, 3) := kd_dji kd_o132 (w := 1) kd_ncX10_whole rfl rfl
theorem dX10_whole_87 : decode cX10_whole 87 = .ok (.goto (-81), 3) := kd_dj2 kd_o167 (w := 65455) kd_ncX10_whole rfl rfl
theorem dX10_whole_90 : decode cX10_whole 90 = .ok (.aload_n 0, 1) := kd_dk0 kd_o42 kd_ncX10_whole rfl
theorem dX10_whole_91 : decode cX10_whole 91 = .ok (.iconst 0, 1) := kd_dk0 kd_o3 kd_ncX10_whole rfl
theorem dX10_whole_92 : decode cX10_whole 92 = .ok (.invokevirtual 406, 3) := kd_dk2 kd_o182 kd_ncX10_whole rfl
theorem dX10_whole_95 : decode cX10_whole 95 = .ok (.aload_n 0, 1) := kd_dk0 kd_o42 kd_ncX10_whole rfl
theorem dX10_whole_96 : decode cX10_whole 96 = .ok (.getfield 55, 3) := kd_dk2 kd_o180 kd_ncX10_whole rfl
theorem dX10_whole_99 : decode cX10_whole 99 = .ok (.aload_n 0, 1) := kd_dk0 kd_o42 kd_ncX10_whole rfl
theorem dX10_whole_100 : decode cX10_whole 100 = .ok (.getfield 236, 3) := kd_dk2 kd_o180 kd_ncX10_whole rfl
theorem dX10_whole_103 : decode cX10_whole 103 = .ok (.iaload, 1) := kd_dk0 kd_o46 kd_ncX10_whole rfl
theorem dX10_whole_104 : decode cX10_whole 104 = .ok (.iconst 1, 1) := kd_dk0 kd_o4 kd_ncX10_whole rfl
theorem dX10_whole_105 : decode cX10_whole 105 = .ok (.isub, 1) := kd_dk0 kd_o100 kd_ncX10_whole rfl
theorem dX10_whole_106 : decode cX10_whole 106 = .ok (.istore_n 1, 1) := kd_dk0 kd_o60 kd_ncX10_whole rfl
theorem dX10_whole_107 : decode cX10_whole 107 = .ok (.iload_n 1, 1) := kd_dk0 kd_o27 kd_ncX10_whole rfl
theorem dX10_whole_108 : decode cX10_whole 108 = .ok (.ifCond .lt 122, 3) := kd_dj2 kd_o155 (w := 122) kd_ncX10_whole rfl rfl
theorem dX10_whole_111 : decode cX10_whole 111 = .ok (.iconst 0, 1) := kd_dk0 kd_o3 kd_ncX10_whole rfl
theorem dX10_whole_112 : decode cX10_whole 112 = .ok (.istore_n 2, 1) := kd_dk0 kd_o61 kd_ncX10_whole rfl
theorem dX10_whole_113 : decode cX10_whole 113 = .ok (.iload_n 2, 1) := kd_dk0 kd_o28 kd_ncX10_whole rfl
theorem dX10_whole_114 : decode cX10_whole 114 = .ok (.sipush 128, 3) := kd_dj2 kd_o17 (w := 128) kd_ncX10_whole rfl rfl
theorem dX10_whole_117 : decode cX10_whole 117 = .ok (.if_icmp .ge 107, 3) := kd_dj2 kd_o162 (w := 107) kd_ncX10_whole rfl rfl
theorem dX10_whole_120 : decode cX10_whole 120 = .ok (.ldc_w 421, 3) := kd_dk2 kd_o19 kd_ncX10_whole rfl
theorem dX10_whole_123 : decode cX10_whole 123 = .ok (.istore_n 3, 1) := kd_dk0 kd_o62 kd_ncX10_whole rfl
theorem dX10_whole_124 : decode cX10_whole 124 = .ok (.iconst 0, 1) := kd_dk0 kd_o3 kd_ncX10_whole rfl
theorem dX10_whole_125 : decode cX10_whole 125 = .ok (.istore 4, 2) := kd_dk1 kd_o54 kd_ncX10_whole rfl
theorem dX10_whole_127 : decode cX10_whole 127 = .ok (.iload 4, 2) := kd_dk1 kd_o21 kd_ncX10_whole rfl
theorem dX10_whole_129 : decode cX10_whole 129 = .ok (.aload_n 0, 1) := kd_dk0 kd_o42 kd_ncX10_whole rfl
theorem dX10_whole_130 : decode cX10_whole 130 = .ok (.getfield 43, 3) := kd_dk2 kd_o180 kd_ncX10_whole rfl
theorem dX10_whole_133 : decode cX10_whole 133 = .ok (.aload_n 0, 1) := kd_dk0 kd_o42 kd_ncX10_whole rfl
theorem dX10_whole_134 : decode cX10_whole 134 = .ok (.getfield 236, 3) := kd_dk2 kd_o180 kd_ncX10_whole rfl
theorem dX10_whole_137 : decode cX10_whole 137 = .ok (.iaload, 1) := kd_dk0 kd_o46 kd_ncX10_whole rfl
theorem dX10_whole_138 : decode cX10_whole 138 = .ok (.if_icmp .ge 67, 3) := kd_dj2 kd_o162 (w := 67) kd_ncX10_whole rfl rfl
theorem dX10_whole_141 : decode cX10_whole 141 = .ok (.aload_n 0, 1) := kd_dk0 kd_o42 kd_ncX10_whole rfl
theorem dX10_whole_142 : decode cX10_whole 142 = .ok (.iload 4, 2) := kd_dk1 kd_o21 kd_ncX10_whole rfl
theorem dX10_whole_144 : decode cX10_whole 144 = .ok (.iload_n 1, 1) := kd_dk0 kd_o27 kd_ncX10_whole rfl
theorem dX10_whole_145 : decode cX10_whole 145 = .ok (.iload_n 2, 1) := kd_dk0 kd_o28 kd_ncX10_whole rfl
theorem dX10_whole_146 : decode cX10_whole 146 = .ok (.invokevirtual 409, 3) := kd_dk2 kd_o182 kd_ncX10_whole rfl
theorem dX10_whole_149 : decode cX10_whole 149 = .ok (.ifCond .eq 50, 3) := kd_dj2 kd_o153 (w := 50) kd_ncX10_whole rfl rfl
theorem dX10_whole_152 : decode cX10_whole 152 = .ok (.aload_n 0, 1) := kd_dk0 kd_o42 kd_ncX10_whole rfl
theorem dX10_whole_153 : decode cX10_whole 153 = .ok (.getfield 131, 3) := kd_dk2 kd_o180 kd_ncX10_whole rfl
theorem dX10_whole_156 : decode cX10_whole 156 = .ok (.bipush 6, 2) := kd_dj1 kd_o16 (w := 6) kd_ncX10_whole rfl rfl
theorem dX10_whole_158 : decode cX10_whole 158 = .ok (.iload 4, 2) := kd_dk1 kd_o21 kd_ncX10_whole rfl
theorem dX10_whole_160 : decode cX10_whole 160 = .ok (.imul, 1) := kd_dk0 kd_o104 kd_ncX10_whole rfl
theorem dX10_whole_161 : decode cX10_whole 161 = .ok (.iload_n 1, 1) := kd_dk0 kd_o27 kd_ncX10_whole rfl
theorem dX10_whole_162 : decode cX10_whole 162 = .ok (.iadd, 1) := kd_dk0 kd_o96 kd_ncX10_whole rfl
theorem dX10_whole_163 : decode cX10_whole 163 = .ok (.iaload, 1) := kd_dk0 kd_o46 kd_ncX10_whole rfl
theorem dX10_whole_164 : decode cX10_whole 164 = .ok (.aload_n 0, 1) := kd_dk0 kd_o42 kd_ncX10_whole rfl
theorem dX10_whole_165 : decode cX10_whole 165 = .ok (.iload 4, 2) := kd_dk1 kd_o21 kd_ncX10_whole rfl
theorem dX10_whole_167 : decode cX10_whole 167 = .ok (.iload_n 1, 1) := kd_dk0 kd_o27 kd_ncX10_whole rfl
theorem dX10_whole_168 : decode cX10_whole 168 = .ok (.iload_n 2, 1) := kd_dk0 kd_o28 kd_ncX10_whole rfl
theorem dX10_whole_169 : decode cX10_whole 169 = .ok (.invokevirtual 412, 3) := kd_dk2 kd_o182 kd_ncX10_whole rfl
theorem dX10_whole_172 : decode cX10_whole 172 = .ok (.iadd, 1) := kd_dk0 kd_o96 kd_ncX10_whole rfl
theorem dX10_whole_173 : decode cX10_whole 173 = .ok (.iload_n 3, 1) := kd_dk0 kd_o29 kd_ncX10_whole rfl
theorem dX10_whole_174 : decode cX10_whole 174 = .ok (.if_icmp .ge 25, 3) := kd_dj2 kd_o162 (w := 25) kd_ncX10_whole rfl rfl
theorem dX10_whole_177 : decode cX10_whole 177 = .ok (.aload_n 0, 1) := kd_dk0 kd_o42 kd_ncX10_whole rfl
theorem dX10_whole_178 : decode cX10_whole 178 = .ok (.getfield 131, 3) := kd_dk2 kd_o180 kd_ncX10_whole rfl
theorem dX10_whole_181 : decode cX10_whole 181 = .ok (.bipush 6, 2) := kd_dj1 kd_o16 (w := 6) kd_ncX10_whole rfl rfl
theorem dX10_whole_183 : decode cX10_whole 183 = .ok (.iload 4, 2) := kd_dk1 kd_o21 kd_ncX10_whole rfl
theorem dX10_whole_185 : decode cX10_whole 185 = .ok (.imul, 1) := kd_dk0 kd_o104 kd_ncX10_whole rfl
theorem dX10_whole_186 : decode cX10_whole 186 = .ok (.iload_n 1, 1) := kd_dk0 kd_o27 kd_ncX10_whole rfl
theorem dX10_whole_187 : decode cX10_whole 187 = .ok (.iadd, 1) := kd_dk0 kd_o96 kd_ncX10_whole rfl
theorem dX10_whole_188 : decode cX10_whole 188 = .ok (.iaload, 1) := kd_dk0 kd_o46 kd_ncX10_whole rfl
theorem dX10_whole_189 : decode cX10_whole 189 = .ok (.aload_n 0, 1) := kd_dk0 kd_o42 kd_ncX10_whole rfl
theorem dX10_whole_190 : decode cX10_whole 190 = .ok (.iload 4, 2) := kd_dk1 kd_o21 kd_ncX10_whole rfl
theorem dX10_whole_192 : decode cX10_whole 192 = .ok (.iload_n 1, 1) := kd_dk0 kd_o27 kd_ncX10_whole rfl
theorem dX10_whole_193 : decode cX10_whole 193 = .ok (.iload_n 2, 1) := kd_dk0 kd_o28 kd_ncX10_whole rfl
theorem dX10_whole_194 : decode cX10_whole 194 = .ok (.invokevirtual 412, 3) := kd_dk2 kd_o182 kd_ncX10_whole rfl
theorem dX10_whole_197 : decode cX10_whole 197 = .ok (.iadd, 1) := kd_dk0 kd_o96 kd_ncX10_whole rfl
theorem dX10_whole_198 : decode cX10_whole 198 = .ok (.istore_n 3, 1) := kd_dk0 kd_o62 kd_ncX10_whole rfl
theorem dX10_whole_199 : decode cX10_whole 199 = .ok (.iinc 4 1, 3) := kd_dji kd_o132 (w := 1) kd_ncX10_whole rfl rfl
theorem dX10_whole_202 : decode cX10_whole 202 = .ok (.goto (-75), 3) := kd_dj2 kd_o167 (w := 65461) kd_ncX10_whole rfl rfl
theorem dX10_whole_205 : decode cX10_whole 205 = .ok (.aload_n 0, 1) := kd_dk0 kd_o42 kd_ncX10_whole rfl
theorem dX10_whole_206 : decode cX10_whole 206 = .ok (.getfield 134, 3) := kd_dk2 kd_o180 kd_ncX10_whole rfl
theorem dX10_whole_209 : decode cX10_whole 209 = .ok (.sipush 128, 3) := kd_dj2 kd_o17 (w := 128) kd_ncX10_whole rfl rfl
theorem dX10_whole_212 : decode cX10_whole 212 = .ok (.iload_n 1, 1) := kd_dk0 kd_o27 kd_ncX10_whole rfl
theorem dX10_whole_213 : decode cX10_whole 213 = .ok (.imul, 1) := kd_dk0 kd_o104 kd_ncX10_whole rfl
theorem dX10_whole_214 : decode cX10_whole 214 = .ok (.iload_n 2, 1) := kd_dk0 kd_o28 kd_ncX10_whole rfl
theorem dX10_whole_215 : decode cX10_whole 215 = .ok (.iadd, 1) := kd_dk0 kd_o96 kd_ncX10_whole rfl
theorem dX10_whole_216 : decode cX10_whole 216 = .ok (.iload_n 3, 1) := kd_dk0 kd_o29 kd_ncX10_whole rfl
theorem dX10_whole_217 : decode cX10_whole 217 = .ok (.iastore, 1) := kd_dk0 kd_o79 kd_ncX10_whole rfl
theorem dX10_whole_218 : decode cX10_whole 218 = .ok (.iinc 2 1, 3) := kd_dji kd_o132 (w := 1) kd_ncX10_whole rfl rfl
theorem dX10_whole_221 : decode cX10_whole 221 = .ok (.goto (-108), 3) := kd_dj2 kd_o167 (w := 65428) kd_ncX10_whole rfl rfl
theorem dX10_whole_224 : decode cX10_whole 224 = .ok (.iinc 1 (-1), 3) := kd_dji kd_o132 (w := 255) kd_ncX10_whole rfl rfl
theorem dX10_whole_227 : decode cX10_whole 227 = .ok (.goto (-120), 3) := kd_dj2 kd_o167 (w := 65416) kd_ncX10_whole rfl rfl
theorem dX10_whole_230 : decode cX10_whole 230 = .ok (.aload_n 0, 1) := kd_dk0 kd_o42 kd_ncX10_whole rfl
theorem dX10_whole_231 : decode cX10_whole 231 = .ok (.getfield 134, 3) := kd_dk2 kd_o180 kd_ncX10_whole rfl
theorem dX10_whole_234 : decode cX10_whole 234 = .ok (.iconst 0, 1) := kd_dk0 kd_o3 kd_ncX10_whole rfl
theorem dX10_whole_235 : decode cX10_whole 235 = .ok (.iaload, 1) := kd_dk0 kd_o46 kd_ncX10_whole rfl
theorem dX10_whole_236 : decode cX10_whole 236 = .ok (.ldc_w 421, 3) := kd_dk2 kd_o19 kd_ncX10_whole rfl
theorem dX10_whole_239 : decode cX10_whole 239 = .ok (.if_icmp .lt 8, 3) := kd_dj2 kd_o161 (w := 8) kd_ncX10_whole rfl rfl
theorem dX10_whole_242 : decode cX10_whole 242 = .ok (.bipush (-2), 2) := kd_dj1 kd_o16 (w := 254) kd_ncX10_whole rfl rfl
theorem dX10_whole_244 : decode cX10_whole 244 = .ok (.goto 9, 3) := kd_dj2 kd_o167 (w := 9) kd_ncX10_whole rfl rfl
theorem dX10_whole_247 : decode cX10_whole 247 = .ok (.aload_n 0, 1) := kd_dk0 kd_o42 kd_ncX10_whole rfl
theorem dX10_whole_248 : decode cX10_whole 248 = .ok (.getfield 134, 3) := kd_dk2 kd_o180 kd_ncX10_whole rfl
theorem dX10_whole_251 : decode cX10_whole 251 = .ok (.iconst 0, 1) := kd_dk0 kd_o3 kd_ncX10_whole rfl
theorem dX10_whole_252 : decode cX10_whole 252 = .ok (.iaload, 1) := kd_dk0 kd_o46 kd_ncX10_whole rfl
theorem dX10_whole_253 : decode cX10_whole 253 = .ok (.ireturn, 1) := kd_dk0 kd_o172 kd_ncX10_whole rfl
set_option maxHeartbeats 8000000 in
set_option maxRecDepth 100000 in
theorem c_x_whole (l : Launch) (G : zz_G) (r : Nat → Nat) (j0 : Int32) (j2 : Int32) (j4 : Int32) (j10 : Int32) (j11 : Int32) (j12 : Int32) (j13 : Int32) (j14 : Int32) (j15 : Int32) (j16 : Int32) (j17 : Int32) (j19 : Int32) (j20 : Int32) (j34 : Int32) (j40 : Int32) (j44 : Int32) (j47 : Int32) (j50 : Int32) (j51 : Int32) (j56 : Int32) (j61 : Int32) (lv : Nat) (pp : Nat) (pq : Nat) (c22 : Nat → Int32) (c24 : Nat → Int32) (c25 : Nat → Int32) (c26 : Nat → Int32) (c28 : Nat → Int32) (c29 : Nat → Int32) (c30 : Nat → Int32) (c31 : Nat → Int32) (c32 : Nat → Int32) (c33 : Nat → Int32) (c35 : Nat → Int32) (c36 : Nat → Int32) (c37 : Nat → Int32) (c38 : Nat → Int32) (c39 : Nat → Int32) (c41 : Nat → Int32) (c42 : Nat → Int32) (c45 : Nat → Int32) (c46 : Nat → Int32) (c48 : Nat → Int32) (c49 : Nat → Int32) (c58 : Nat → Int32) (c59 : Nat → Int32) (hlv : lv ≤ 1) (hpe : c22 lv = nI pp) (hpp : pp ≤ 7) (hpa : c26 lv = nI pq) (hpq : pq ≤ 6) (hlw : zz_LW 2 0 0 c32 c33 c35 c36 c37 c38 c39 c41 c42) : zz_M l G mX10_whole 5 0 0 [.ref (r 0)] [((r 0), .inr (10, (zz_mo r [(0, j0), (2, j2), (4, j4), (10, j10), (11, j11), (12, j12), (13, j13), (14, j14), (15, j15), (16, j16), (17, j17), (18, (nI lv)), (19, j19), (20, j20), (34, j34), (40, j40), (44, j44), (47, j47), (50, j50), (51, j51), (56, j56), (61, j61)]))), ((r 22), .inl (G.2 0, 2, .inl c22)), ((r 24), .inl (G.2 0, 14, .inl c24)), ((r 25), .inl (G.2 0, 14, .inl c25)), ((r 26), .inl (G.2 0, 2, .inl c26)), ((r 28), .inl (G.2 0, 12, .inl c28)), ((r 29), .inl (G.2 0, 12, .inl c29)), ((r 30), .inl (G.2 0, 2, .inl c30)), ((r 31), .inl (G.2 0, 2, .inl c31)), ((r 32), .inl (G.2 0, 8, .inl c32)), ((r 33), .inl (G.2 0, 8, .inl c33)), ((r 35), .inl (G.2 2, 260, .inl c35)), ((r 36), .inl (G.2 0, 260, .inl c36)), ((r 37), .inl (G.2 0, 260, .inl c37)), ((r 38), .inl (G.2 0, 260, .inl c38)), ((r 39), .inl (G.2 0, 260, .inl c39)), ((r 41), .inl (G.2 0, 840, .inl c41)), ((r 42), .inl (G.2 0, 840, .inl c42)), ((r 45), .inl (G.2 0, 9, .inl c45)), ((r 46), .inl (G.2 0, 400, .inl c46)), ((r 48), .inl (G.2 0, 71, .inl c48)), ((r 49), .inl (G.2 0, 71, .inl c49)), ((r 58), .inl (G.2 0, 42, .inl c58)), ((r 59), .inl (G.2 0, 896, .inl c59))] (fun rr u => ∃ (rv : Int32), ∃ (k47 : Int32), ∃ (k50 : Int32), ∃ (k51 : Int32), ∃ (d45 : Nat → Int32), ∃ (d46 : Nat → Int32), ∃ (d49 : Nat → Int32), ∃ (d58 : Nat → Int32), ∃ (d59 : Nat → Int32), rr = some (.int rv) ∧ u = [((r 0), .inr (10, (zz_mo r [(0, j0), (2, j2), (4, j4), (10, j10), (11, j11), (12, j12), (13, j13), (14, j14), (15, j15), (16, j16), (17, j17), (18, (nI lv)), (19, j19), (20, j20), (34, j34), (40, j40), (44, j44), (47, k47), (50, k50), (51, k51), (56, j56), (61, j61)]))), ((r 22), .inl (G.2 0, 2, .inl c22)), ((r 24), .inl (G.2 0, 14, .inl c24)), ((r 25), .inl (G.2 0, 14, .inl c25)), ((r 26), .inl (G.2 0, 2, .inl c26)), ((r 28), .inl (G.2 0, 12, .inl c28)), ((r 29), .inl (G.2 0, 12, .inl c29)), ((r 30), .inl (G.2 0, 2, .inl c30)), ((r 31), .inl (G.2 0, 2, .inl c31)), ((r 32), .inl (G.2 0, 8, .inl c32)), ((r 33), .inl (G.2 0, 8, .inl c33)), ((r 35), .inl (G.2 2, 260, .inl c35)), ((r 36), .inl (G.2 0, 260, .inl c36)), ((r 37), .inl (G.2 0, 260, .inl c37)), ((r 38), .inl (G.2 0, 260, .inl c38)), ((r 39), .inl (G.2 0, 260, .inl c39)), ((r 41), .inl (G.2 0, 840, .inl c41)), ((r 42), .inl (G.2 0, 840, .inl c42)), ((r 45), .inl (G.2 0, 9, .inl d45)), ((r 46), .inl (G.2 0, 400, .inl d46)), ((r 48), .inl (G.2 0, 71, .inl c48)), ((r 49), .inl (G.2 0, 71, .inl d49)), ((r 58), .inl (G.2 0, 42, .inl d58)), ((r 59), .inl (G.2 0, 896, .inl d59))] ∧ (∃ W9 M9 : Nat → Int32, (∀ i j, i < pp → j < pq → (fun pe pa v => ∃ τ, zy_q 71 c48 τ ∧ ((τ (14 + pe) = 1 ∧ v = -1) ∨ (¬ τ (14 + pe) = 1 ∧ ∃ c, (∀ Λ, (zr_HD lv c32 c33 c35 c36 c37 c38 c39 c41 c42 (c30 lv)) Λ → c = zHr (fun i => zr_ro (nI i) (c48 pe)) (fun i => ¬ zr_Sx 99 lv (upd τ pe (nI i)) c24 c28 c25 c29 (Λ 0) pe pa < c30 lv) 24) ∧ v = if c = 100000 then -1 else c))) i j (W9 (6 * i + j))) ∧ zg_J (zg_b (fun x y => if y < x then y else x) (fun t y => t + y) 100000 0 (fun a p => ¬ W9 (6 * a + p) < 0) (fun a p => W9 (6 * a + p)) pp pq) pq 0 M9 ∧ rv = if M9 0 < 100000 then M9 0 else -2)) := by
  refine zz_enteri (by decide +kernel) (Nat.le_of_ble_eq_true rfl) ?_
  intro p e s m args below meth c A Q ls S hnm hret hw hl
  have hl : lv_has ls 5 [(0, .ref (r 0))] := hl
  have hx := S.1
  have hb := S.2.1
  refine lv_aload_n hx hb dX10_whole_0 rfl (lv_at hl 0 rfl) ?_
  refine zz_callV (qb := 0) (As := []) (rest := []) (wr := [((r 22), .inl (G.2 0, 2, .inl c22)), ((r 24), .inl (G.2 0, 14, .inl c24)), ((r 25), .inl (G.2 0, 14, .inl c25)), ((r 26), .inl (G.2 0, 2, .inl c26)), ((r 28), .inl (G.2 0, 12, .inl c28)), ((r 29), .inl (G.2 0, 12, .inl c29)), ((r 30), .inl (G.2 0, 2, .inl c30)), ((r 32), .inl (G.2 0, 8, .inl c32)), ((r 33), .inl (G.2 0, 8, .inl c33)), ((r 35), .inl (G.2 2, 260, .inl c35)), ((r 36), .inl (G.2 0, 260, .inl c36)), ((r 37), .inl (G.2 0, 260, .inl c37)), ((r 38), .inl (G.2 0, 260, .inl c38)), ((r 39), .inl (G.2 0, 260, .inl c39)), ((r 41), .inl (G.2 0, 840, .inl c41)), ((r 42), .inl (G.2 0, 840, .inl c42)), ((r 45), .inl (G.2 0, 9, .inl c45)), ((r 46), .inl (G.2 0, 400, .inl c46)), ((r 58), .inl (G.2 0, 42, .inl c58)), ((r 59), .inl (G.2 0, 896, .inl c59))]) S hw hl.1 lX10_323 (c_x_copies l G r j0 j2 j4 j10 j11 j12 j13 j14 j15 j16 j17 j19 j20 j34 j40 j44 j47 j50 j51 j56 j61 lv c31 c48 c49 (by first | assumption | omega | exact Or.inr ⟨_, by omega, rfl⟩ | (unfold zz_sok; decide) | decide | exact (fun j hj => (hv7 j hj).1))) ⟨Nat.le_of_ble_eq_true rfl, Nat.le_of_ble_eq_true rfl⟩ ⟨Nat.le_of_ble_eq_true rfl, Nat.le_of_ble_eq_true rfl⟩ [0, 8, 20, 21] [1, 2, 3, 4, 5, 6, 7, 9, 10, 11, 12, 13, 14, 15, 16, 17, 18, 19, 22, 23] (by decide +kernel) rfl rfl (by decide +kernel) (by decide +kernel) rfl rfl rfl rfl (Nat.le_of_ble_eq_true rfl) dX10_whole_1 ?_
  clear hw
  intro rr u H locs hp hw
  refine hp.elim fun k50_1 zg0 => zg0.elim fun k51_2 zg1 => zg1.elim fun d49_3 zg2 => zg2.elim fun zee1 zg3 => zg3.elim fun zee2 zg4 => zg4.elim fun hq1_0 zg5 => zg5.elim fun hq1_1 hq1_2 => ?_
  clear hp zg0 zg1 zg2 zg3 zg4 zg5
  subst zee1
  subst zee2
  replace hw : zz_w G A s [((r 22), .inl (G.2 0, 2, .inl c22)), ((r 24), .inl (G.2 0, 14, .inl c24)), ((r 25), .inl (G.2 0, 14, .inl c25)), ((r 26), .inl (G.2 0, 2, .inl c26)), ((r 28), .inl (G.2 0, 12, .inl c28)), ((r 29), .inl (G.2 0, 12, .inl c29)), ((r 30), .inl (G.2 0, 2, .inl c30)), ((r 32), .inl (G.2 0, 8, .inl c32)), ((r 33), .inl (G.2 0, 8, .inl c33)), ((r 35), .inl (G.2 2, 260, .inl c35)), ((r 36), .inl (G.2 0, 260, .inl c36)), ((r 37), .inl (G.2 0, 260, .inl c37)), ((r 38), .inl (G.2 0, 260, .inl c38)), ((r 39), .inl (G.2 0, 260, .inl c39)), ((r 41), .inl (G.2 0, 840, .inl c41)), ((r 42), .inl (G.2 0, 840, .inl c42)), ((r 45), .inl (G.2 0, 9, .inl c45)), ((r 46), .inl (G.2 0, 400, .inl c46)), ((r 58), .inl (G.2 0, 42, .inl c58)), ((r 59), .inl (G.2 0, 896, .inl c59)), ((r 0), .inr (10, (zz_mo r [(0, j0), (2, j2), (4, j4), (10, j10), (11, j11), (12, j12), (13, j13), (14, j14), (15, j15), (16, j16), (17, j17), (18, (nI lv)), (19, j19), (20, j20), (34, j34), (40, j40), (44, j44), (47, j47), (50, k50_1), (51, k51_2), (56, j56), (61, j61)]))), ((r 31), .inl (G.2 0, 2, .inl c31)), ((r 48), .inl (G.2 0, 71, .inl c48)), ((r 49), .inl (G.2 0, 71, .inl d49_3))] H _ := hw
  refine W.eq (g2 := F0 m 4 ls []) rfl ?_
  refine lv_iconst (v := 0) hx hb dX10_whole_4 (by decide) ?_
  refine lv_istore_n (lv' := [(1, .int 0), (0, .ref (r 0))]) hx hb dX10_whole_5 rfl hl (by decide) rfl (fun ls hl => ?_)
  have lp6_758 : ∀ (vn5 vi4 : Nat) (vF419 : Nat → Int32) (vF420 : Nat → Int32) (vF421 : Nat → Int32) (vy422 : Int32) (vF423 : Nat → Int32) (H : Heap) (locs : List Loc) (ls : Array Slot), vi4 ≤ pp → pp < vi4 + vn5 → zy_q 71 c48 vF423 → zg_PT (fun pe pa v => ∃ τ, zy_q 71 c48 τ ∧ ((τ (14 + pe) = 1 ∧ v = -1) ∨ (¬ τ (14 + pe) = 1 ∧ ∃ c, (∀ Λ, (zr_HD lv c32 c33 c35 c36 c37 c38 c39 c41 c42 (c30 lv)) Λ → c = zHr (fun i => zr_ro (nI i) (c48 pe)) (fun i => ¬ zr_Sx 99 lv (upd τ pe (nI i)) c24 c28 c25 c29 (Λ 0) pe pa < c30 lv) 24) ∧ v = if c = 100000 then -1 else c))) pq vi4 0 vF421 → zz_w G A s [((r 22), .inl (G.2 0, 2, .inl c22)), ((r 24), .inl (G.2 0, 14, .inl c24)), ((r 25), .inl (G.2 0, 14, .inl c25)), ((r 26), .inl (G.2 0, 2, .inl c26)), ((r 28), .inl (G.2 0, 12, .inl c28)), ((r 29), .inl (G.2 0, 12, .inl c29)), ((r 30), .inl (G.2 0, 2, .inl c30)), ((r 32), .inl (G.2 0, 8, .inl c32)), ((r 33), .inl (G.2 0, 8, .inl c33)), ((r 35), .inl (G.2 2, 260, .inl c35)), ((r 36), .inl (G.2 0, 260, .inl c36)), ((r 37), .inl (G.2 0, 260, .inl c37)), ((r 38), .inl (G.2 0, 260, .inl c38)), ((r 39), .inl (G.2 0, 260, .inl c39)), ((r 41), .inl (G.2 0, 840, .inl c41)), ((r 42), .inl (G.2 0, 840, .inl c42)), ((r 45), .inl (G.2 0, 9, .inl vF419)), ((r 46), .inl (G.2 0, 400, .inl vF420)), ((r 58), .inl (G.2 0, 42, .inl vF421)), ((r 59), .inl (G.2 0, 896, .inl c59)), ((r 0), .inr (10, (zz_mo r [(0, j0), (2, j2), (4, j4), (10, j10), (11, j11), (12, j12), (13, j13), (14, j14), (15, j15), (16, j16), (17, j17), (18, (nI lv)), (19, j19), (20, j20), (34, j34), (40, j40), (44, j44), (47, vy422), (50, k50_1), (51, k51_2), (56, j56), (61, j61)]))), ((r 31), .inl (G.2 0, 2, .inl c31)), ((r 48), .inl (G.2 0, 71, .inl c48)), ((r 49), .inl (G.2 0, 71, .inl vF423))] H locs → lv_has ls 5 [(1, .int (nI vi4)), (0, .ref (r 0))] → W p l e (zz_rm 5 0 0) s m args below meth c H locs (0) (0) Q (F0 m 6 ls []) := by
    intro vn5
    induction vn5 with
    | zero => intro vi4 vF419 vF420 vF421 vy422 vF423 H locs ls hi1 hi2; exact absurd hi2 (by omega)
    | succ vn5 ih6 =>
      intro vi4 vF419 vF420 vF421 vy422 vF423 H locs ls hi6a hi6b hv6_756 hv6_757 hw hl
      refine lv_iload_n hx hb dX10_whole_6 rfl (lv_at hl 0 rfl) ?_
      refine lv_aload_n hx hb dX10_whole_7 rfl (lv_at hl 1 rfl) ?_
      refine zz_get (v := .ref (r 22)) S hw fgX10_43 20 rfl rfl dX10_whole_8 ?_
      refine lv_aload_n hx hb dX10_whole_11 rfl (lv_at hl 1 rfl) ?_
      refine zz_get (v := .int (nI lv)) S hw fgX10_236 20 rfl rfl dX10_whole_12 ?_
      refine zz_iald (v := (nI pp)) S hw 0 rfl (vp_in_nI (n := lv) (by omega) (by decide)) (by rw [show ((nI lv) : Int32).toNatClampNeg = lv from nI_clamp (n := lv) (by omega)]; exact hpe) dX10_whole_15 ?_
      refine lv_icmp_ge (tgt := 90) hx hb dX10_whole_16 (by decide) (fun c16_759 => ?_) (fun c16_759 => ?_)
      · skip
        have c16_759n : pp ≤ vi4 := (zz_le (a := pp) (b := vi4) rfl rfl (by omega) (by omega)).mp c16_759
        refine lv_aload_n hx hb dX10_whole_90 rfl (lv_at hl 1 rfl) ?_
        refine lv_iconst (v := 0) hx hb dX10_whole_91 (by decide) ?_
        refine zz_callV (qb := 20) (As := [.int 0]) (rest := []) (wr := [((r 22), .inl (G.2 0, 2, .inl c22)), ((r 24), .inl (G.2 0, 14, .inl c24)), ((r 25), .inl (G.2 0, 14, .inl c25)), ((r 28), .inl (G.2 0, 12, .inl c28)), ((r 29), .inl (G.2 0, 12, .inl c29)), ((r 30), .inl (G.2 0, 2, .inl c30)), ((r 32), .inl (G.2 0, 8, .inl c32)), ((r 33), .inl (G.2 0, 8, .inl c33)), ((r 35), .inl (G.2 2, 260, .inl c35)), ((r 36), .inl (G.2 0, 260, .inl c36)), ((r 37), .inl (G.2 0, 260, .inl c37)), ((r 38), .inl (G.2 0, 260, .inl c38)), ((r 39), .inl (G.2 0, 260, .inl c39)), ((r 41), .inl (G.2 0, 840, .inl c41)), ((r 42), .inl (G.2 0, 840, .inl c42)), ((r 45), .inl (G.2 0, 9, .inl vF419)), ((r 46), .inl (G.2 0, 400, .inl vF420)), ((r 58), .inl (G.2 0, 42, .inl vF421)), ((r 31), .inl (G.2 0, 2, .inl c31)), ((r 48), .inl (G.2 0, 71, .inl c48)), ((r 49), .inl (G.2 0, 71, .inl vF423))]) S hw hl.1 lX10_406 (c_x_ends l G r j0 j2 j4 j10 j11 j12 j13 j14 j15 j16 j17 j19 j20 j34 j40 j44 vy422 k50_1 k51_2 j56 j61 lv pq c26 c59 0 (by first | assumption | omega | exact Or.inr ⟨_, by omega, rfl⟩ | (unfold zz_sok; decide) | decide | exact (fun j hj => (hv7 j hj).1)) (by first | assumption | omega | exact Or.inr ⟨_, by omega, rfl⟩ | (unfold zz_sok; decide) | decide | exact (fun j hj => (hv7 j hj).1)) (by first | assumption | omega | exact Or.inr ⟨_, by omega, rfl⟩ | (unfold zz_sok; decide) | decide | exact (fun j hj => (hv7 j hj).1))) ⟨Nat.le_of_ble_eq_true rfl, Nat.le_of_ble_eq_true rfl⟩ ⟨Nat.le_of_ble_eq_true rfl, Nat.le_of_ble_eq_true rfl⟩ [20, 3, 19] [0, 1, 2, 4, 5, 6, 7, 8, 9, 10, 11, 12, 13, 14, 15, 16, 17, 18, 21, 22, 23] (by decide +kernel) rfl rfl (by decide +kernel) (by decide +kernel) rfl rfl rfl rfl (Nat.le_of_ble_eq_true rfl) dX10_whole_92 ?_
        clear hw
        intro rr u H locs hp hw
        refine hp.elim fun d59_760 zg0 => zg0.elim fun zee1 zg1 => zg1.elim fun zee2 hq92_0 => ?_
        clear hp zg0 zg1
        subst zee1
        subst zee2
        replace hw : zz_w G A s [((r 22), .inl (G.2 0, 2, .inl c22)), ((r 24), .inl (G.2 0, 14, .inl c24)), ((r 25), .inl (G.2 0, 14, .inl c25)), ((r 28), .inl (G.2 0, 12, .inl c28)), ((r 29), .inl (G.2 0, 12, .inl c29)), ((r 30), .inl (G.2 0, 2, .inl c30)), ((r 32), .inl (G.2 0, 8, .inl c32)), ((r 33), .inl (G.2 0, 8, .inl c33)), ((r 35), .inl (G.2 2, 260, .inl c35)), ((r 36), .inl (G.2 0, 260, .inl c36)), ((r 37), .inl (G.2 0, 260, .inl c37)), ((r 38), .inl (G.2 0, 260, .inl c38)), ((r 39), .inl (G.2 0, 260, .inl c39)), ((r 41), .inl (G.2 0, 840, .inl c41)), ((r 42), .inl (G.2 0, 840, .inl c42)), ((r 45), .inl (G.2 0, 9, .inl vF419)), ((r 46), .inl (G.2 0, 400, .inl vF420)), ((r 58), .inl (G.2 0, 42, .inl vF421)), ((r 31), .inl (G.2 0, 2, .inl c31)), ((r 48), .inl (G.2 0, 71, .inl c48)), ((r 49), .inl (G.2 0, 71, .inl vF423)), ((r 0), .inr (10, (zz_mo r [(0, j0), (2, j2), (4, j4), (10, j10), (11, j11), (12, j12), (13, j13), (14, j14), (15, j15), (16, j16), (17, j17), (18, (nI lv)), (19, j19), (20, j20), (34, j34), (40, j40), (44, j44), (47, vy422), (50, k50_1), (51, k51_2), (56, j56), (61, j61)]))), ((r 26), .inl (G.2 0, 2, .inl c26)), ((r 59), .inl (G.2 0, 896, .inl d59_760))] H _ := hw
        refine W.eq (g2 := F0 m 95 ls []) rfl ?_
        refine lv_aload_n hx hb dX10_whole_95 rfl (lv_at hl 1 rfl) ?_
        refine W.eq (g2 := F0 m 96 ls [.ref (r 0)]) rfl ?_
        refine zz_get (v := .ref (r 26)) S hw fgX10_55 21 rfl rfl dX10_whole_96 ?_
        refine lv_aload_n hx hb dX10_whole_99 rfl (lv_at hl 1 rfl) ?_
        refine zz_get (v := .int (nI lv)) S hw fgX10_236 21 rfl rfl dX10_whole_100 ?_
        refine zz_iald (v := (nI pq)) S hw 22 rfl (vp_in_nI (n := lv) (by omega) (by decide)) (by rw [show ((nI lv) : Int32).toNatClampNeg = lv from nI_clamp (n := lv) (by omega)]; exact hpa) dX10_whole_103 ?_
        refine lv_iconst (v := 1) hx hb dX10_whole_104 (by decide) ?_
        refine lv_isub hx hb dX10_whole_105 ?_
        refine zz_topi (y := (zz_pm pq)) (zz_pms _) ?_
        refine lv_istore_n (lv' := [(1, .int (zz_pm pq)), (0, .ref (r 0))]) hx hb dX10_whole_106 rfl hl (by decide) rfl (fun ls hl => ?_)
        have lp107_956 : ∀ (vp761 : Nat) (vF858 : Nat → Int32) (H : Heap) (locs : List Loc) (ls : Array Slot), vp761 ≤ pq → zg_J (zg_b (fun x y => if y < x then y else x) (fun t y => t + y) 100000 0 (fun a p => ¬ vF421 (6 * a + p) < 0) (fun a p => vF421 (6 * a + p)) pp pq) pq vp761 vF858 → zz_w G A s [((r 22), .inl (G.2 0, 2, .inl c22)), ((r 24), .inl (G.2 0, 14, .inl c24)), ((r 25), .inl (G.2 0, 14, .inl c25)), ((r 28), .inl (G.2 0, 12, .inl c28)), ((r 29), .inl (G.2 0, 12, .inl c29)), ((r 30), .inl (G.2 0, 2, .inl c30)), ((r 32), .inl (G.2 0, 8, .inl c32)), ((r 33), .inl (G.2 0, 8, .inl c33)), ((r 35), .inl (G.2 2, 260, .inl c35)), ((r 36), .inl (G.2 0, 260, .inl c36)), ((r 37), .inl (G.2 0, 260, .inl c37)), ((r 38), .inl (G.2 0, 260, .inl c38)), ((r 39), .inl (G.2 0, 260, .inl c39)), ((r 41), .inl (G.2 0, 840, .inl c41)), ((r 42), .inl (G.2 0, 840, .inl c42)), ((r 45), .inl (G.2 0, 9, .inl vF419)), ((r 46), .inl (G.2 0, 400, .inl vF420)), ((r 58), .inl (G.2 0, 42, .inl vF421)), ((r 31), .inl (G.2 0, 2, .inl c31)), ((r 48), .inl (G.2 0, 71, .inl c48)), ((r 49), .inl (G.2 0, 71, .inl vF423)), ((r 0), .inr (10, (zz_mo r [(0, j0), (2, j2), (4, j4), (10, j10), (11, j11), (12, j12), (13, j13), (14, j14), (15, j15), (16, j16), (17, j17), (18, (nI lv)), (19, j19), (20, j20), (34, j34), (40, j40), (44, j44), (47, vy422), (50, k50_1), (51, k51_2), (56, j56), (61, j61)]))), ((r 26), .inl (G.2 0, 2, .inl c26)), ((r 59), .inl (G.2 0, 896, .inl vF858))] H locs → lv_has ls 5 [(1, .int (zz_pm vp761)), (0, .ref (r 0))] → W p l e (zz_rm 5 0 0) s m args below meth c H locs (0) (0) Q (F0 m 107 ls []) := by
          intro vp761
          induction vp761 with
          | zero =>
            intro vF858 H locs ls hp107 hv107_955 hw hl
            have hl : lv_has ls 5 [(1, .int (-1)), (0, .ref (r 0))] := hl
            refine lv_iload_n hx hb dX10_whole_107 rfl (lv_at hl 0 rfl) ?_
            refine lv_if_lt (tgt := 230) hx hb dX10_whole_108 (by decide) (fun _ => ?_) (fun cc => absurd cc (by decide))
            refine lv_aload_n hx hb dX10_whole_230 rfl (lv_at hl 1 rfl) ?_
            refine zz_get (v := .ref (r 59)) S hw fgX10_134 21 rfl rfl dX10_whole_231 ?_
            refine lv_iconst (v := 0) hx hb dX10_whole_234 (by decide) ?_
            refine zz_iald (v := (vF858 0)) S hw 23 rfl (vp_in_nI (n := 0) (by decide) (by decide)) (congrArg vF858 (nI_clamp (n := 0) (by omega))) dX10_whole_235 ?_
            refine lv_ldcw (v := 100000) hx hb S.2.2.2.1 (S.2.2.2.2 _ (zz_c7 147 rfl rfl)) dX10_whole_236 ?_
            refine W.eq (g2 := F0 m 239 ls [.int 100000, .int (vF858 0)]) rfl ?_
            refine lv_icmp_lt (tgt := 247) hx hb dX10_whole_239 (by decide) (fun c239_957 => ?_) (fun c239_957 => ?_)
            · skip
              refine lv_aload_n hx hb dX10_whole_247 rfl (lv_at hl 1 rfl) ?_
              refine zz_get (v := .ref (r 59)) S hw fgX10_134 21 rfl rfl dX10_whole_248 ?_
              refine lv_iconst (v := 0) hx hb dX10_whole_251 (by decide) ?_
              refine zz_iald (v := (vF858 0)) S hw 23 rfl (vp_in_nI (n := 0) (by decide) (by decide)) (congrArg vF858 (nI_clamp (n := 0) (by omega))) dX10_whole_252 ?_
              exact hret _ _ _ _ _ _ ⟨(vF858 0), vy422, k50_1, k51_2, vF419, vF420, vF423, vF421, vF858, rfl, rfl, (by first | exact ⟨_, _, zg_p3 hv6_757 (by omega), hv107_955, zg_e1 (by first | assumption | exact Int32.not_le.mp (by assumption))⟩ | exact ⟨_, _, zg_p3 hv6_757 (by omega), hv107_955, zg_e2 (by first | assumption | exact Int32.not_lt.mpr (by assumption))⟩)⟩ (hw.sub [21, 0, 1, 2, 22, 3, 4, 5, 18, 6, 7, 8, 9, 10, 11, 12, 13, 14, 15, 16, 19, 20, 17, 23] (by decide +kernel) rfl) rfl dX10_whole_253
            · skip
              refine lv_bipush (v := (-2)) hx hb dX10_whole_242 (by decide) ?_
              refine lv_goto (tgt := 253) hx hb dX10_whole_244 (by decide) ?_
              exact hret _ _ _ _ _ _ ⟨(-2), vy422, k50_1, k51_2, vF419, vF420, vF423, vF421, vF858, rfl, rfl, (by first | exact ⟨_, _, zg_p3 hv6_757 (by omega), hv107_955, zg_e1 (by first | assumption | exact Int32.not_le.mp (by assumption))⟩ | exact ⟨_, _, zg_p3 hv6_757 (by omega), hv107_955, zg_e2 (by first | assumption | exact Int32.not_lt.mpr (by assumption))⟩)⟩ (hw.sub [21, 0, 1, 2, 22, 3, 4, 5, 18, 6, 7, 8, 9, 10, 11, 12, 13, 14, 15, 16, 19, 20, 17, 23] (by decide +kernel) rfl) rfl dX10_whole_253
          | succ vp761 ih107 =>
            intro vF858 H locs ls hp107 hv107_955 hw hl
            have hl : lv_has ls 5 [(1, .int (nI vp761)), (0, .ref (r 0))] := hl
            refine lv_iload_n hx hb dX10_whole_107 rfl (lv_at hl 0 rfl) ?_
            refine lv_if_lt (tgt := 230) hx hb dX10_whole_108 (by decide) (fun cc => absurd cc (nI_pos (n := vp761) (by omega))) (fun _ => ?_)
            refine lv_iconst (v := 0) hx hb dX10_whole_111 (by decide) ?_
            refine lv_istore_n (lv' := [(2, .int 0), (1, .int (nI vp761)), (0, .ref (r 0))]) hx hb dX10_whole_112 rfl hl (by decide) rfl (fun ls hl => ?_)
            have lp113_1023 : ∀ (vn959 vi958 : Nat) (vF990 : Nat → Int32) (H : Heap) (locs : List Loc) (ls : Array Slot), vi958 ≤ 128 → 128 < vi958 + vn959 → zg_J (zg_b (fun x y => if y < x then y else x) (fun t y => t + y) 100000 0 (fun a p => ¬ vF421 (6 * a + p) < 0) (fun a p => vF421 (6 * a + p)) pp pq) pq (vp761 + 1) vF990 → (∀ s, s < vi958 → vF990 (128 * vp761 + s) = zg_b (fun x y => if y < x then y else x) (fun t y => t + y) 100000 0 (fun a p => ¬ vF421 (6 * a + p) < 0) (fun a p => vF421 (6 * a + p)) pp pq (pq - vp761) s) → zz_w G A s [((r 22), .inl (G.2 0, 2, .inl c22)), ((r 24), .inl (G.2 0, 14, .inl c24)), ((r 25), .inl (G.2 0, 14, .inl c25)), ((r 28), .inl (G.2 0, 12, .inl c28)), ((r 29), .inl (G.2 0, 12, .inl c29)), ((r 30), .inl (G.2 0, 2, .inl c30)), ((r 32), .inl (G.2 0, 8, .inl c32)), ((r 33), .inl (G.2 0, 8, .inl c33)), ((r 35), .inl (G.2 2, 260, .inl c35)), ((r 36), .inl (G.2 0, 260, .inl c36)), ((r 37), .inl (G.2 0, 260, .inl c37)), ((r 38), .inl (G.2 0, 260, .inl c38)), ((r 39), .inl (G.2 0, 260, .inl c39)), ((r 41), .inl (G.2 0, 840, .inl c41)), ((r 42), .inl (G.2 0, 840, .inl c42)), ((r 45), .inl (G.2 0, 9, .inl vF419)), ((r 46), .inl (G.2 0, 400, .inl vF420)), ((r 58), .inl (G.2 0, 42, .inl vF421)), ((r 31), .inl (G.2 0, 2, .inl c31)), ((r 48), .inl (G.2 0, 71, .inl c48)), ((r 49), .inl (G.2 0, 71, .inl vF423)), ((r 0), .inr (10, (zz_mo r [(0, j0), (2, j2), (4, j4), (10, j10), (11, j11), (12, j12), (13, j13), (14, j14), (15, j15), (16, j16), (17, j17), (18, (nI lv)), (19, j19), (20, j20), (34, j34), (40, j40), (44, j44), (47, vy422), (50, k50_1), (51, k51_2), (56, j56), (61, j61)]))), ((r 26), .inl (G.2 0, 2, .inl c26)), ((r 59), .inl (G.2 0, 896, .inl vF990))] H locs → lv_has ls 5 [(2, .int (nI vi958)), (1, .int (nI vp761)), (0, .ref (r 0))] → W p l e (zz_rm 5 0 0) s m args below meth c H locs (0) (0) Q (F0 m 113 ls []) := by
              intro vn959
              induction vn959 with
              | zero => intro vi958 vF990 H locs ls hi1 hi2; exact absurd hi2 (by omega)
              | succ vn959 ih113 =>
                intro vi958 vF990 H locs ls hi113a hi113b hv113_1021 hv113_1022 hw hl
                refine lv_iload_n hx hb dX10_whole_113 rfl (lv_at hl 0 rfl) ?_
                refine lv_sipush (v := 128) hx hb dX10_whole_114 (by decide) ?_
                refine lv_icmp_ge (tgt := 224) hx hb dX10_whole_117 (by decide) (fun c117_1024 => ?_) (fun c117_1024 => ?_)
                · skip
                  have c117_1024n : 128 ≤ vi958 := (zz_le (a := 128) (b := vi958) rfl rfl (by omega) (by omega)).mp c117_1024
                  refine lv_iinc (v := (zz_pm vp761)) (lv' := [(1, .int (zz_pm vp761)), (2, .int (nI vi958)), (0, .ref (r 0))]) hx hb dX10_whole_224 hl (k := 1) rfl (zz_pmd _) (by decide) rfl (fun ls hl => ?_)
                  refine lv_goto (tgt := 107) hx hb dX10_whole_227 (by decide) ?_
                  refine W.eq (g2 := F0 m 107 ls []) rfl ?_
                  exact ih107 vF990 _ _ _ (by omega) (zg_j3 hv113_1021 hv113_1022 (by omega)) hw (lv_sub hl [0, 2] rfl)
                · skip
                  have c117_1024n : ¬ (128 ≤ vi958) := fun z => c117_1024 ((zz_le (a := 128) (b := vi958) rfl rfl (by omega) (by omega)).mpr z)
                  refine lv_ldcw (v := 100000) hx hb S.2.2.2.1 (S.2.2.2.2 _ (zz_c7 147 rfl rfl)) dX10_whole_120 ?_
                  refine lv_istore_n (lv' := [(3, .int 100000), (2, .int (nI vi958)), (1, .int (nI vp761)), (0, .ref (r 0))]) hx hb dX10_whole_123 rfl hl (by decide) rfl (fun ls hl => ?_)
                  refine lv_iconst (v := 0) hx hb dX10_whole_124 (by decide) ?_
                  refine lv_istore (lv' := [(4, .int 0), (3, .int 100000), (2, .int (nI vi958)), (1, .int (nI vp761)), (0, .ref (r 0))]) hx hb dX10_whole_125 hl (by decide) rfl (fun ls hl => ?_)
                  have lp127_1045 : ∀ (vn1026 vi1025 : Nat) (vy1035 : Int32) (H : Heap) (locs : List Loc) (ls : Array Slot), vi1025 ≤ pp → pp < vi1025 + vn1026 → vy1035 = zg_x (fun x y => if y < x then y else x) 100000 (fun a => zm_bit (nI vi958) (nI a) = 0 ∧ ¬ vF421 (6 * a + vp761) < 0) (fun a => (fun t y => t + y) (vF421 (6 * a + vp761)) (vF990 (128 * vp761 + 128 + zj_u vi958 a))) vi1025 → zz_w G A s [((r 22), .inl (G.2 0, 2, .inl c22)), ((r 24), .inl (G.2 0, 14, .inl c24)), ((r 25), .inl (G.2 0, 14, .inl c25)), ((r 28), .inl (G.2 0, 12, .inl c28)), ((r 29), .inl (G.2 0, 12, .inl c29)), ((r 30), .inl (G.2 0, 2, .inl c30)), ((r 32), .inl (G.2 0, 8, .inl c32)), ((r 33), .inl (G.2 0, 8, .inl c33)), ((r 35), .inl (G.2 2, 260, .inl c35)), ((r 36), .inl (G.2 0, 260, .inl c36)), ((r 37), .inl (G.2 0, 260, .inl c37)), ((r 38), .inl (G.2 0, 260, .inl c38)), ((r 39), .inl (G.2 0, 260, .inl c39)), ((r 41), .inl (G.2 0, 840, .inl c41)), ((r 42), .inl (G.2 0, 840, .inl c42)), ((r 45), .inl (G.2 0, 9, .inl vF419)), ((r 46), .inl (G.2 0, 400, .inl vF420)), ((r 58), .inl (G.2 0, 42, .inl vF421)), ((r 31), .inl (G.2 0, 2, .inl c31)), ((r 48), .inl (G.2 0, 71, .inl c48)), ((r 49), .inl (G.2 0, 71, .inl vF423)), ((r 0), .inr (10, (zz_mo r [(0, j0), (2, j2), (4, j4), (10, j10), (11, j11), (12, j12), (13, j13), (14, j14), (15, j15), (16, j16), (17, j17), (18, (nI lv)), (19, j19), (20, j20), (34, j34), (40, j40), (44, j44), (47, vy422), (50, k50_1), (51, k51_2), (56, j56), (61, j61)]))), ((r 26), .inl (G.2 0, 2, .inl c26)), ((r 59), .inl (G.2 0, 896, .inl vF990))] H locs → lv_has ls 5 [(4, .int (nI vi1025)), (3, .int vy1035), (2, .int (nI vi958)), (1, .int (nI vp761)), (0, .ref (r 0))] → W p l e (zz_rm 5 0 0) s m args below meth c H locs (0) (0) Q (F0 m 127 ls []) := by
                    intro vn1026
                    induction vn1026 with
                    | zero => intro vi1025 vy1035 H locs ls hi1 hi2; exact absurd hi2 (by omega)
                    | succ vn1026 ih127 =>
                      intro vi1025 vy1035 H locs ls hi127a hi127b hv127_1044 hw hl
                      refine lv_iload hx hb dX10_whole_127 (lv_at hl 0 rfl) ?_
                      refine lv_aload_n hx hb dX10_whole_129 rfl (lv_at hl 4 rfl) ?_
                      refine zz_get (v := .ref (r 22)) S hw fgX10_43 21 rfl rfl dX10_whole_130 ?_
                      refine lv_aload_n hx hb dX10_whole_133 rfl (lv_at hl 4 rfl) ?_
                      refine zz_get (v := .int (nI lv)) S hw fgX10_236 21 rfl rfl dX10_whole_134 ?_
                      refine zz_iald (v := (nI pp)) S hw 0 rfl (vp_in_nI (n := lv) (by omega) (by decide)) (by rw [show ((nI lv) : Int32).toNatClampNeg = lv from nI_clamp (n := lv) (by omega)]; exact hpe) dX10_whole_137 ?_
                      refine lv_icmp_ge (tgt := 205) hx hb dX10_whole_138 (by decide) (fun c138_1046 => ?_) (fun c138_1046 => ?_)
                      · skip
                        have c138_1046n : pp ≤ vi1025 := (zz_le (a := pp) (b := vi1025) rfl rfl (by omega) (by omega)).mp c138_1046
                        refine lv_aload_n hx hb dX10_whole_205 rfl (lv_at hl 4 rfl) ?_
                        refine zz_get (v := .ref (r 59)) S hw fgX10_134 21 rfl rfl dX10_whole_206 ?_
                        refine lv_sipush (v := 128) hx hb dX10_whole_209 (by decide) ?_
                        refine lv_iload_n hx hb dX10_whole_212 rfl (lv_at hl 3 rfl) ?_
                        refine W.eq (g2 := F0 m 213 ls [.int (nI vp761), .int 128, .ref (r 59)]) rfl ?_
                        refine lv_imul hx hb dX10_whole_213 ?_
                        refine zz_topi (y := (nI (128 * vp761))) (pk_mul _ _) ?_
                        refine lv_iload_n hx hb dX10_whole_214 rfl (lv_at hl 2 rfl) ?_
                        refine lv_iadd hx hb dX10_whole_215 ?_
                        refine zz_topi (y := (nI ((128 * vp761) + vi958))) (nI_add _ _) ?_
                        refine lv_iload_n hx hb dX10_whole_216 rfl (lv_at hl 1 rfl) ?_
                        refine zz_iast (ws' := [((r 22), .inl (G.2 0, 2, .inl c22)), ((r 24), .inl (G.2 0, 14, .inl c24)), ((r 25), .inl (G.2 0, 14, .inl c25)), ((r 28), .inl (G.2 0, 12, .inl c28)), ((r 29), .inl (G.2 0, 12, .inl c29)), ((r 30), .inl (G.2 0, 2, .inl c30)), ((r 32), .inl (G.2 0, 8, .inl c32)), ((r 33), .inl (G.2 0, 8, .inl c33)), ((r 35), .inl (G.2 2, 260, .inl c35)), ((r 36), .inl (G.2 0, 260, .inl c36)), ((r 37), .inl (G.2 0, 260, .inl c37)), ((r 38), .inl (G.2 0, 260, .inl c38)), ((r 39), .inl (G.2 0, 260, .inl c39)), ((r 41), .inl (G.2 0, 840, .inl c41)), ((r 42), .inl (G.2 0, 840, .inl c42)), ((r 45), .inl (G.2 0, 9, .inl vF419)), ((r 46), .inl (G.2 0, 400, .inl vF420)), ((r 58), .inl (G.2 0, 42, .inl vF421)), ((r 31), .inl (G.2 0, 2, .inl c31)), ((r 48), .inl (G.2 0, 71, .inl c48)), ((r 49), .inl (G.2 0, 71, .inl vF423)), ((r 0), .inr (10, (zz_mo r [(0, j0), (2, j2), (4, j4), (10, j10), (11, j11), (12, j12), (13, j13), (14, j14), (15, j15), (16, j16), (17, j17), (18, (nI lv)), (19, j19), (20, j20), (34, j34), (40, j40), (44, j44), (47, vy422), (50, k50_1), (51, k51_2), (56, j56), (61, j61)]))), ((r 26), .inl (G.2 0, 2, .inl c26)), ((r 59), .inl (G.2 0, 896, .inl (upd vF990 ((128 * vp761) + vi958) vy1035)))]) (g := (upd vF990 ((128 * vp761) + vi958) vy1035)) S hw 23 rfl (vp_in_nI (n := ((128 * vp761) + vi958)) (by omega) (by decide)) (zz_upn (n := ((128 * vp761) + vi958)) (by omega)) rfl dX10_whole_217 ?_
                        clear hw
                        intro H locs hw
                        refine lv_iinc (v := (nI (vi958 + 1))) (lv' := [(2, .int (nI (vi958 + 1))), (4, .int (nI vi1025)), (3, .int vy1035), (1, .int (nI vp761)), (0, .ref (r 0))]) hx hb dX10_whole_218 hl (k := 2) rfl (nI_add _ 1) (by decide) rfl (fun ls hl => ?_)
                        refine lv_goto (tgt := 113) hx hb dX10_whole_221 (by decide) ?_
                        exact ih113 (vi958 + 1) (upd vF990 ((128 * vp761) + vi958) vy1035) _ _ _ (by omega) (by omega) (zg_j1 hv113_1021 (by omega)) (zg_j2 hv113_1022 (zg_jt hv113_1021 hpp (by omega) (by omega) (zg_xe hv127_1044 (by omega)))) hw (lv_sub hl [0, 3, 4] rfl)
                      · skip
                        have c138_1046n : ¬ (pp ≤ vi1025) := fun z => c138_1046 ((zz_le (a := pp) (b := vi1025) rfl rfl (by omega) (by omega)).mpr z)
                        refine lv_aload_n hx hb dX10_whole_141 rfl (lv_at hl 4 rfl) ?_
                        refine lv_iload hx hb dX10_whole_142 (lv_at hl 0 rfl) ?_
                        refine lv_iload_n hx hb dX10_whole_144 rfl (lv_at hl 3 rfl) ?_
                        refine lv_iload_n hx hb dX10_whole_145 rfl (lv_at hl 2 rfl) ?_
                        refine zz_callV (qb := 21) (As := [.int (nI vi1025), .int (nI vp761), .int (nI vi958)]) (rest := []) (wr := [((r 22), .inl (G.2 0, 2, .inl c22)), ((r 24), .inl (G.2 0, 14, .inl c24)), ((r 25), .inl (G.2 0, 14, .inl c25)), ((r 28), .inl (G.2 0, 12, .inl c28)), ((r 29), .inl (G.2 0, 12, .inl c29)), ((r 30), .inl (G.2 0, 2, .inl c30)), ((r 32), .inl (G.2 0, 8, .inl c32)), ((r 33), .inl (G.2 0, 8, .inl c33)), ((r 35), .inl (G.2 2, 260, .inl c35)), ((r 36), .inl (G.2 0, 260, .inl c36)), ((r 37), .inl (G.2 0, 260, .inl c37)), ((r 38), .inl (G.2 0, 260, .inl c38)), ((r 39), .inl (G.2 0, 260, .inl c39)), ((r 41), .inl (G.2 0, 840, .inl c41)), ((r 42), .inl (G.2 0, 840, .inl c42)), ((r 45), .inl (G.2 0, 9, .inl vF419)), ((r 46), .inl (G.2 0, 400, .inl vF420)), ((r 31), .inl (G.2 0, 2, .inl c31)), ((r 48), .inl (G.2 0, 71, .inl c48)), ((r 49), .inl (G.2 0, 71, .inl vF423)), ((r 26), .inl (G.2 0, 2, .inl c26)), ((r 59), .inl (G.2 0, 896, .inl vF990))]) S hw hl.1 lX10_409 (c_x_isFree l G r j0 j2 j4 j10 j11 j12 j13 j14 j15 j16 j17 (nI lv) j19 j20 j34 j40 j44 vy422 k50_1 k51_2 j56 j61 vF421 vi1025 vp761 vi958 (by first | assumption | omega | exact Or.inr ⟨_, by omega, rfl⟩ | (unfold zz_sok; decide) | decide | exact (fun j hj => (hv7 j hj).1)) (by first | assumption | omega | exact Or.inr ⟨_, by omega, rfl⟩ | (unfold zz_sok; decide) | decide | exact (fun j hj => (hv7 j hj).1)) (by first | assumption | omega | exact Or.inr ⟨_, by omega, rfl⟩ | (unfold zz_sok; decide) | decide | exact (fun j hj => (hv7 j hj).1))) ⟨Nat.le_of_ble_eq_true rfl, Nat.le_of_ble_eq_true rfl⟩ ⟨Nat.le_of_ble_eq_true rfl, Nat.le_of_ble_eq_true rfl⟩ [21, 17] [0, 1, 2, 3, 4, 5, 6, 7, 8, 9, 10, 11, 12, 13, 14, 15, 16, 18, 19, 20, 22, 23] (by decide +kernel) rfl rfl (by decide +kernel) (by decide +kernel) rfl rfl rfl rfl (Nat.le_of_ble_eq_true rfl) dX10_whole_146 ?_
                        clear hw
                        intro rr u H locs hp hw
                        refine hp.elim fun rv_1047 zg0 => zg0.elim fun zee1 zg1 => zg1.elim fun zee2 zg2 => zg2.elim fun hq146_0 hq146_1 => ?_
                        clear hp zg0 zg1 zg2
                        subst zee1
                        subst zee2
                        replace hw : zz_w G A s [((r 22), .inl (G.2 0, 2, .inl c22)), ((r 24), .inl (G.2 0, 14, .inl c24)), ((r 25), .inl (G.2 0, 14, .inl c25)), ((r 28), .inl (G.2 0, 12, .inl c28)), ((r 29), .inl (G.2 0, 12, .inl c29)), ((r 30), .inl (G.2 0, 2, .inl c30)), ((r 32), .inl (G.2 0, 8, .inl c32)), ((r 33), .inl (G.2 0, 8, .inl c33)), ((r 35), .inl (G.2 2, 260, .inl c35)), ((r 36), .inl (G.2 0, 260, .inl c36)), ((r 37), .inl (G.2 0, 260, .inl c37)), ((r 38), .inl (G.2 0, 260, .inl c38)), ((r 39), .inl (G.2 0, 260, .inl c39)), ((r 41), .inl (G.2 0, 840, .inl c41)), ((r 42), .inl (G.2 0, 840, .inl c42)), ((r 45), .inl (G.2 0, 9, .inl vF419)), ((r 46), .inl (G.2 0, 400, .inl vF420)), ((r 31), .inl (G.2 0, 2, .inl c31)), ((r 48), .inl (G.2 0, 71, .inl c48)), ((r 49), .inl (G.2 0, 71, .inl vF423)), ((r 26), .inl (G.2 0, 2, .inl c26)), ((r 59), .inl (G.2 0, 896, .inl vF990)), ((r 0), .inr (10, (zz_mo r [(0, j0), (2, j2), (4, j4), (10, j10), (11, j11), (12, j12), (13, j13), (14, j14), (15, j15), (16, j16), (17, j17), (18, (nI lv)), (19, j19), (20, j20), (34, j34), (40, j40), (44, j44), (47, vy422), (50, k50_1), (51, k51_2), (56, j56), (61, j61)]))), ((r 58), .inl (G.2 0, 42, .inl vF421))] H _ := hw
                        refine W.eq (g2 := F0 m 149 ls [.int rv_1047]) rfl ?_
                        refine lv_if_eq (tgt := 199) hx hb dX10_whole_149 (by decide) (fun c149_1048 => ?_) (fun c149_1048 => ?_)
                        · skip
                          refine lv_iinc (v := (nI (vi1025 + 1))) (lv' := [(4, .int (nI (vi1025 + 1))), (3, .int vy1035), (2, .int (nI vi958)), (1, .int (nI vp761)), (0, .ref (r 0))]) hx hb dX10_whole_199 hl (k := 0) rfl (nI_add _ 1) (by decide) rfl (fun ls hl => ?_)
                          refine lv_goto (tgt := 127) hx hb dX10_whole_202 (by decide) ?_
                          refine W.eq (g2 := F0 m 127 ls []) rfl ?_
                          exact ih127 (vi1025 + 1) vy1035 _ _ _ (by omega) (by omega) (by first | exact zg_xn hv127_1044 (fun z => absurd (by assumption) (hq146_0.mpr z))) (hw.sub [0, 1, 2, 3, 4, 5, 6, 7, 8, 9, 10, 11, 12, 13, 14, 15, 16, 23, 17, 18, 19, 22, 20, 21] (by decide +kernel) rfl) (lv_sub hl [0, 1, 2, 3, 4] rfl)
                        · skip
                          refine lv_aload_n hx hb dX10_whole_152 rfl (lv_at hl 4 rfl) ?_
                          refine zz_get (v := .ref (r 58)) S hw fgX10_131 22 rfl rfl dX10_whole_153 ?_
                          refine lv_bipush (v := 6) hx hb dX10_whole_156 (by decide) ?_
                          refine lv_iload hx hb dX10_whole_158 (lv_at hl 0 rfl) ?_
                          refine lv_imul hx hb dX10_whole_160 ?_
                          refine zz_topi (y := (nI (6 * vi1025))) (pk_mul _ _) ?_
                          refine lv_iload_n hx hb dX10_whole_161 rfl (lv_at hl 3 rfl) ?_
                          refine lv_iadd hx hb dX10_whole_162 ?_
                          refine zz_topi (y := (nI ((6 * vi1025) + vp761))) (nI_add _ _) ?_
                          refine zz_iald (v := (vF421 ((6 * vi1025) + vp761))) S hw 23 rfl (vp_in_nI (n := ((6 * vi1025) + vp761)) (by omega) (by decide)) (congrArg vF421 (nI_clamp (n := ((6 * vi1025) + vp761)) (by omega))) dX10_whole_163 ?_
                          refine lv_aload_n hx hb dX10_whole_164 rfl (lv_at hl 4 rfl) ?_
                          refine lv_iload hx hb dX10_whole_165 (lv_at hl 0 rfl) ?_
                          refine lv_iload_n hx hb dX10_whole_167 rfl (lv_at hl 3 rfl) ?_
                          refine lv_iload_n hx hb dX10_whole_168 rfl (lv_at hl 2 rfl) ?_
                          refine zz_callV (qb := 22) (As := [.int (nI vi1025), .int (nI vp761), .int (nI vi958)]) (rest := [.int (vF421 ((6 * vi1025) + vp761))]) (wr := [((r 22), .inl (G.2 0, 2, .inl c22)), ((r 24), .inl (G.2 0, 14, .inl c24)), ((r 25), .inl (G.2 0, 14, .inl c25)), ((r 28), .inl (G.2 0, 12, .inl c28)), ((r 29), .inl (G.2 0, 12, .inl c29)), ((r 30), .inl (G.2 0, 2, .inl c30)), ((r 32), .inl (G.2 0, 8, .inl c32)), ((r 33), .inl (G.2 0, 8, .inl c33)), ((r 35), .inl (G.2 2, 260, .inl c35)), ((r 36), .inl (G.2 0, 260, .inl c36)), ((r 37), .inl (G.2 0, 260, .inl c37)), ((r 38), .inl (G.2 0, 260, .inl c38)), ((r 39), .inl (G.2 0, 260, .inl c39)), ((r 41), .inl (G.2 0, 840, .inl c41)), ((r 42), .inl (G.2 0, 840, .inl c42)), ((r 45), .inl (G.2 0, 9, .inl vF419)), ((r 46), .inl (G.2 0, 400, .inl vF420)), ((r 31), .inl (G.2 0, 2, .inl c31)), ((r 48), .inl (G.2 0, 71, .inl c48)), ((r 49), .inl (G.2 0, 71, .inl vF423)), ((r 26), .inl (G.2 0, 2, .inl c26)), ((r 58), .inl (G.2 0, 42, .inl vF421))]) S hw hl.1 lX10_412 (c_x_with l G r j0 j2 j4 j10 j11 j12 j13 j14 j15 j16 j17 (nI lv) j19 j20 j34 j40 j44 vy422 k50_1 k51_2 j56 j61 vF990 vi1025 vp761 vi958 (by first | assumption | omega | exact Or.inr ⟨_, by omega, rfl⟩ | (unfold zz_sok; decide) | decide | exact (fun j hj => (hv7 j hj).1)) (by first | assumption | omega | exact Or.inr ⟨_, by omega, rfl⟩ | (unfold zz_sok; decide) | decide | exact (fun j hj => (hv7 j hj).1)) (by first | assumption | omega | exact Or.inr ⟨_, by omega, rfl⟩ | (unfold zz_sok; decide) | decide | exact (fun j hj => (hv7 j hj).1))) ⟨Nat.le_of_ble_eq_true rfl, Nat.le_of_ble_eq_true rfl⟩ ⟨Nat.le_of_ble_eq_true rfl, Nat.le_of_ble_eq_true rfl⟩ [22, 21] [0, 1, 2, 3, 4, 5, 6, 7, 8, 9, 10, 11, 12, 13, 14, 15, 16, 17, 18, 19, 20, 23] (by decide +kernel) rfl rfl (by decide +kernel) (by decide +kernel) rfl rfl rfl rfl (Nat.le_of_ble_eq_true rfl) dX10_whole_169 ?_
                          clear hw
                          intro rr u H locs hp hw
                          refine hp.elim fun rv_1049 zg0 => zg0.elim fun zee1 zg1 => zg1.elim fun zee2 hq169_0 => ?_
                          clear hp zg0 zg1
                          subst zee1
                          subst zee2
                          replace hw : zz_w G A s [((r 22), .inl (G.2 0, 2, .inl c22)), ((r 24), .inl (G.2 0, 14, .inl c24)), ((r 25), .inl (G.2 0, 14, .inl c25)), ((r 28), .inl (G.2 0, 12, .inl c28)), ((r 29), .inl (G.2 0, 12, .inl c29)), ((r 30), .inl (G.2 0, 2, .inl c30)), ((r 32), .inl (G.2 0, 8, .inl c32)), ((r 33), .inl (G.2 0, 8, .inl c33)), ((r 35), .inl (G.2 2, 260, .inl c35)), ((r 36), .inl (G.2 0, 260, .inl c36)), ((r 37), .inl (G.2 0, 260, .inl c37)), ((r 38), .inl (G.2 0, 260, .inl c38)), ((r 39), .inl (G.2 0, 260, .inl c39)), ((r 41), .inl (G.2 0, 840, .inl c41)), ((r 42), .inl (G.2 0, 840, .inl c42)), ((r 45), .inl (G.2 0, 9, .inl vF419)), ((r 46), .inl (G.2 0, 400, .inl vF420)), ((r 31), .inl (G.2 0, 2, .inl c31)), ((r 48), .inl (G.2 0, 71, .inl c48)), ((r 49), .inl (G.2 0, 71, .inl vF423)), ((r 26), .inl (G.2 0, 2, .inl c26)), ((r 58), .inl (G.2 0, 42, .inl vF421)), ((r 0), .inr (10, (zz_mo r [(0, j0), (2, j2), (4, j4), (10, j10), (11, j11), (12, j12), (13, j13), (14, j14), (15, j15), (16, j16), (17, j17), (18, (nI lv)), (19, j19), (20, j20), (34, j34), (40, j40), (44, j44), (47, vy422), (50, k50_1), (51, k51_2), (56, j56), (61, j61)]))), ((r 59), .inl (G.2 0, 896, .inl vF990))] H _ := hw
                          refine W.eq (g2 := F0 m 172 ls [.int rv_1049, .int (vF421 ((6 * vi1025) + vp761))]) rfl ?_
                          refine lv_iadd hx hb dX10_whole_172 ?_
                          refine lv_topi (fun z1050 ez1050 => ?_)
                          refine W.eq (g2 := F0 m 173 ls [.int z1050]) rfl ?_
                          refine lv_iload_n hx hb dX10_whole_173 rfl (lv_at hl 1 rfl) ?_
                          refine lv_icmp_ge (tgt := 199) hx hb dX10_whole_174 (by decide) (fun c174_1051 => ?_) (fun c174_1051 => ?_)
                          · skip
                            refine lv_iinc (v := (nI (vi1025 + 1))) (lv' := [(4, .int (nI (vi1025 + 1))), (3, .int vy1035), (2, .int (nI vi958)), (1, .int (nI vp761)), (0, .ref (r 0))]) hx hb dX10_whole_199 hl (k := 0) rfl (nI_add _ 1) (by decide) rfl (fun ls hl => ?_)
                            refine lv_goto (tgt := 127) hx hb dX10_whole_202 (by decide) ?_
                            exact ih127 (vi1025 + 1) vy1035 _ _ _ (by omega) (by omega) (by first | exact zg_xn hv127_1044 (fun z => absurd (by assumption) (hq146_0.mpr z)) | exact zg_xy hv127_1044 (hq146_0.mp (by assumption)) (zj_ev ez1050 hq169_0) (zg_wn (by first | assumption | exact Int32.not_lt.mpr (by assumption)))) (hw.sub [0, 1, 2, 3, 4, 5, 6, 7, 8, 9, 10, 11, 12, 13, 14, 15, 16, 21, 17, 18, 19, 22, 20, 23] (by decide +kernel) rfl) (lv_sub hl [0, 1, 2, 3, 4] rfl)
                          · skip
                            refine lv_aload_n hx hb dX10_whole_177 rfl (lv_at hl 4 rfl) ?_
                            refine zz_get (v := .ref (r 58)) S hw fgX10_131 22 rfl rfl dX10_whole_178 ?_
                            refine lv_bipush (v := 6) hx hb dX10_whole_181 (by decide) ?_
                            refine lv_iload hx hb dX10_whole_183 (lv_at hl 0 rfl) ?_
                            refine lv_imul hx hb dX10_whole_185 ?_
                            refine zz_topi (y := (nI (6 * vi1025))) (pk_mul _ _) ?_
                            refine lv_iload_n hx hb dX10_whole_186 rfl (lv_at hl 3 rfl) ?_
                            refine lv_iadd hx hb dX10_whole_187 ?_
                            refine zz_topi (y := (nI ((6 * vi1025) + vp761))) (nI_add _ _) ?_
                            refine zz_iald (v := (vF421 ((6 * vi1025) + vp761))) S hw 21 rfl (vp_in_nI (n := ((6 * vi1025) + vp761)) (by omega) (by decide)) (congrArg vF421 (nI_clamp (n := ((6 * vi1025) + vp761)) (by omega))) dX10_whole_188 ?_
                            refine lv_aload_n hx hb dX10_whole_189 rfl (lv_at hl 4 rfl) ?_
                            refine lv_iload hx hb dX10_whole_190 (lv_at hl 0 rfl) ?_
                            refine lv_iload_n hx hb dX10_whole_192 rfl (lv_at hl 3 rfl) ?_
                            refine W.eq (g2 := F0 m 193 ls [.int (nI vp761), .int (nI vi1025), .ref (r 0), .int (vF421 ((6 * vi1025) + vp761))]) rfl ?_
                            refine lv_iload_n hx hb dX10_whole_193 rfl (lv_at hl 2 rfl) ?_
                            refine zz_callV (qb := 22) (As := [.int (nI vi1025), .int (nI vp761), .int (nI vi958)]) (rest := [.int (vF421 ((6 * vi1025) + vp761))]) (wr := [((r 22), .inl (G.2 0, 2, .inl c22)), ((r 24), .inl (G.2 0, 14, .inl c24)), ((r 25), .inl (G.2 0, 14, .inl c25)), ((r 28), .inl (G.2 0, 12, .inl c28)), ((r 29), .inl (G.2 0, 12, .inl c29)), ((r 30), .inl (G.2 0, 2, .inl c30)), ((r 32), .inl (G.2 0, 8, .inl c32)), ((r 33), .inl (G.2 0, 8, .inl c33)), ((r 35), .inl (G.2 2, 260, .inl c35)), ((r 36), .inl (G.2 0, 260, .inl c36)), ((r 37), .inl (G.2 0, 260, .inl c37)), ((r 38), .inl (G.2 0, 260, .inl c38)), ((r 39), .inl (G.2 0, 260, .inl c39)), ((r 41), .inl (G.2 0, 840, .inl c41)), ((r 42), .inl (G.2 0, 840, .inl c42)), ((r 45), .inl (G.2 0, 9, .inl vF419)), ((r 46), .inl (G.2 0, 400, .inl vF420)), ((r 31), .inl (G.2 0, 2, .inl c31)), ((r 48), .inl (G.2 0, 71, .inl c48)), ((r 49), .inl (G.2 0, 71, .inl vF423)), ((r 26), .inl (G.2 0, 2, .inl c26)), ((r 58), .inl (G.2 0, 42, .inl vF421))]) S hw hl.1 lX10_412 (c_x_with l G r j0 j2 j4 j10 j11 j12 j13 j14 j15 j16 j17 (nI lv) j19 j20 j34 j40 j44 vy422 k50_1 k51_2 j56 j61 vF990 vi1025 vp761 vi958 (by first | assumption | omega | exact Or.inr ⟨_, by omega, rfl⟩ | (unfold zz_sok; decide) | decide | exact (fun j hj => (hv7 j hj).1)) (by first | assumption | omega | exact Or.inr ⟨_, by omega, rfl⟩ | (unfold zz_sok; decide) | decide | exact (fun j hj => (hv7 j hj).1)) (by first | assumption | omega | exact Or.inr ⟨_, by omega, rfl⟩ | (unfold zz_sok; decide) | decide | exact (fun j hj => (hv7 j hj).1))) ⟨Nat.le_of_ble_eq_true rfl, Nat.le_of_ble_eq_true rfl⟩ ⟨Nat.le_of_ble_eq_true rfl, Nat.le_of_ble_eq_true rfl⟩ [22, 23] [0, 1, 2, 3, 4, 5, 6, 7, 8, 9, 10, 11, 12, 13, 14, 15, 16, 17, 18, 19, 20, 21] (by decide +kernel) rfl rfl (by decide +kernel) (by decide +kernel) rfl rfl rfl rfl (Nat.le_of_ble_eq_true rfl) dX10_whole_194 ?_
                            clear hw
                            intro rr u H locs hp hw
                            refine hp.elim fun rv_1052 zg0 => zg0.elim fun zee1 zg1 => zg1.elim fun zee2 hq194_0 => ?_
                            clear hp zg0 zg1
                            subst zee1
                            subst zee2
                            replace hw : zz_w G A s [((r 22), .inl (G.2 0, 2, .inl c22)), ((r 24), .inl (G.2 0, 14, .inl c24)), ((r 25), .inl (G.2 0, 14, .inl c25)), ((r 28), .inl (G.2 0, 12, .inl c28)), ((r 29), .inl (G.2 0, 12, .inl c29)), ((r 30), .inl (G.2 0, 2, .inl c30)), ((r 32), .inl (G.2 0, 8, .inl c32)), ((r 33), .inl (G.2 0, 8, .inl c33)), ((r 35), .inl (G.2 2, 260, .inl c35)), ((r 36), .inl (G.2 0, 260, .inl c36)), ((r 37), .inl (G.2 0, 260, .inl c37)), ((r 38), .inl (G.2 0, 260, .inl c38)), ((r 39), .inl (G.2 0, 260, .inl c39)), ((r 41), .inl (G.2 0, 840, .inl c41)), ((r 42), .inl (G.2 0, 840, .inl c42)), ((r 45), .inl (G.2 0, 9, .inl vF419)), ((r 46), .inl (G.2 0, 400, .inl vF420)), ((r 31), .inl (G.2 0, 2, .inl c31)), ((r 48), .inl (G.2 0, 71, .inl c48)), ((r 49), .inl (G.2 0, 71, .inl vF423)), ((r 26), .inl (G.2 0, 2, .inl c26)), ((r 58), .inl (G.2 0, 42, .inl vF421)), ((r 0), .inr (10, (zz_mo r [(0, j0), (2, j2), (4, j4), (10, j10), (11, j11), (12, j12), (13, j13), (14, j14), (15, j15), (16, j16), (17, j17), (18, (nI lv)), (19, j19), (20, j20), (34, j34), (40, j40), (44, j44), (47, vy422), (50, k50_1), (51, k51_2), (56, j56), (61, j61)]))), ((r 59), .inl (G.2 0, 896, .inl vF990))] H _ := hw
                            refine W.eq (g2 := F0 m 197 ls [.int rv_1052, .int (vF421 ((6 * vi1025) + vp761))]) rfl ?_
                            refine lv_iadd hx hb dX10_whole_197 ?_
                            refine lv_topi (fun z1053 ez1053 => ?_)
                            refine lv_istore_n (lv' := [(3, .int z1053), (4, .int (nI vi1025)), (2, .int (nI vi958)), (1, .int (nI vp761)), (0, .ref (r 0))]) hx hb dX10_whole_198 rfl hl (by decide) rfl (fun ls hl => ?_)
                            refine lv_iinc (v := (nI (vi1025 + 1))) (lv' := [(4, .int (nI (vi1025 + 1))), (3, .int z1053), (2, .int (nI vi958)), (1, .int (nI vp761)), (0, .ref (r 0))]) hx hb dX10_whole_199 hl (k := 1) rfl (nI_add _ 1) (by decide) rfl (fun ls hl => ?_)
                            refine lv_goto (tgt := 127) hx hb dX10_whole_202 (by decide) ?_
                            exact ih127 (vi1025 + 1) z1053 _ _ _ (by omega) (by omega) (by first | exact zg_xn hv127_1044 (fun z => absurd (by assumption) (hq146_0.mpr z)) | exact zg_xy hv127_1044 (hq146_0.mp (by assumption)) (zj_ev ez1050 hq169_0) (zg_wn (by first | assumption | exact Int32.not_lt.mpr (by assumption))) | exact zg_xy hv127_1044 (hq146_0.mp (by assumption)) (zj_ev ez1053 hq194_0) (zg_wl (zj_ev ez1050 hq169_0) (zj_ev ez1053 hq194_0) (by first | assumption | exact Int32.not_le.mp (by assumption))) | exact zg_xy hv127_1044 (hq146_0.mp (by assumption)) (zj_ev ez1053 hq169_0) (zg_wn (by first | assumption | exact Int32.not_lt.mpr (by assumption))) | exact zg_xy hv127_1044 (hq146_0.mp (by assumption)) (zj_ev ez1050 hq194_0) (zg_wl (zj_ev ez1053 hq169_0) (zj_ev ez1050 hq194_0) (by first | assumption | exact Int32.not_le.mp (by assumption)))) (hw.sub [0, 1, 2, 3, 4, 5, 6, 7, 8, 9, 10, 11, 12, 13, 14, 15, 16, 21, 17, 18, 19, 22, 20, 23] (by decide +kernel) rfl) (lv_sub hl [0, 1, 2, 3, 4] rfl)
                  exact lp127_1045 (pp + 1 - 0) 0 100000 _ _ _ (by omega) (by omega) rfl hw (lv_sub hl [0, 1, 2, 3, 4] rfl)
            exact lp113_1023 (128 + 1 - 0) 0 vF858 _ _ _ (by omega) (by omega) hv107_955 (fun s hs => absurd hs (Nat.not_lt_zero s)) hw (lv_sub hl [0, 1, 2] rfl)
        exact lp107_956 pq d59_760 _ _ _ (Nat.le_refl _) (zg_j0 hq92_0 (fun _ => rfl)) hw (lv_sub hl [0, 1] rfl)
      · skip
        have c16_759n : ¬ (pp ≤ vi4) := fun z => c16_759 ((zz_le (a := pp) (b := vi4) rfl rfl (by omega) (by omega)).mpr z)
        refine lv_iconst (v := 0) hx hb dX10_whole_19 (by decide) ?_
        refine lv_istore_n (lv' := [(2, .int 0), (1, .int (nI vi4)), (0, .ref (r 0))]) hx hb dX10_whole_20 rfl hl (by decide) rfl (fun ls hl => ?_)
        have lp21_1081 : ∀ (vn1055 vi1054 : Nat) (vF1065 : Nat → Int32) (vF1066 : Nat → Int32) (vF1067 : Nat → Int32) (vy1068 : Int32) (vF1069 : Nat → Int32) (H : Heap) (locs : List Loc) (ls : Array Slot), vi1054 ≤ pq → pq < vi1054 + vn1055 → zy_q 71 c48 vF1069 → zg_PT (fun pe pa v => ∃ τ, zy_q 71 c48 τ ∧ ((τ (14 + pe) = 1 ∧ v = -1) ∨ (¬ τ (14 + pe) = 1 ∧ ∃ c, (∀ Λ, (zr_HD lv c32 c33 c35 c36 c37 c38 c39 c41 c42 (c30 lv)) Λ → c = zHr (fun i => zr_ro (nI i) (c48 pe)) (fun i => ¬ zr_Sx 99 lv (upd τ pe (nI i)) c24 c28 c25 c29 (Λ 0) pe pa < c30 lv) 24) ∧ v = if c = 100000 then -1 else c))) pq vi4 vi1054 vF1067 → zz_w G A s [((r 22), .inl (G.2 0, 2, .inl c22)), ((r 24), .inl (G.2 0, 14, .inl c24)), ((r 25), .inl (G.2 0, 14, .inl c25)), ((r 26), .inl (G.2 0, 2, .inl c26)), ((r 28), .inl (G.2 0, 12, .inl c28)), ((r 29), .inl (G.2 0, 12, .inl c29)), ((r 30), .inl (G.2 0, 2, .inl c30)), ((r 32), .inl (G.2 0, 8, .inl c32)), ((r 33), .inl (G.2 0, 8, .inl c33)), ((r 35), .inl (G.2 2, 260, .inl c35)), ((r 36), .inl (G.2 0, 260, .inl c36)), ((r 37), .inl (G.2 0, 260, .inl c37)), ((r 38), .inl (G.2 0, 260, .inl c38)), ((r 39), .inl (G.2 0, 260, .inl c39)), ((r 41), .inl (G.2 0, 840, .inl c41)), ((r 42), .inl (G.2 0, 840, .inl c42)), ((r 45), .inl (G.2 0, 9, .inl vF1065)), ((r 46), .inl (G.2 0, 400, .inl vF1066)), ((r 58), .inl (G.2 0, 42, .inl vF1067)), ((r 59), .inl (G.2 0, 896, .inl c59)), ((r 0), .inr (10, (zz_mo r [(0, j0), (2, j2), (4, j4), (10, j10), (11, j11), (12, j12), (13, j13), (14, j14), (15, j15), (16, j16), (17, j17), (18, (nI lv)), (19, j19), (20, j20), (34, j34), (40, j40), (44, j44), (47, vy1068), (50, k50_1), (51, k51_2), (56, j56), (61, j61)]))), ((r 31), .inl (G.2 0, 2, .inl c31)), ((r 48), .inl (G.2 0, 71, .inl c48)), ((r 49), .inl (G.2 0, 71, .inl vF1069))] H locs → lv_has ls 5 [(2, .int (nI vi1054)), (1, .int (nI vi4)), (0, .ref (r 0))] → W p l e (zz_rm 5 0 0) s m args below meth c H locs (0) (0) Q (F0 m 21 ls []) := by
          intro vn1055
          induction vn1055 with
          | zero => intro vi1054 vF1065 vF1066 vF1067 vy1068 vF1069 H locs ls hi1 hi2; exact absurd hi2 (by omega)
          | succ vn1055 ih21 =>
            intro vi1054 vF1065 vF1066 vF1067 vy1068 vF1069 H locs ls hi21a hi21b hv21_1079 hv21_1080 hw hl
            refine lv_iload_n hx hb dX10_whole_21 rfl (lv_at hl 0 rfl) ?_
            refine lv_aload_n hx hb dX10_whole_22 rfl (lv_at hl 2 rfl) ?_
            refine zz_get (v := .ref (r 26)) S hw fgX10_55 20 rfl rfl dX10_whole_23 ?_
            refine lv_aload_n hx hb dX10_whole_26 rfl (lv_at hl 2 rfl) ?_
            refine zz_get (v := .int (nI lv)) S hw fgX10_236 20 rfl rfl dX10_whole_27 ?_
            refine zz_iald (v := (nI pq)) S hw 3 rfl (vp_in_nI (n := lv) (by omega) (by decide)) (by rw [show ((nI lv) : Int32).toNatClampNeg = lv from nI_clamp (n := lv) (by omega)]; exact hpa) dX10_whole_30 ?_
            refine W.eq (g2 := F0 m 31 ls [.int (nI pq), .int (nI vi1054)]) rfl ?_
            refine lv_icmp_ge (tgt := 84) hx hb dX10_whole_31 (by decide) (fun c31_1082 => ?_) (fun c31_1082 => ?_)
            · skip
              have c31_1082n : pq ≤ vi1054 := (zz_le (a := pq) (b := vi1054) rfl rfl (by omega) (by omega)).mp c31_1082
              refine lv_iinc (v := (nI (vi4 + 1))) (lv' := [(1, .int (nI (vi4 + 1))), (2, .int (nI vi1054)), (0, .ref (r 0))]) hx hb dX10_whole_84 hl (k := 1) rfl (nI_add _ 1) (by decide) rfl (fun ls hl => ?_)
              refine lv_goto (tgt := 6) hx hb dX10_whole_87 (by decide) ?_
              exact ih6 (vi4 + 1) vF1065 vF1066 vF1067 vy1068 vF1069 _ _ _ (by omega) (by omega) hv21_1079 (zg_p2 hv21_1080 (by omega)) hw (lv_sub hl [0, 2] rfl)
            · skip
              have c31_1082n : ¬ (pq ≤ vi1054) := fun z => c31_1082 ((zz_le (a := pq) (b := vi1054) rfl rfl (by omega) (by omega)).mpr z)
              refine lv_aload_n hx hb dX10_whole_34 rfl (lv_at hl 2 rfl) ?_
              refine lv_iload_n hx hb dX10_whole_35 rfl (lv_at hl 1 rfl) ?_
              refine zz_callV (qb := 20) (As := [.int (nI vi4)]) (rest := []) (wr := [((r 22), .inl (G.2 0, 2, .inl c22)), ((r 24), .inl (G.2 0, 14, .inl c24)), ((r 25), .inl (G.2 0, 14, .inl c25)), ((r 26), .inl (G.2 0, 2, .inl c26)), ((r 28), .inl (G.2 0, 12, .inl c28)), ((r 29), .inl (G.2 0, 12, .inl c29)), ((r 30), .inl (G.2 0, 2, .inl c30)), ((r 32), .inl (G.2 0, 8, .inl c32)), ((r 33), .inl (G.2 0, 8, .inl c33)), ((r 35), .inl (G.2 2, 260, .inl c35)), ((r 36), .inl (G.2 0, 260, .inl c36)), ((r 37), .inl (G.2 0, 260, .inl c37)), ((r 38), .inl (G.2 0, 260, .inl c38)), ((r 39), .inl (G.2 0, 260, .inl c39)), ((r 41), .inl (G.2 0, 840, .inl c41)), ((r 42), .inl (G.2 0, 840, .inl c42)), ((r 45), .inl (G.2 0, 9, .inl vF1065)), ((r 46), .inl (G.2 0, 400, .inl vF1066)), ((r 58), .inl (G.2 0, 42, .inl vF1067)), ((r 59), .inl (G.2 0, 896, .inl c59)), ((r 31), .inl (G.2 0, 2, .inl c31)), ((r 48), .inl (G.2 0, 71, .inl c48))]) S hw hl.1 lX10_345 (c_x_isOff l G r j0 j2 j4 j10 j11 j12 j13 j14 j15 j16 j17 (nI lv) j19 j20 j34 j40 j44 vy1068 k50_1 k51_2 j56 j61 vF1069 vi4 (by first | assumption | omega | exact Or.inr ⟨_, by omega, rfl⟩ | (unfold zz_sok; decide) | decide | exact (fun j hj => (hv7 j hj).1))) ⟨Nat.le_of_ble_eq_true rfl, Nat.le_of_ble_eq_true rfl⟩ ⟨Nat.le_of_ble_eq_true rfl, Nat.le_of_ble_eq_true rfl⟩ [20, 23] [0, 1, 2, 3, 4, 5, 6, 7, 8, 9, 10, 11, 12, 13, 14, 15, 16, 17, 18, 19, 21, 22] (by decide +kernel) rfl rfl (by decide +kernel) (by decide +kernel) rfl rfl rfl rfl (Nat.le_of_ble_eq_true rfl) dX10_whole_36 ?_
              clear hw
              intro rr u H locs hp hw
              refine hp.elim fun rv_1083 zg0 => zg0.elim fun zee1 zg1 => zg1.elim fun zee2 zg2 => zg2.elim fun hq36_0 hq36_1 => ?_
              clear hp zg0 zg1 zg2
              subst zee1
              subst zee2
              replace hw : zz_w G A s [((r 22), .inl (G.2 0, 2, .inl c22)), ((r 24), .inl (G.2 0, 14, .inl c24)), ((r 25), .inl (G.2 0, 14, .inl c25)), ((r 26), .inl (G.2 0, 2, .inl c26)), ((r 28), .inl (G.2 0, 12, .inl c28)), ((r 29), .inl (G.2 0, 12, .inl c29)), ((r 30), .inl (G.2 0, 2, .inl c30)), ((r 32), .inl (G.2 0, 8, .inl c32)), ((r 33), .inl (G.2 0, 8, .inl c33)), ((r 35), .inl (G.2 2, 260, .inl c35)), ((r 36), .inl (G.2 0, 260, .inl c36)), ((r 37), .inl (G.2 0, 260, .inl c37)), ((r 38), .inl (G.2 0, 260, .inl c38)), ((r 39), .inl (G.2 0, 260, .inl c39)), ((r 41), .inl (G.2 0, 840, .inl c41)), ((r 42), .inl (G.2 0, 840, .inl c42)), ((r 45), .inl (G.2 0, 9, .inl vF1065)), ((r 46), .inl (G.2 0, 400, .inl vF1066)), ((r 58), .inl (G.2 0, 42, .inl vF1067)), ((r 59), .inl (G.2 0, 896, .inl c59)), ((r 31), .inl (G.2 0, 2, .inl c31)), ((r 48), .inl (G.2 0, 71, .inl c48)), ((r 0), .inr (10, (zz_mo r [(0, j0), (2, j2), (4, j4), (10, j10), (11, j11), (12, j12), (13, j13), (14, j14), (15, j15), (16, j16), (17, j17), (18, (nI lv)), (19, j19), (20, j20), (34, j34), (40, j40), (44, j44), (47, vy1068), (50, k50_1), (51, k51_2), (56, j56), (61, j61)]))), ((r 49), .inl (G.2 0, 71, .inl vF1069))] H _ := hw
              refine W.eq (g2 := F0 m 39 ls [.int rv_1083]) rfl ?_
              refine lv_if_eq (tgt := 48) hx hb dX10_whole_39 (by decide) (fun c39_1084 => ?_) (fun c39_1084 => ?_)
              · skip
                refine lv_aload_n hx hb dX10_whole_48 rfl (lv_at hl 2 rfl) ?_
                refine lv_iload_n hx hb dX10_whole_49 rfl (lv_at hl 1 rfl) ?_
                refine lv_iload_n hx hb dX10_whole_50 rfl (lv_at hl 0 rfl) ?_
                refine zz_callV (qb := 22) (As := [.int (nI vi4), .int (nI vi1054)]) (rest := []) (wr := [((r 22), .inl (G.2 0, 2, .inl c22)), ((r 26), .inl (G.2 0, 2, .inl c26)), ((r 58), .inl (G.2 0, 42, .inl vF1067)), ((r 59), .inl (G.2 0, 896, .inl c59)), ((r 31), .inl (G.2 0, 2, .inl c31))]) S hw hl.1 lX10_422 (c_x_costsOf l G r j0 j2 j4 j10 j11 j12 j13 j14 j15 j16 j17 j19 j20 j34 j40 j44 vy1068 k50_1 k51_2 j56 j61 lv c24 c25 c28 c29 c30 c32 c33 c35 c36 c37 c38 c39 c41 c42 vF1065 vF1066 c48 vF1069 vi4 vi1054 (by first | assumption | omega | exact Or.inr ⟨_, by omega, rfl⟩ | (unfold zz_sok; decide) | decide | exact (fun j hj => (hv7 j hj).1)) (by first | assumption | omega | exact Or.inr ⟨_, by omega, rfl⟩ | (unfold zz_sok; decide) | decide | exact (fun j hj => (hv7 j hj).1)) (by first | assumption | omega | exact Or.inr ⟨_, by omega, rfl⟩ | (unfold zz_sok; decide) | decide | exact (fun j hj => (hv7 j hj).1)) (by first | assumption | omega | exact Or.inr ⟨_, by omega, rfl⟩ | (unfold zz_sok; decide) | decide | exact (fun j hj => (hv7 j hj).1))) ⟨Nat.le_of_ble_eq_true rfl, Nat.le_of_ble_eq_true rfl⟩ ⟨Nat.le_of_ble_eq_true rfl, Nat.le_of_ble_eq_true rfl⟩ [22, 1, 2, 4, 5, 6, 7, 8, 9, 10, 11, 12, 13, 14, 15, 16, 17, 21, 23] [0, 3, 18, 19, 20] (by decide +kernel) rfl rfl (by decide +kernel) (by decide +kernel) rfl rfl rfl rfl (Nat.le_of_ble_eq_true rfl) dX10_whole_51 ?_
                clear hw
                intro rr u H locs hp hw
                refine hp.elim fun rv_1085 zg0 => zg0.elim fun k47_1086 zg1 => zg1.elim fun d45_1087 zg2 => zg2.elim fun d46_1088 zg3 => zg3.elim fun d49_1089 zg4 => zg4.elim fun zee1 zg5 => zg5.elim fun zee2 zg6 => zg6.elim fun hq51_0 hq51_1 => ?_
                clear hp zg0 zg1 zg2 zg3 zg4 zg5 zg6
                subst zee1
                subst zee2
                replace hw : zz_w G A s [((r 22), .inl (G.2 0, 2, .inl c22)), ((r 26), .inl (G.2 0, 2, .inl c26)), ((r 58), .inl (G.2 0, 42, .inl vF1067)), ((r 59), .inl (G.2 0, 896, .inl c59)), ((r 31), .inl (G.2 0, 2, .inl c31)), ((r 0), .inr (10, (zz_mo r [(0, j0), (2, j2), (4, j4), (10, j10), (11, j11), (12, j12), (13, j13), (14, j14), (15, j15), (16, j16), (17, j17), (18, (nI lv)), (19, j19), (20, j20), (34, j34), (40, j40), (44, j44), (47, k47_1086), (50, k50_1), (51, k51_2), (56, j56), (61, j61)]))), ((r 24), .inl (G.2 0, 14, .inl c24)), ((r 25), .inl (G.2 0, 14, .inl c25)), ((r 28), .inl (G.2 0, 12, .inl c28)), ((r 29), .inl (G.2 0, 12, .inl c29)), ((r 30), .inl (G.2 0, 2, .inl c30)), ((r 32), .inl (G.2 0, 8, .inl c32)), ((r 33), .inl (G.2 0, 8, .inl c33)), ((r 35), .inl (G.2 2, 260, .inl c35)), ((r 36), .inl (G.2 0, 260, .inl c36)), ((r 37), .inl (G.2 0, 260, .inl c37)), ((r 38), .inl (G.2 0, 260, .inl c38)), ((r 39), .inl (G.2 0, 260, .inl c39)), ((r 41), .inl (G.2 0, 840, .inl c41)), ((r 42), .inl (G.2 0, 840, .inl c42)), ((r 45), .inl (G.2 0, 9, .inl d45_1087)), ((r 46), .inl (G.2 0, 400, .inl d46_1088)), ((r 48), .inl (G.2 0, 71, .inl c48)), ((r 49), .inl (G.2 0, 71, .inl d49_1089))] H _ := hw
                refine W.eq (g2 := F0 m 54 ls [.int rv_1085]) rfl ?_
                refine lv_istore_n (lv' := [(3, .int rv_1085), (2, .int (nI vi1054)), (1, .int (nI vi4)), (0, .ref (r 0))]) hx hb dX10_whole_54 rfl hl (by decide) rfl (fun ls hl => ?_)
                refine lv_aload_n hx hb dX10_whole_55 rfl (lv_at hl 3 rfl) ?_
                refine zz_get (v := .ref (r 58)) S hw fgX10_131 5 rfl rfl dX10_whole_56 ?_
                refine lv_bipush (v := 6) hx hb dX10_whole_59 (by decide) ?_
                refine lv_iload_n hx hb dX10_whole_61 rfl (lv_at hl 2 rfl) ?_
                refine W.eq (g2 := F0 m 62 ls [.int (nI vi4), .int 6, .ref (r 58)]) rfl ?_
                refine lv_imul hx hb dX10_whole_62 ?_
                refine zz_topi (y := (nI (6 * vi4))) (pk_mul _ _) ?_
                refine lv_iload_n hx hb dX10_whole_63 rfl (lv_at hl 1 rfl) ?_
                refine lv_iadd hx hb dX10_whole_64 ?_
                refine zz_topi (y := (nI ((6 * vi4) + vi1054))) (nI_add _ _) ?_
                refine lv_iload_n hx hb dX10_whole_65 rfl (lv_at hl 0 rfl) ?_
                refine lv_ldcw (v := 100000) hx hb S.2.2.2.1 (S.2.2.2.2 _ (zz_c7 147 rfl rfl)) dX10_whole_66 ?_
                refine lv_icmp_ne (tgt := 76) hx hb dX10_whole_69 (by decide) (fun c69_1090 => ?_) (fun c69_1090 => ?_)
                · skip
                  refine lv_iload_n hx hb dX10_whole_76 rfl (lv_at hl 0 rfl) ?_
                  refine zz_iast (ws' := [((r 22), .inl (G.2 0, 2, .inl c22)), ((r 26), .inl (G.2 0, 2, .inl c26)), ((r 58), .inl (G.2 0, 42, .inl (upd vF1067 ((6 * vi4) + vi1054) rv_1085))), ((r 59), .inl (G.2 0, 896, .inl c59)), ((r 31), .inl (G.2 0, 2, .inl c31)), ((r 0), .inr (10, (zz_mo r [(0, j0), (2, j2), (4, j4), (10, j10), (11, j11), (12, j12), (13, j13), (14, j14), (15, j15), (16, j16), (17, j17), (18, (nI lv)), (19, j19), (20, j20), (34, j34), (40, j40), (44, j44), (47, k47_1086), (50, k50_1), (51, k51_2), (56, j56), (61, j61)]))), ((r 24), .inl (G.2 0, 14, .inl c24)), ((r 25), .inl (G.2 0, 14, .inl c25)), ((r 28), .inl (G.2 0, 12, .inl c28)), ((r 29), .inl (G.2 0, 12, .inl c29)), ((r 30), .inl (G.2 0, 2, .inl c30)), ((r 32), .inl (G.2 0, 8, .inl c32)), ((r 33), .inl (G.2 0, 8, .inl c33)), ((r 35), .inl (G.2 2, 260, .inl c35)), ((r 36), .inl (G.2 0, 260, .inl c36)), ((r 37), .inl (G.2 0, 260, .inl c37)), ((r 38), .inl (G.2 0, 260, .inl c38)), ((r 39), .inl (G.2 0, 260, .inl c39)), ((r 41), .inl (G.2 0, 840, .inl c41)), ((r 42), .inl (G.2 0, 840, .inl c42)), ((r 45), .inl (G.2 0, 9, .inl d45_1087)), ((r 46), .inl (G.2 0, 400, .inl d46_1088)), ((r 48), .inl (G.2 0, 71, .inl c48)), ((r 49), .inl (G.2 0, 71, .inl d49_1089))]) (g := (upd vF1067 ((6 * vi4) + vi1054) rv_1085)) S hw 2 rfl (vp_in_nI (n := ((6 * vi4) + vi1054)) (by omega) (by decide)) (zz_upn (n := ((6 * vi4) + vi1054)) (by omega)) rfl dX10_whole_77 ?_
                  clear hw
                  intro H locs hw
                  refine lv_iinc (v := (nI (vi1054 + 1))) (lv' := [(2, .int (nI (vi1054 + 1))), (3, .int rv_1085), (1, .int (nI vi4)), (0, .ref (r 0))]) hx hb dX10_whole_78 hl (k := 1) rfl (nI_add _ 1) (by decide) rfl (fun ls hl => ?_)
                  refine lv_goto (tgt := 21) hx hb dX10_whole_81 (by decide) ?_
                  exact ih21 (vi1054 + 1) d45_1087 d46_1088 (upd vF1067 ((6 * vi4) + vi1054) rv_1085) k47_1086 d49_1089 _ _ _ (by omega) (by omega) (by first | exact zg_rq hv21_1079 hq51_1 (by omega) | exact hv21_1079) (by first | exact zg_p1 hv21_1080 hpq (by omega) ⟨_, hv21_1079, Or.inl ⟨hq36_0.mp (by assumption), rfl⟩⟩ | exact zg_p1 hv21_1080 hpq (by omega) ⟨_, hv21_1079, Or.inr ⟨fun z => hq36_0.mpr z (by assumption), _, hq51_0, zg_c1 (by assumption)⟩⟩ | exact zg_p1 hv21_1080 hpq (by omega) ⟨_, hv21_1079, Or.inr ⟨fun z => hq36_0.mpr z (by assumption), _, hq51_0, zg_c2 (by assumption)⟩⟩) (hw.sub [0, 6, 7, 1, 8, 9, 10, 11, 12, 13, 14, 15, 16, 17, 18, 19, 20, 21, 2, 3, 5, 4, 22, 23] (by decide +kernel) rfl) (lv_sub hl [0, 2, 3] rfl)
                · skip
                  refine lv_iconst (v := (-1)) hx hb dX10_whole_72 (by decide) ?_
                  refine lv_goto (tgt := 77) hx hb dX10_whole_73 (by decide) ?_
                  refine zz_iast (ws' := [((r 22), .inl (G.2 0, 2, .inl c22)), ((r 26), .inl (G.2 0, 2, .inl c26)), ((r 58), .inl (G.2 0, 42, .inl (upd vF1067 ((6 * vi4) + vi1054) (-1)))), ((r 59), .inl (G.2 0, 896, .inl c59)), ((r 31), .inl (G.2 0, 2, .inl c31)), ((r 0), .inr (10, (zz_mo r [(0, j0), (2, j2), (4, j4), (10, j10), (11, j11), (12, j12), (13, j13), (14, j14), (15, j15), (16, j16), (17, j17), (18, (nI lv)), (19, j19), (20, j20), (34, j34), (40, j40), (44, j44), (47, k47_1086), (50, k50_1), (51, k51_2), (56, j56), (61, j61)]))), ((r 24), .inl (G.2 0, 14, .inl c24)), ((r 25), .inl (G.2 0, 14, .inl c25)), ((r 28), .inl (G.2 0, 12, .inl c28)), ((r 29), .inl (G.2 0, 12, .inl c29)), ((r 30), .inl (G.2 0, 2, .inl c30)), ((r 32), .inl (G.2 0, 8, .inl c32)), ((r 33), .inl (G.2 0, 8, .inl c33)), ((r 35), .inl (G.2 2, 260, .inl c35)), ((r 36), .inl (G.2 0, 260, .inl c36)), ((r 37), .inl (G.2 0, 260, .inl c37)), ((r 38), .inl (G.2 0, 260, .inl c38)), ((r 39), .inl (G.2 0, 260, .inl c39)), ((r 41), .inl (G.2 0, 840, .inl c41)), ((r 42), .inl (G.2 0, 840, .inl c42)), ((r 45), .inl (G.2 0, 9, .inl d45_1087)), ((r 46), .inl (G.2 0, 400, .inl d46_1088)), ((r 48), .inl (G.2 0, 71, .inl c48)), ((r 49), .inl (G.2 0, 71, .inl d49_1089))]) (g := (upd vF1067 ((6 * vi4) + vi1054) (-1))) S hw 2 rfl (vp_in_nI (n := ((6 * vi4) + vi1054)) (by omega) (by decide)) (zz_upn (n := ((6 * vi4) + vi1054)) (by omega)) rfl dX10_whole_77 ?_
                  clear hw
                  intro H locs hw
                  refine lv_iinc (v := (nI (vi1054 + 1))) (lv' := [(2, .int (nI (vi1054 + 1))), (3, .int rv_1085), (1, .int (nI vi4)), (0, .ref (r 0))]) hx hb dX10_whole_78 hl (k := 1) rfl (nI_add _ 1) (by decide) rfl (fun ls hl => ?_)
                  refine lv_goto (tgt := 21) hx hb dX10_whole_81 (by decide) ?_
                  refine W.eq (g2 := F0 m 21 ls []) rfl ?_
                  exact ih21 (vi1054 + 1) d45_1087 d46_1088 (upd vF1067 ((6 * vi4) + vi1054) (-1)) k47_1086 d49_1089 _ _ _ (by omega) (by omega) (by first | exact zg_rq hv21_1079 hq51_1 (by omega) | exact hv21_1079) (by first | exact zg_p1 hv21_1080 hpq (by omega) ⟨_, hv21_1079, Or.inl ⟨hq36_0.mp (by assumption), rfl⟩⟩ | exact zg_p1 hv21_1080 hpq (by omega) ⟨_, hv21_1079, Or.inr ⟨fun z => hq36_0.mpr z (by assumption), _, hq51_0, zg_c1 (by assumption)⟩⟩ | exact zg_p1 hv21_1080 hpq (by omega) ⟨_, hv21_1079, Or.inr ⟨fun z => hq36_0.mpr z (by assumption), _, hq51_0, zg_c2 (by assumption)⟩⟩) (hw.sub [0, 6, 7, 1, 8, 9, 10, 11, 12, 13, 14, 15, 16, 17, 18, 19, 20, 21, 2, 3, 5, 4, 22, 23] (by decide +kernel) rfl) (lv_sub hl [0, 2, 3] rfl)
              · skip
                refine lv_ldcw (v := 100000) hx hb S.2.2.2.1 (S.2.2.2.2 _ (zz_c7 147 rfl rfl)) dX10_whole_42 ?_
                refine lv_goto (tgt := 54) hx hb dX10_whole_45 (by decide) ?_
                refine lv_istore_n (lv' := [(3, .int 100000), (2, .int (nI vi1054)), (1, .int (nI vi4)), (0, .ref (r 0))]) hx hb dX10_whole_54 rfl hl (by decide) rfl (fun ls hl => ?_)
                refine lv_aload_n hx hb dX10_whole_55 rfl (lv_at hl 3 rfl) ?_
                refine zz_get (v := .ref (r 58)) S hw fgX10_131 22 rfl rfl dX10_whole_56 ?_
                refine lv_bipush (v := 6) hx hb dX10_whole_59 (by decide) ?_
                refine lv_iload_n hx hb dX10_whole_61 rfl (lv_at hl 2 rfl) ?_
                refine lv_imul hx hb dX10_whole_62 ?_
                refine zz_topi (y := (nI (6 * vi4))) (pk_mul _ _) ?_
                refine lv_iload_n hx hb dX10_whole_63 rfl (lv_at hl 1 rfl) ?_
                refine lv_iadd hx hb dX10_whole_64 ?_
                refine zz_topi (y := (nI ((6 * vi4) + vi1054))) (nI_add _ _) ?_
                refine lv_iload_n hx hb dX10_whole_65 rfl (lv_at hl 0 rfl) ?_
                refine lv_ldcw (v := 100000) hx hb S.2.2.2.1 (S.2.2.2.2 _ (zz_c7 147 rfl rfl)) dX10_whole_66 ?_
                refine lv_icmp_ne (tgt := 76) hx hb dX10_whole_69 (by decide) (fun cc => absurd cc (by decide)) (fun _ => ?_)
                refine lv_iconst (v := (-1)) hx hb dX10_whole_72 (by decide) ?_
                refine W.eq (g2 := F0 m 73 ls [.int (-1), .int (nI ((6 * vi4) + vi1054)), .ref (r 58)]) rfl ?_
                refine lv_goto (tgt := 77) hx hb dX10_whole_73 (by decide) ?_
                refine zz_iast (ws' := [((r 22), .inl (G.2 0, 2, .inl c22)), ((r 24), .inl (G.2 0, 14, .inl c24)), ((r 25), .inl (G.2 0, 14, .inl c25)), ((r 26), .inl (G.2 0, 2, .inl c26)), ((r 28), .inl (G.2 0, 12, .inl c28)), ((r 29), .inl (G.2 0, 12, .inl c29)), ((r 30), .inl (G.2 0, 2, .inl c30)), ((r 32), .inl (G.2 0, 8, .inl c32)), ((r 33), .inl (G.2 0, 8, .inl c33)), ((r 35), .inl (G.2 2, 260, .inl c35)), ((r 36), .inl (G.2 0, 260, .inl c36)), ((r 37), .inl (G.2 0, 260, .inl c37)), ((r 38), .inl (G.2 0, 260, .inl c38)), ((r 39), .inl (G.2 0, 260, .inl c39)), ((r 41), .inl (G.2 0, 840, .inl c41)), ((r 42), .inl (G.2 0, 840, .inl c42)), ((r 45), .inl (G.2 0, 9, .inl vF1065)), ((r 46), .inl (G.2 0, 400, .inl vF1066)), ((r 58), .inl (G.2 0, 42, .inl (upd vF1067 ((6 * vi4) + vi1054) (-1)))), ((r 59), .inl (G.2 0, 896, .inl c59)), ((r 31), .inl (G.2 0, 2, .inl c31)), ((r 48), .inl (G.2 0, 71, .inl c48)), ((r 0), .inr (10, (zz_mo r [(0, j0), (2, j2), (4, j4), (10, j10), (11, j11), (12, j12), (13, j13), (14, j14), (15, j15), (16, j16), (17, j17), (18, (nI lv)), (19, j19), (20, j20), (34, j34), (40, j40), (44, j44), (47, vy1068), (50, k50_1), (51, k51_2), (56, j56), (61, j61)]))), ((r 49), .inl (G.2 0, 71, .inl vF1069))]) (g := (upd vF1067 ((6 * vi4) + vi1054) (-1))) S hw 18 rfl (vp_in_nI (n := ((6 * vi4) + vi1054)) (by omega) (by decide)) (zz_upn (n := ((6 * vi4) + vi1054)) (by omega)) rfl dX10_whole_77 ?_
                clear hw
                intro H locs hw
                refine lv_iinc (v := (nI (vi1054 + 1))) (lv' := [(2, .int (nI (vi1054 + 1))), (3, .int 100000), (1, .int (nI vi4)), (0, .ref (r 0))]) hx hb dX10_whole_78 hl (k := 1) rfl (nI_add _ 1) (by decide) rfl (fun ls hl => ?_)
                refine lv_goto (tgt := 21) hx hb dX10_whole_81 (by decide) ?_
                exact ih21 (vi1054 + 1) vF1065 vF1066 (upd vF1067 ((6 * vi4) + vi1054) (-1)) vy1068 vF1069 _ _ _ (by omega) (by omega) (by first | exact zg_rq hv21_1079 hq51_1 (by omega) | exact hv21_1079) (by first | exact zg_p1 hv21_1080 hpq (by omega) ⟨_, hv21_1079, Or.inl ⟨hq36_0.mp (by assumption), rfl⟩⟩ | exact zg_p1 hv21_1080 hpq (by omega) ⟨_, hv21_1079, Or.inr ⟨fun z => hq36_0.mpr z (by assumption), _, hq51_0, zg_c1 (by assumption)⟩⟩ | exact zg_p1 hv21_1080 hpq (by omega) ⟨_, hv21_1079, Or.inr ⟨fun z => hq36_0.mpr z (by assumption), _, hq51_0, zg_c2 (by assumption)⟩⟩) (hw.sub [0, 1, 2, 3, 4, 5, 6, 7, 8, 9, 10, 11, 12, 13, 14, 15, 16, 17, 18, 19, 22, 20, 21, 23] (by decide +kernel) rfl) (lv_sub hl [0, 2, 3] rfl)
        exact lp21_1081 (pq + 1 - 0) 0 vF419 vF420 vF421 vy422 vF423 _ _ _ (by omega) (by omega) hv6_756 hv6_757 hw (lv_sub hl [0, 1, 2] rfl)
  exact lp6_758 (pp + 1 - 0) 0 c45 c46 c58 j47 d49_3 _ _ _ (by omega) (by omega) hq1_0 zg_p0 hw (lv_sub hl [0, 1] rfl)
theorem kd_ncX10_ways : kd_ck 429554085123823103869886820706387297167902787766100196262844761480810873148623573414342418541900373720635039586609653592806444822760847874052393091851489041985967656574661824524741857802593869593135262461632827384764109177648404161463464845158452978003677982638986541104095354010618128661490218 122 cX10_ways.data.toList 0 = true := by decide +kernel
theorem dX10_ways_0 : decode cX10_ways 0 = .ok (.aload_n 0, 1) := kd_dk0 kd_o42 kd_ncX10_ways rfl
theorem dX10_ways_1 : decode cX10_ways 1 = .ok (.aload_n 0, 1) := kd_dk0 kd_o42 kd_ncX10_ways rfl
theorem dX10_ways_2 : decode cX10_ways 2 = .ok (.getfield 67, 3) := kd_dk2 kd_o180 kd_ncX10_ways rfl
theorem dX10_ways_5 : decode cX10_ways 5 = .ok (.aload_n 0, 1) := kd_dk0 kd_o42 kd_ncX10_ways rfl
theorem dX10_ways_6 : decode cX10_ways 6 = .ok (.getfield 236, 3) := kd_dk2 kd_o180 kd_ncX10_ways rfl
theorem dX10_ways_9 : decode cX10_ways 9 = .ok (.iaload, 1) := kd_dk0 kd_o46 kd_ncX10_ways rfl
theorem dX10_ways_10 : decode cX10_ways 10 = .ok (.invokevirtual 403, 3) := kd_dk2 kd_o182 kd_ncX10_ways rfl
theorem dX10_ways_13 : decode cX10_ways 13 = .ok (.aload_n 0, 1) := kd_dk0 kd_o42 kd_ncX10_ways rfl
theorem dX10_ways_14 : decode cX10_ways 14 = .ok (.iconst 1, 1) := kd_dk0 kd_o4 kd_ncX10_ways rfl
theorem dX10_ways_15 : decode cX10_ways 15 = .ok (.invokevirtual 406, 3) := kd_dk2 kd_o182 kd_ncX10_ways rfl
theorem dX10_ways_18 : decode cX10_ways 18 = .ok (.aload_n 0, 1) := kd_dk0 kd_o42 kd_ncX10_ways rfl
theorem dX10_ways_19 : decode cX10_ways 19 = .ok (.getfield 55, 3) := kd_dk2 kd_o180 kd_ncX10_ways rfl
theorem dX10_ways_22 : decode cX10_ways 22 = .ok (.aload_n 0, 1) := kd_dk0 kd_o42 kd_ncX10_ways rfl
theorem dX10_ways_23 : decode cX10_ways 23 = .ok (.getfield 236, 3) := kd_dk2 kd_o180 kd_ncX10_ways rfl
theorem dX10_ways_26 : decode cX10_ways 26 = .ok (.iaload, 1) := kd_dk0 kd_o46 kd_ncX10_ways rfl
theorem dX10_ways_27 : decode cX10_ways 27 = .ok (.iconst 1, 1) := kd_dk0 kd_o4 kd_ncX10_ways rfl
theorem dX10_ways_28 : decode cX10_ways 28 = .ok (.isub, 1) := kd_dk0 kd_o100 kd_ncX10_ways rfl
theorem dX10_ways_29 : decode cX10_ways 29 = .ok (.istore_n 1, 1) := kd_dk0 kd_o60 kd_ncX10_ways rfl
theorem dX10_ways_30 : decode cX10_ways 30 = .ok (.iload_n 1, 1) := kd_dk0 kd_o27 kd_ncX10_ways rfl
theorem dX10_ways_31 : decode cX10_ways 31 = .ok (.ifCond .lt 84, 3) := kd_dj2 kd_o155 (w := 84) kd_ncX10_ways rfl rfl
theorem dX10_ways_34 : decode cX10_ways 34 = .ok (.iconst 0, 1) := kd_dk0 kd_o3 kd_ncX10_ways rfl
theorem dX10_ways_35 : decode cX10_ways 35 = .ok (.istore_n 2, 1) := kd_dk0 kd_o61 kd_ncX10_ways rfl
theorem dX10_ways_36 : decode cX10_ways 36 = .ok (.iload_n 2, 1) := kd_dk0 kd_o28 kd_ncX10_ways rfl
theorem dX10_ways_37 : decode cX10_ways 37 = .ok (.sipush 128, 3) := kd_dj2 kd_o17 (w := 128) kd_ncX10_ways rfl rfl
theorem dX10_ways_40 : decode cX10_ways 40 = .ok (.if_icmp .ge 69, 3) := kd_dj2 kd_o162 (w := 69) kd_ncX10_ways rfl rfl
theorem dX10_ways_43 : decode cX10_ways 43 = .ok (.iconst 0, 1) := kd_dk0 kd_o3 kd_ncX10_ways rfl
theorem dX10_ways_44 : decode cX10_ways 44 = .ok (.istore_n 3, 1) := kd_dk0 kd_o62 kd_ncX10_ways rfl
theorem dX10_ways_45 : decode cX10_ways 45 = .ok (.iconst 0, 1) := kd_dk0 kd_o3 kd_ncX10_ways rfl
theorem dX10_ways_46 : decode cX10_ways 46 = .ok (.istore 4, 2) := kd_dk1 kd_o54 kd_ncX10_ways rfl
theorem dX10_ways_48 : decode cX10_ways 48 = .ok (.iload 4, 2) := kd_dk1 kd_o21 kd_ncX10_ways rfl
theorem dX10_ways_50 : decode cX10_ways 50 = .ok (.aload_n 0, 1) := kd_dk0 kd_o42 kd_ncX10_ways rfl
theorem dX10_ways_51 : decode cX10_ways 51 = .ok (.getfield 43, 3) := kd_dk2 kd_o180 kd_ncX10_ways rfl
theorem dX10_ways_54 : decode cX10_ways 54 = .ok (.aload_n 0, 1) := kd_dk0 kd_o42 kd_ncX10_ways rfl
theorem dX10_ways_55 : decode cX10_ways 55 = .ok (.getfield 236, 3) := kd_dk2 kd_o180 kd_ncX10_ways rfl
theorem dX10_ways_58 : decode cX10_ways 58 = .ok (.iaload, 1) := kd_dk0 kd_o46 kd_ncX10_ways rfl
theorem dX10_ways_59 : decode cX10_ways 59 = .ok (.if_icmp .ge 31, 3) := kd_dj2 kd_o162 (w := 31) kd_ncX10_ways rfl rfl
theorem dX10_ways_62 : decode cX10_ways 62 = .ok (.aload_n 0, 1) := kd_dk0 kd_o42 kd_ncX10_ways rfl
theorem dX10_ways_63 : decode cX10_ways 63 = .ok (.iload 4, 2) := kd_dk1 kd_o21 kd_ncX10_ways rfl
theorem dX10_ways_65 : decode cX10_ways 65 = .ok (.iload_n 1, 1) := kd_dk0 kd_o27 kd_ncX10_ways rfl
theorem dX10_ways_66 : decode cX10_ways 66 = .ok (.iload_n 2, 1) := kd_dk0 kd_o28 kd_ncX10_ways rfl
theorem dX10_ways_67 : decode cX10_ways 67 = .ok (.invokevirtual 409, 3) := kd_dk2 kd_o182 kd_ncX10_ways rfl
theorem dX10_ways_70 : decode cX10_ways 70 = .ok (.ifCond .eq 14, 3) := kd_dj2 kd_o153 (w := 14) kd_ncX10_ways rfl rfl
theorem dX10_ways_73 : decode cX10_ways 73 = .ok (.iload_n 3, 1) := kd_dk0 kd_o29 kd_ncX10_ways rfl
theorem dX10_ways_74 : decode cX10_ways 74 = .ok (.aload_n 0, 1) := kd_dk0 kd_o42 kd_ncX10_ways rfl
theorem dX10_ways_75 : decode cX10_ways 75 = .ok (.iload 4, 2) := kd_dk1 kd_o21 kd_ncX10_ways rfl
theorem dX10_ways_77 : decode cX10_ways 77 = .ok (.iload_n 1, 1) := kd_dk0 kd_o27 kd_ncX10_ways rfl
theorem dX10_ways_78 : decode cX10_ways 78 = .ok (.iload_n 2, 1) := kd_dk0 kd_o28 kd_ncX10_ways rfl
theorem dX10_ways_79 : decode cX10_ways 79 = .ok (.invokevirtual 412, 3) := kd_dk2 kd_o182 kd_ncX10_ways rfl
theorem dX10_ways_82 : decode cX10_ways 82 = .ok (.iadd, 1) := kd_dk0 kd_o96 kd_ncX10_ways rfl
theorem dX10_ways_83 : decode cX10_ways 83 = .ok (.istore_n 3, 1) := kd_dk0 kd_o62 kd_ncX10_ways rfl
theorem dX10_ways_84 : decode cX10_ways 84 = .ok (.iinc 4 1, 3) := kd_dji kd_o132 (w := 1) kd_ncX10_ways rfl rfl
theorem dX10_ways_87 : decode cX10_ways 87 = .ok (.goto (-39), 3) := kd_dj2 kd_o167 (w := 65497) kd_ncX10_ways rfl rfl
theorem dX10_ways_90 : decode cX10_ways 90 = .ok (.aload_n 0, 1) := kd_dk0 kd_o42 kd_ncX10_ways rfl
theorem dX10_ways_91 : decode cX10_ways 91 = .ok (.getfield 134, 3) := kd_dk2 kd_o180 kd_ncX10_ways rfl
theorem dX10_ways_94 : decode cX10_ways 94 = .ok (.sipush 128, 3) := kd_dj2 kd_o17 (w := 128) kd_ncX10_ways rfl rfl
theorem dX10_ways_97 : decode cX10_ways 97 = .ok (.iload_n 1, 1) := kd_dk0 kd_o27 kd_ncX10_ways rfl
theorem dX10_ways_98 : decode cX10_ways 98 = .ok (.imul, 1) := kd_dk0 kd_o104 kd_ncX10_ways rfl
theorem dX10_ways_99 : decode cX10_ways 99 = .ok (.iload_n 2, 1) := kd_dk0 kd_o28 kd_ncX10_ways rfl
theorem dX10_ways_100 : decode cX10_ways 100 = .ok (.iadd, 1) := kd_dk0 kd_o96 kd_ncX10_ways rfl
theorem dX10_ways_101 : decode cX10_ways 101 = .ok (.iload_n 3, 1) := kd_dk0 kd_o29 kd_ncX10_ways rfl
theorem dX10_ways_102 : decode cX10_ways 102 = .ok (.iastore, 1) := kd_dk0 kd_o79 kd_ncX10_ways rfl
theorem dX10_ways_103 : decode cX10_ways 103 = .ok (.iinc 2 1, 3) := kd_dji kd_o132 (w := 1) kd_ncX10_ways rfl rfl
theorem dX10_ways_106 : decode cX10_ways 106 = .ok (.goto (-70), 3) := kd_dj2 kd_o167 (w := 65466) kd_ncX10_ways rfl rfl
theorem dX10_ways_109 : decode cX10_ways 109 = .ok (.iinc 1 (-1), 3) := kd_dji kd_o132 (w := 255) kd_ncX10_ways rfl rfl
theorem dX10_ways_112 : decode cX10_ways 112 = .ok (.goto (-82), 3) := kd_dj2 kd_o167 (w := 65454) kd_ncX10_ways rfl rfl
theorem dX10_ways_115 : decode cX10_ways 115 = .ok (.aload_n 0, 1) := kd_dk0 kd_o42 kd_ncX10_ways rfl
theorem dX10_ways_116 : decode cX10_ways 116 = .ok (.getfield 134, 3) := kd_dk2 kd_o180 kd_ncX10_ways rfl
theorem dX10_ways_119 : decode cX10_ways 119 = .ok (.iconst 0, 1) := kd_dk0 kd_o3 kd_ncX10_ways rfl
theorem dX10_ways_120 : decode cX10_ways 120 = .ok (.iaload, 1) := kd_dk0 kd_o46 kd_ncX10_ways rfl
theorem dX10_ways_121 : decode cX10_ways 121 = .ok (.ireturn, 1) := kd_dk0 kd_o172 kd_ncX10_ways rfl
set_option maxHeartbeats 8000000 in
set_option maxRecDepth 100000 in
theorem c_x_ways (l : Launch) (G : zz_G) (r : Nat → Nat) (j0 : Int32) (j2 : Int32) (j4 : Int32) (j10 : Int32) (j11 : Int32) (j12 : Int32) (j13 : Int32) (j14 : Int32) (j15 : Int32) (j16 : Int32) (j17 : Int32) (j19 : Int32) (j20 : Int32) (j34 : Int32) (j40 : Int32) (j44 : Int32) (j47 : Int32) (j50 : Int32) (j51 : Int32) (j56 : Int32) (j61 : Int32) (lv : Nat) (pp : Nat) (pq : Nat) (c22 : Nat → Int32) (c24 : Nat → Int32) (c25 : Nat → Int32) (c26 : Nat → Int32) (c28 : Nat → Int32) (c29 : Nat → Int32) (c30 : Nat → Int32) (c31 : Nat → Int32) (c32 : Nat → Int32) (c33 : Nat → Int32) (c35 : Nat → Int32) (c36 : Nat → Int32) (c37 : Nat → Int32) (c38 : Nat → Int32) (c39 : Nat → Int32) (c41 : Nat → Int32) (c42 : Nat → Int32) (c45 : Nat → Int32) (c46 : Nat → Int32) (c48 : Nat → Int32) (c49 : Nat → Int32) (c58 : Nat → Int32) (c59 : Nat → Int32) (hlv : lv ≤ 1) (hpe : c22 lv = nI pp) (hpp : pp ≤ 7) (hpa : c26 lv = nI pq) (hpq : pq ≤ 6) (hlw : zz_LW 2 0 0 c32 c33 c35 c36 c37 c38 c39 c41 c42) : zz_M l G mX10_ways 5 0 0 [.ref (r 0)] [((r 0), .inr (10, (zz_mo r [(0, j0), (2, j2), (4, j4), (10, j10), (11, j11), (12, j12), (13, j13), (14, j14), (15, j15), (16, j16), (17, j17), (18, (nI lv)), (19, j19), (20, j20), (34, j34), (40, j40), (44, j44), (47, j47), (50, j50), (51, j51), (56, j56), (61, j61)]))), ((r 22), .inl (G.2 0, 2, .inl c22)), ((r 24), .inl (G.2 0, 14, .inl c24)), ((r 25), .inl (G.2 0, 14, .inl c25)), ((r 26), .inl (G.2 0, 2, .inl c26)), ((r 28), .inl (G.2 0, 12, .inl c28)), ((r 29), .inl (G.2 0, 12, .inl c29)), ((r 30), .inl (G.2 0, 2, .inl c30)), ((r 31), .inl (G.2 0, 2, .inl c31)), ((r 32), .inl (G.2 0, 8, .inl c32)), ((r 33), .inl (G.2 0, 8, .inl c33)), ((r 35), .inl (G.2 2, 260, .inl c35)), ((r 36), .inl (G.2 0, 260, .inl c36)), ((r 37), .inl (G.2 0, 260, .inl c37)), ((r 38), .inl (G.2 0, 260, .inl c38)), ((r 39), .inl (G.2 0, 260, .inl c39)), ((r 41), .inl (G.2 0, 840, .inl c41)), ((r 42), .inl (G.2 0, 840, .inl c42)), ((r 45), .inl (G.2 0, 9, .inl c45)), ((r 46), .inl (G.2 0, 400, .inl c46)), ((r 48), .inl (G.2 0, 71, .inl c48)), ((r 49), .inl (G.2 0, 71, .inl c49)), ((r 58), .inl (G.2 0, 42, .inl c58)), ((r 59), .inl (G.2 0, 896, .inl c59))] (fun rr u => ∃ (rv : Int32), ∃ (k47 : Int32), ∃ (k50 : Int32), ∃ (k51 : Int32), ∃ (d45 : Nat → Int32), ∃ (d46 : Nat → Int32), ∃ (d49 : Nat → Int32), ∃ (d58 : Nat → Int32), ∃ (d59 : Nat → Int32), rr = some (.int rv) ∧ u = [((r 0), .inr (10, (zz_mo r [(0, j0), (2, j2), (4, j4), (10, j10), (11, j11), (12, j12), (13, j13), (14, j14), (15, j15), (16, j16), (17, j17), (18, (nI lv)), (19, j19), (20, j20), (34, j34), (40, j40), (44, j44), (47, k47), (50, k50), (51, k51), (56, j56), (61, j61)]))), ((r 22), .inl (G.2 0, 2, .inl c22)), ((r 24), .inl (G.2 0, 14, .inl c24)), ((r 25), .inl (G.2 0, 14, .inl c25)), ((r 26), .inl (G.2 0, 2, .inl c26)), ((r 28), .inl (G.2 0, 12, .inl c28)), ((r 29), .inl (G.2 0, 12, .inl c29)), ((r 30), .inl (G.2 0, 2, .inl c30)), ((r 31), .inl (G.2 0, 2, .inl c31)), ((r 32), .inl (G.2 0, 8, .inl c32)), ((r 33), .inl (G.2 0, 8, .inl c33)), ((r 35), .inl (G.2 2, 260, .inl c35)), ((r 36), .inl (G.2 0, 260, .inl c36)), ((r 37), .inl (G.2 0, 260, .inl c37)), ((r 38), .inl (G.2 0, 260, .inl c38)), ((r 39), .inl (G.2 0, 260, .inl c39)), ((r 41), .inl (G.2 0, 840, .inl c41)), ((r 42), .inl (G.2 0, 840, .inl c42)), ((r 45), .inl (G.2 0, 9, .inl d45)), ((r 46), .inl (G.2 0, 400, .inl d46)), ((r 48), .inl (G.2 0, 71, .inl c48)), ((r 49), .inl (G.2 0, 71, .inl d49)), ((r 58), .inl (G.2 0, 42, .inl d58)), ((r 59), .inl (G.2 0, 896, .inl d59))] ∧ (∃ τ W9 : Nat → Int32, zy_q 71 c48 τ ∧ (∀ Λ, (zr_HD lv c32 c33 c35 c36 c37 c38 c39 c41 c42 (c30 lv)) Λ → ∀ i j, i < pp → j < pq → W9 (6 * i + j) = zj_p ((zr_Sx 99 lv τ c24 c28 c25 c29 (Λ 0)) i j) (c30 lv) (τ (14 + i) = 1) (-1)) ∧ ∃ M9, zg_J (zg_b (fun x y => x + y) (fun _ y => y) 0 1 (fun a p => ¬ W9 (6 * a + p) < 0) (fun a p => W9 (6 * a + p)) pp pq) pq 0 M9 ∧ rv = M9 0)) := by
  refine zz_enteri (by decide +kernel) (Nat.le_of_ble_eq_true rfl) ?_
  intro p e s m args below meth c A Q ls S hnm hret hw hl
  have hl : lv_has ls 5 [(0, .ref (r 0))] := hl
  have hx := S.1
  have hb := S.2.1
  refine lv_aload_n hx hb dX10_ways_0 rfl (lv_at hl 0 rfl) ?_
  refine lv_aload_n hx hb dX10_ways_1 rfl (lv_at hl 0 rfl) ?_
  refine zz_get (v := .ref (r 30)) S hw fgX10_67 0 rfl rfl dX10_ways_2 ?_
  refine lv_aload_n hx hb dX10_ways_5 rfl (lv_at hl 0 rfl) ?_
  refine zz_get (v := .int (nI lv)) S hw fgX10_236 0 rfl rfl dX10_ways_6 ?_
  refine zz_iald (v := (c30 lv)) S hw 7 rfl (vp_in_nI (n := lv) (by omega) (by decide)) (congrArg c30 (nI_clamp (n := lv) (by omega))) dX10_ways_9 ?_
  refine zz_callV (qb := 0) (As := [.int (c30 lv)]) (rest := []) (wr := [((r 59), .inl (G.2 0, 896, .inl c59))]) S hw hl.1 lX10_403 (c_x_fillsStands l G r j0 j2 j4 j10 j11 j12 j13 j14 j15 j16 j17 j19 j20 j34 j40 j44 j47 j50 j51 j56 j61 lv pp pq c22 c24 c25 c26 c28 c29 c30 c31 c32 c33 c35 c36 c37 c38 c39 c41 c42 c45 c46 c48 c49 c58 (c30 lv) (by first | assumption | omega | exact Or.inr ⟨_, by omega, rfl⟩ | (unfold zz_sok; decide) | decide | exact (fun j hj => (hv7 j hj).1)) (by first | assumption | omega | exact Or.inr ⟨_, by omega, rfl⟩ | (unfold zz_sok; decide) | decide | exact (fun j hj => (hv7 j hj).1)) (by first | assumption | omega | exact Or.inr ⟨_, by omega, rfl⟩ | (unfold zz_sok; decide) | decide | exact (fun j hj => (hv7 j hj).1)) (by first | assumption | omega | exact Or.inr ⟨_, by omega, rfl⟩ | (unfold zz_sok; decide) | decide | exact (fun j hj => (hv7 j hj).1)) (by first | assumption | omega | exact Or.inr ⟨_, by omega, rfl⟩ | (unfold zz_sok; decide) | decide | exact (fun j hj => (hv7 j hj).1)) (by first | assumption | omega | exact Or.inr ⟨_, by omega, rfl⟩ | (unfold zz_sok; decide) | decide | exact (fun j hj => (hv7 j hj).1))) ⟨Nat.le_of_ble_eq_true rfl, Nat.le_of_ble_eq_true rfl⟩ ⟨Nat.le_of_ble_eq_true rfl, Nat.le_of_ble_eq_true rfl⟩ [0, 1, 2, 3, 4, 5, 6, 7, 8, 9, 10, 11, 12, 13, 14, 15, 16, 17, 18, 19, 20, 21, 22] [23] (by decide +kernel) rfl rfl (by decide +kernel) (by decide +kernel) rfl rfl rfl rfl (Nat.le_of_ble_eq_true rfl) dX10_ways_10 ?_
  clear hw
  intro rr u H locs hp hw
  refine hp.elim fun k47_1 zg0 => zg0.elim fun k50_2 zg1 => zg1.elim fun k51_3 zg2 => zg2.elim fun d45_4 zg3 => zg3.elim fun d46_5 zg4 => zg4.elim fun d49_6 zg5 => zg5.elim fun d58_7 zg6 => zg6.elim fun zee1 zg7 => zg7.elim fun zee2 zg8 => zg8.elim fun hq10_0 hq10_1 => ?_
  clear hp zg0 zg1 zg2 zg3 zg4 zg5 zg6 zg7 zg8
  subst zee1
  subst zee2
  replace hw : zz_w G A s [((r 59), .inl (G.2 0, 896, .inl c59)), ((r 0), .inr (10, (zz_mo r [(0, j0), (2, j2), (4, j4), (10, j10), (11, j11), (12, j12), (13, j13), (14, j14), (15, j15), (16, j16), (17, j17), (18, (nI lv)), (19, j19), (20, j20), (34, j34), (40, j40), (44, j44), (47, k47_1), (50, k50_2), (51, k51_3), (56, j56), (61, j61)]))), ((r 22), .inl (G.2 0, 2, .inl c22)), ((r 24), .inl (G.2 0, 14, .inl c24)), ((r 25), .inl (G.2 0, 14, .inl c25)), ((r 26), .inl (G.2 0, 2, .inl c26)), ((r 28), .inl (G.2 0, 12, .inl c28)), ((r 29), .inl (G.2 0, 12, .inl c29)), ((r 30), .inl (G.2 0, 2, .inl c30)), ((r 31), .inl (G.2 0, 2, .inl c31)), ((r 32), .inl (G.2 0, 8, .inl c32)), ((r 33), .inl (G.2 0, 8, .inl c33)), ((r 35), .inl (G.2 2, 260, .inl c35)), ((r 36), .inl (G.2 0, 260, .inl c36)), ((r 37), .inl (G.2 0, 260, .inl c37)), ((r 38), .inl (G.2 0, 260, .inl c38)), ((r 39), .inl (G.2 0, 260, .inl c39)), ((r 41), .inl (G.2 0, 840, .inl c41)), ((r 42), .inl (G.2 0, 840, .inl c42)), ((r 45), .inl (G.2 0, 9, .inl d45_4)), ((r 46), .inl (G.2 0, 400, .inl d46_5)), ((r 48), .inl (G.2 0, 71, .inl c48)), ((r 49), .inl (G.2 0, 71, .inl d49_6)), ((r 58), .inl (G.2 0, 42, .inl d58_7))] H _ := hw
  refine W.eq (g2 := F0 m 13 ls []) rfl ?_
  refine lv_aload_n hx hb dX10_ways_13 rfl (lv_at hl 0 rfl) ?_
  refine lv_iconst (v := 1) hx hb dX10_ways_14 (by decide) ?_
  refine zz_callV (qb := 1) (As := [.int 1]) (rest := []) (wr := [((r 22), .inl (G.2 0, 2, .inl c22)), ((r 24), .inl (G.2 0, 14, .inl c24)), ((r 25), .inl (G.2 0, 14, .inl c25)), ((r 28), .inl (G.2 0, 12, .inl c28)), ((r 29), .inl (G.2 0, 12, .inl c29)), ((r 30), .inl (G.2 0, 2, .inl c30)), ((r 31), .inl (G.2 0, 2, .inl c31)), ((r 32), .inl (G.2 0, 8, .inl c32)), ((r 33), .inl (G.2 0, 8, .inl c33)), ((r 35), .inl (G.2 2, 260, .inl c35)), ((r 36), .inl (G.2 0, 260, .inl c36)), ((r 37), .inl (G.2 0, 260, .inl c37)), ((r 38), .inl (G.2 0, 260, .inl c38)), ((r 39), .inl (G.2 0, 260, .inl c39)), ((r 41), .inl (G.2 0, 840, .inl c41)), ((r 42), .inl (G.2 0, 840, .inl c42)), ((r 45), .inl (G.2 0, 9, .inl d45_4)), ((r 46), .inl (G.2 0, 400, .inl d46_5)), ((r 48), .inl (G.2 0, 71, .inl c48)), ((r 49), .inl (G.2 0, 71, .inl d49_6)), ((r 58), .inl (G.2 0, 42, .inl d58_7))]) S hw hl.1 lX10_406 (c_x_ends l G r j0 j2 j4 j10 j11 j12 j13 j14 j15 j16 j17 j19 j20 j34 j40 j44 k47_1 k50_2 k51_3 j56 j61 lv pq c26 c59 1 (by first | assumption | omega | exact Or.inr ⟨_, by omega, rfl⟩ | (unfold zz_sok; decide) | decide | exact (fun j hj => (hv7 j hj).1)) (by first | assumption | omega | exact Or.inr ⟨_, by omega, rfl⟩ | (unfold zz_sok; decide) | decide | exact (fun j hj => (hv7 j hj).1)) (by first | assumption | omega | exact Or.inr ⟨_, by omega, rfl⟩ | (unfold zz_sok; decide) | decide | exact (fun j hj => (hv7 j hj).1))) ⟨Nat.le_of_ble_eq_true rfl, Nat.le_of_ble_eq_true rfl⟩ ⟨Nat.le_of_ble_eq_true rfl, Nat.le_of_ble_eq_true rfl⟩ [1, 5, 0] [2, 3, 4, 6, 7, 8, 9, 10, 11, 12, 13, 14, 15, 16, 17, 18, 19, 20, 21, 22, 23] (by decide +kernel) rfl rfl (by decide +kernel) (by decide +kernel) rfl rfl rfl rfl (Nat.le_of_ble_eq_true rfl) dX10_ways_15 ?_
  clear hw
  intro rr u H locs hp hw
  refine hp.elim fun d59_8 zg0 => zg0.elim fun zee1 zg1 => zg1.elim fun zee2 hq15_0 => ?_
  clear hp zg0 zg1
  subst zee1
  subst zee2
  replace hw : zz_w G A s [((r 22), .inl (G.2 0, 2, .inl c22)), ((r 24), .inl (G.2 0, 14, .inl c24)), ((r 25), .inl (G.2 0, 14, .inl c25)), ((r 28), .inl (G.2 0, 12, .inl c28)), ((r 29), .inl (G.2 0, 12, .inl c29)), ((r 30), .inl (G.2 0, 2, .inl c30)), ((r 31), .inl (G.2 0, 2, .inl c31)), ((r 32), .inl (G.2 0, 8, .inl c32)), ((r 33), .inl (G.2 0, 8, .inl c33)), ((r 35), .inl (G.2 2, 260, .inl c35)), ((r 36), .inl (G.2 0, 260, .inl c36)), ((r 37), .inl (G.2 0, 260, .inl c37)), ((r 38), .inl (G.2 0, 260, .inl c38)), ((r 39), .inl (G.2 0, 260, .inl c39)), ((r 41), .inl (G.2 0, 840, .inl c41)), ((r 42), .inl (G.2 0, 840, .inl c42)), ((r 45), .inl (G.2 0, 9, .inl d45_4)), ((r 46), .inl (G.2 0, 400, .inl d46_5)), ((r 48), .inl (G.2 0, 71, .inl c48)), ((r 49), .inl (G.2 0, 71, .inl d49_6)), ((r 58), .inl (G.2 0, 42, .inl d58_7)), ((r 0), .inr (10, (zz_mo r [(0, j0), (2, j2), (4, j4), (10, j10), (11, j11), (12, j12), (13, j13), (14, j14), (15, j15), (16, j16), (17, j17), (18, (nI lv)), (19, j19), (20, j20), (34, j34), (40, j40), (44, j44), (47, k47_1), (50, k50_2), (51, k51_3), (56, j56), (61, j61)]))), ((r 26), .inl (G.2 0, 2, .inl c26)), ((r 59), .inl (G.2 0, 896, .inl d59_8))] H _ := hw
  refine W.eq (g2 := F0 m 18 ls []) rfl ?_
  refine lv_aload_n hx hb dX10_ways_18 rfl (lv_at hl 0 rfl) ?_
  refine zz_get (v := .ref (r 26)) S hw fgX10_55 21 rfl rfl dX10_ways_19 ?_
  refine lv_aload_n hx hb dX10_ways_22 rfl (lv_at hl 0 rfl) ?_
  refine zz_get (v := .int (nI lv)) S hw fgX10_236 21 rfl rfl dX10_ways_23 ?_
  refine W.eq (g2 := F0 m 26 ls [.int (nI lv), .ref (r 26)]) rfl ?_
  refine zz_iald (v := (nI pq)) S hw 22 rfl (vp_in_nI (n := lv) (by omega) (by decide)) (by rw [show ((nI lv) : Int32).toNatClampNeg = lv from nI_clamp (n := lv) (by omega)]; exact hpa) dX10_ways_26 ?_
  refine lv_iconst (v := 1) hx hb dX10_ways_27 (by decide) ?_
  refine lv_isub hx hb dX10_ways_28 ?_
  refine zz_topi (y := (zz_pm pq)) (zz_pms _) ?_
  refine lv_istore_n (lv' := [(1, .int (zz_pm pq)), (0, .ref (r 0))]) hx hb dX10_ways_29 rfl hl (by decide) rfl (fun ls hl => ?_)
  have lp30_166 : ∀ (vp9 : Nat) (vF98 : Nat → Int32) (H : Heap) (locs : List Loc) (ls : Array Slot), vp9 ≤ pq → zg_J (zg_b (fun x y => x + y) (fun _ y => y) 0 1 (fun a p => ¬ d58_7 (6 * a + p) < 0) (fun a p => d58_7 (6 * a + p)) pp pq) pq vp9 vF98 → zz_w G A s [((r 22), .inl (G.2 0, 2, .inl c22)), ((r 24), .inl (G.2 0, 14, .inl c24)), ((r 25), .inl (G.2 0, 14, .inl c25)), ((r 28), .inl (G.2 0, 12, .inl c28)), ((r 29), .inl (G.2 0, 12, .inl c29)), ((r 30), .inl (G.2 0, 2, .inl c30)), ((r 31), .inl (G.2 0, 2, .inl c31)), ((r 32), .inl (G.2 0, 8, .inl c32)), ((r 33), .inl (G.2 0, 8, .inl c33)), ((r 35), .inl (G.2 2, 260, .inl c35)), ((r 36), .inl (G.2 0, 260, .inl c36)), ((r 37), .inl (G.2 0, 260, .inl c37)), ((r 38), .inl (G.2 0, 260, .inl c38)), ((r 39), .inl (G.2 0, 260, .inl c39)), ((r 41), .inl (G.2 0, 840, .inl c41)), ((r 42), .inl (G.2 0, 840, .inl c42)), ((r 45), .inl (G.2 0, 9, .inl d45_4)), ((r 46), .inl (G.2 0, 400, .inl d46_5)), ((r 48), .inl (G.2 0, 71, .inl c48)), ((r 49), .inl (G.2 0, 71, .inl d49_6)), ((r 58), .inl (G.2 0, 42, .inl d58_7)), ((r 0), .inr (10, (zz_mo r [(0, j0), (2, j2), (4, j4), (10, j10), (11, j11), (12, j12), (13, j13), (14, j14), (15, j15), (16, j16), (17, j17), (18, (nI lv)), (19, j19), (20, j20), (34, j34), (40, j40), (44, j44), (47, k47_1), (50, k50_2), (51, k51_3), (56, j56), (61, j61)]))), ((r 26), .inl (G.2 0, 2, .inl c26)), ((r 59), .inl (G.2 0, 896, .inl vF98))] H locs → lv_has ls 5 [(1, .int (zz_pm vp9)), (0, .ref (r 0))] → W p l e (zz_rm 5 0 0) s m args below meth c H locs (0) (0) Q (F0 m 30 ls []) := by
    intro vp9
    induction vp9 with
    | zero =>
      intro vF98 H locs ls hp30 hv30_165 hw hl
      have hl : lv_has ls 5 [(1, .int (-1)), (0, .ref (r 0))] := hl
      refine lv_iload_n hx hb dX10_ways_30 rfl (lv_at hl 0 rfl) ?_
      refine lv_if_lt (tgt := 115) hx hb dX10_ways_31 (by decide) (fun _ => ?_) (fun cc => absurd cc (by decide))
      refine lv_aload_n hx hb dX10_ways_115 rfl (lv_at hl 1 rfl) ?_
      refine zz_get (v := .ref (r 59)) S hw fgX10_134 21 rfl rfl dX10_ways_116 ?_
      refine lv_iconst (v := 0) hx hb dX10_ways_119 (by decide) ?_
      refine zz_iald (v := (vF98 0)) S hw 23 rfl (vp_in_nI (n := 0) (by decide) (by decide)) (congrArg vF98 (nI_clamp (n := 0) (by omega))) dX10_ways_120 ?_
      exact hret _ _ _ _ _ _ ⟨(vF98 0), k47_1, k50_2, k51_3, d45_4, d46_5, d49_6, d58_7, vF98, rfl, rfl, ⟨_, _, hq10_0, hq10_1, _, hv30_165, rfl⟩⟩ (hw.sub [21, 0, 1, 2, 22, 3, 4, 5, 6, 7, 8, 9, 10, 11, 12, 13, 14, 15, 16, 17, 18, 19, 20, 23] (by decide +kernel) rfl) rfl dX10_ways_121
    | succ vp9 ih30 =>
      intro vF98 H locs ls hp30 hv30_165 hw hl
      have hl : lv_has ls 5 [(1, .int (nI vp9)), (0, .ref (r 0))] := hl
      refine lv_iload_n hx hb dX10_ways_30 rfl (lv_at hl 0 rfl) ?_
      refine lv_if_lt (tgt := 115) hx hb dX10_ways_31 (by decide) (fun cc => absurd cc (nI_pos (n := vp9) (by omega))) (fun _ => ?_)
      refine lv_iconst (v := 0) hx hb dX10_ways_34 (by decide) ?_
      refine lv_istore_n (lv' := [(2, .int 0), (1, .int (nI vp9)), (0, .ref (r 0))]) hx hb dX10_ways_35 rfl hl (by decide) rfl (fun ls hl => ?_)
      refine W.eq (g2 := F0 m 36 ls []) rfl ?_
      have lp36_212 : ∀ (vn168 vi167 : Nat) (vF189 : Nat → Int32) (H : Heap) (locs : List Loc) (ls : Array Slot), vi167 ≤ 128 → 128 < vi167 + vn168 → zg_J (zg_b (fun x y => x + y) (fun _ y => y) 0 1 (fun a p => ¬ d58_7 (6 * a + p) < 0) (fun a p => d58_7 (6 * a + p)) pp pq) pq (vp9 + 1) vF189 → (∀ s, s < vi167 → vF189 (128 * vp9 + s) = zg_b (fun x y => x + y) (fun _ y => y) 0 1 (fun a p => ¬ d58_7 (6 * a + p) < 0) (fun a p => d58_7 (6 * a + p)) pp pq (pq - vp9) s) → zz_w G A s [((r 22), .inl (G.2 0, 2, .inl c22)), ((r 24), .inl (G.2 0, 14, .inl c24)), ((r 25), .inl (G.2 0, 14, .inl c25)), ((r 28), .inl (G.2 0, 12, .inl c28)), ((r 29), .inl (G.2 0, 12, .inl c29)), ((r 30), .inl (G.2 0, 2, .inl c30)), ((r 31), .inl (G.2 0, 2, .inl c31)), ((r 32), .inl (G.2 0, 8, .inl c32)), ((r 33), .inl (G.2 0, 8, .inl c33)), ((r 35), .inl (G.2 2, 260, .inl c35)), ((r 36), .inl (G.2 0, 260, .inl c36)), ((r 37), .inl (G.2 0, 260, .inl c37)), ((r 38), .inl (G.2 0, 260, .inl c38)), ((r 39), .inl (G.2 0, 260, .inl c39)), ((r 41), .inl (G.2 0, 840, .inl c41)), ((r 42), .inl (G.2 0, 840, .inl c42)), ((r 45), .inl (G.2 0, 9, .inl d45_4)), ((r 46), .inl (G.2 0, 400, .inl d46_5)), ((r 48), .inl (G.2 0, 71, .inl c48)), ((r 49), .inl (G.2 0, 71, .inl d49_6)), ((r 58), .inl (G.2 0, 42, .inl d58_7)), ((r 0), .inr (10, (zz_mo r [(0, j0), (2, j2), (4, j4), (10, j10), (11, j11), (12, j12), (13, j13), (14, j14), (15, j15), (16, j16), (17, j17), (18, (nI lv)), (19, j19), (20, j20), (34, j34), (40, j40), (44, j44), (47, k47_1), (50, k50_2), (51, k51_3), (56, j56), (61, j61)]))), ((r 26), .inl (G.2 0, 2, .inl c26)), ((r 59), .inl (G.2 0, 896, .inl vF189))] H locs → lv_has ls 5 [(2, .int (nI vi167)), (1, .int (nI vp9)), (0, .ref (r 0))] → W p l e (zz_rm 5 0 0) s m args below meth c H locs (0) (0) Q (F0 m 36 ls []) := by
        intro vn168
        induction vn168 with
        | zero => intro vi167 vF189 H locs ls hi1 hi2; exact absurd hi2 (by omega)
        | succ vn168 ih36 =>
          intro vi167 vF189 H locs ls hi36a hi36b hv36_210 hv36_211 hw hl
          refine lv_iload_n hx hb dX10_ways_36 rfl (lv_at hl 0 rfl) ?_
          refine lv_sipush (v := 128) hx hb dX10_ways_37 (by decide) ?_
          refine lv_icmp_ge (tgt := 109) hx hb dX10_ways_40 (by decide) (fun c40_213 => ?_) (fun c40_213 => ?_)
          · skip
            have c40_213n : 128 ≤ vi167 := (zz_le (a := 128) (b := vi167) rfl rfl (by omega) (by omega)).mp c40_213
            refine lv_iinc (v := (zz_pm vp9)) (lv' := [(1, .int (zz_pm vp9)), (2, .int (nI vi167)), (0, .ref (r 0))]) hx hb dX10_ways_109 hl (k := 1) rfl (zz_pmd _) (by decide) rfl (fun ls hl => ?_)
            refine lv_goto (tgt := 30) hx hb dX10_ways_112 (by decide) ?_
            exact ih30 vF189 _ _ _ (by omega) (zg_j3 hv36_210 hv36_211 (by omega)) hw (lv_sub hl [0, 2] rfl)
          · skip
            have c40_213n : ¬ (128 ≤ vi167) := fun z => c40_213 ((zz_le (a := 128) (b := vi167) rfl rfl (by omega) (by omega)).mpr z)
            refine lv_iconst (v := 0) hx hb dX10_ways_43 (by decide) ?_
            refine lv_istore_n (lv' := [(3, .int 0), (2, .int (nI vi167)), (1, .int (nI vp9)), (0, .ref (r 0))]) hx hb dX10_ways_44 rfl hl (by decide) rfl (fun ls hl => ?_)
            refine lv_iconst (v := 0) hx hb dX10_ways_45 (by decide) ?_
            refine lv_istore (lv' := [(4, .int 0), (3, .int 0), (2, .int (nI vi167)), (1, .int (nI vp9)), (0, .ref (r 0))]) hx hb dX10_ways_46 hl (by decide) rfl (fun ls hl => ?_)
            have lp48_227 : ∀ (vn215 vi214 : Nat) (vy220 : Int32) (H : Heap) (locs : List Loc) (ls : Array Slot), vi214 ≤ pp → pp < vi214 + vn215 → vy220 = zg_x (fun x y => x + y) 0 (fun a => zm_bit (nI vi167) (nI a) = 0 ∧ ¬ d58_7 (6 * a + vp9) < 0) (fun a => (fun _ y => y) (d58_7 (6 * a + vp9)) (vF189 (128 * vp9 + 128 + zj_u vi167 a))) vi214 → zz_w G A s [((r 22), .inl (G.2 0, 2, .inl c22)), ((r 24), .inl (G.2 0, 14, .inl c24)), ((r 25), .inl (G.2 0, 14, .inl c25)), ((r 28), .inl (G.2 0, 12, .inl c28)), ((r 29), .inl (G.2 0, 12, .inl c29)), ((r 30), .inl (G.2 0, 2, .inl c30)), ((r 31), .inl (G.2 0, 2, .inl c31)), ((r 32), .inl (G.2 0, 8, .inl c32)), ((r 33), .inl (G.2 0, 8, .inl c33)), ((r 35), .inl (G.2 2, 260, .inl c35)), ((r 36), .inl (G.2 0, 260, .inl c36)), ((r 37), .inl (G.2 0, 260, .inl c37)), ((r 38), .inl (G.2 0, 260, .inl c38)), ((r 39), .inl (G.2 0, 260, .inl c39)), ((r 41), .inl (G.2 0, 840, .inl c41)), ((r 42), .inl (G.2 0, 840, .inl c42)), ((r 45), .inl (G.2 0, 9, .inl d45_4)), ((r 46), .inl (G.2 0, 400, .inl d46_5)), ((r 48), .inl (G.2 0, 71, .inl c48)), ((r 49), .inl (G.2 0, 71, .inl d49_6)), ((r 58), .inl (G.2 0, 42, .inl d58_7)), ((r 0), .inr (10, (zz_mo r [(0, j0), (2, j2), (4, j4), (10, j10), (11, j11), (12, j12), (13, j13), (14, j14), (15, j15), (16, j16), (17, j17), (18, (nI lv)), (19, j19), (20, j20), (34, j34), (40, j40), (44, j44), (47, k47_1), (50, k50_2), (51, k51_3), (56, j56), (61, j61)]))), ((r 26), .inl (G.2 0, 2, .inl c26)), ((r 59), .inl (G.2 0, 896, .inl vF189))] H locs → lv_has ls 5 [(4, .int (nI vi214)), (3, .int vy220), (2, .int (nI vi167)), (1, .int (nI vp9)), (0, .ref (r 0))] → W p l e (zz_rm 5 0 0) s m args below meth c H locs (0) (0) Q (F0 m 48 ls []) := by
              intro vn215
              induction vn215 with
              | zero => intro vi214 vy220 H locs ls hi1 hi2; exact absurd hi2 (by omega)
              | succ vn215 ih48 =>
                intro vi214 vy220 H locs ls hi48a hi48b hv48_226 hw hl
                refine lv_iload hx hb dX10_ways_48 (lv_at hl 0 rfl) ?_
                refine lv_aload_n hx hb dX10_ways_50 rfl (lv_at hl 4 rfl) ?_
                refine zz_get (v := .ref (r 22)) S hw fgX10_43 21 rfl rfl dX10_ways_51 ?_
                refine lv_aload_n hx hb dX10_ways_54 rfl (lv_at hl 4 rfl) ?_
                refine zz_get (v := .int (nI lv)) S hw fgX10_236 21 rfl rfl dX10_ways_55 ?_
                refine zz_iald (v := (nI pp)) S hw 0 rfl (vp_in_nI (n := lv) (by omega) (by decide)) (by rw [show ((nI lv) : Int32).toNatClampNeg = lv from nI_clamp (n := lv) (by omega)]; exact hpe) dX10_ways_58 ?_
                refine W.eq (g2 := F0 m 59 ls [.int (nI pp), .int (nI vi214)]) rfl ?_
                refine lv_icmp_ge (tgt := 90) hx hb dX10_ways_59 (by decide) (fun c59_228 => ?_) (fun c59_228 => ?_)
                · skip
                  have c59_228n : pp ≤ vi214 := (zz_le (a := pp) (b := vi214) rfl rfl (by omega) (by omega)).mp c59_228
                  refine lv_aload_n hx hb dX10_ways_90 rfl (lv_at hl 4 rfl) ?_
                  refine zz_get (v := .ref (r 59)) S hw fgX10_134 21 rfl rfl dX10_ways_91 ?_
                  refine lv_sipush (v := 128) hx hb dX10_ways_94 (by decide) ?_
                  refine lv_iload_n hx hb dX10_ways_97 rfl (lv_at hl 3 rfl) ?_
                  refine lv_imul hx hb dX10_ways_98 ?_
                  refine zz_topi (y := (nI (128 * vp9))) (pk_mul _ _) ?_
                  refine lv_iload_n hx hb dX10_ways_99 rfl (lv_at hl 2 rfl) ?_
                  refine lv_iadd hx hb dX10_ways_100 ?_
                  refine zz_topi (y := (nI ((128 * vp9) + vi167))) (nI_add _ _) ?_
                  refine lv_iload_n hx hb dX10_ways_101 rfl (lv_at hl 1 rfl) ?_
                  refine zz_iast (ws' := [((r 22), .inl (G.2 0, 2, .inl c22)), ((r 24), .inl (G.2 0, 14, .inl c24)), ((r 25), .inl (G.2 0, 14, .inl c25)), ((r 28), .inl (G.2 0, 12, .inl c28)), ((r 29), .inl (G.2 0, 12, .inl c29)), ((r 30), .inl (G.2 0, 2, .inl c30)), ((r 31), .inl (G.2 0, 2, .inl c31)), ((r 32), .inl (G.2 0, 8, .inl c32)), ((r 33), .inl (G.2 0, 8, .inl c33)), ((r 35), .inl (G.2 2, 260, .inl c35)), ((r 36), .inl (G.2 0, 260, .inl c36)), ((r 37), .inl (G.2 0, 260, .inl c37)), ((r 38), .inl (G.2 0, 260, .inl c38)), ((r 39), .inl (G.2 0, 260, .inl c39)), ((r 41), .inl (G.2 0, 840, .inl c41)), ((r 42), .inl (G.2 0, 840, .inl c42)), ((r 45), .inl (G.2 0, 9, .inl d45_4)), ((r 46), .inl (G.2 0, 400, .inl d46_5)), ((r 48), .inl (G.2 0, 71, .inl c48)), ((r 49), .inl (G.2 0, 71, .inl d49_6)), ((r 58), .inl (G.2 0, 42, .inl d58_7)), ((r 0), .inr (10, (zz_mo r [(0, j0), (2, j2), (4, j4), (10, j10), (11, j11), (12, j12), (13, j13), (14, j14), (15, j15), (16, j16), (17, j17), (18, (nI lv)), (19, j19), (20, j20), (34, j34), (40, j40), (44, j44), (47, k47_1), (50, k50_2), (51, k51_3), (56, j56), (61, j61)]))), ((r 26), .inl (G.2 0, 2, .inl c26)), ((r 59), .inl (G.2 0, 896, .inl (upd vF189 ((128 * vp9) + vi167) vy220)))]) (g := (upd vF189 ((128 * vp9) + vi167) vy220)) S hw 23 rfl (vp_in_nI (n := ((128 * vp9) + vi167)) (by omega) (by decide)) (zz_upn (n := ((128 * vp9) + vi167)) (by omega)) rfl dX10_ways_102 ?_
                  clear hw
                  intro H locs hw
                  refine lv_iinc (v := (nI (vi167 + 1))) (lv' := [(2, .int (nI (vi167 + 1))), (4, .int (nI vi214)), (3, .int vy220), (1, .int (nI vp9)), (0, .ref (r 0))]) hx hb dX10_ways_103 hl (k := 2) rfl (nI_add _ 1) (by decide) rfl (fun ls hl => ?_)
                  refine lv_goto (tgt := 36) hx hb dX10_ways_106 (by decide) ?_
                  exact ih36 (vi167 + 1) (upd vF189 ((128 * vp9) + vi167) vy220) _ _ _ (by omega) (by omega) (zg_j1 hv36_210 (by omega)) (zg_j2 hv36_211 (zg_jt hv36_210 hpp (by omega) (by omega) (zg_xe hv48_226 (by omega)))) hw (lv_sub hl [0, 3, 4] rfl)
                · skip
                  have c59_228n : ¬ (pp ≤ vi214) := fun z => c59_228 ((zz_le (a := pp) (b := vi214) rfl rfl (by omega) (by omega)).mpr z)
                  refine lv_aload_n hx hb dX10_ways_62 rfl (lv_at hl 4 rfl) ?_
                  refine lv_iload hx hb dX10_ways_63 (lv_at hl 0 rfl) ?_
                  refine lv_iload_n hx hb dX10_ways_65 rfl (lv_at hl 3 rfl) ?_
                  refine W.eq (g2 := F0 m 66 ls [.int (nI vp9), .int (nI vi214), .ref (r 0)]) rfl ?_
                  refine lv_iload_n hx hb dX10_ways_66 rfl (lv_at hl 2 rfl) ?_
                  refine zz_callV (qb := 21) (As := [.int (nI vi214), .int (nI vp9), .int (nI vi167)]) (rest := []) (wr := [((r 22), .inl (G.2 0, 2, .inl c22)), ((r 24), .inl (G.2 0, 14, .inl c24)), ((r 25), .inl (G.2 0, 14, .inl c25)), ((r 28), .inl (G.2 0, 12, .inl c28)), ((r 29), .inl (G.2 0, 12, .inl c29)), ((r 30), .inl (G.2 0, 2, .inl c30)), ((r 31), .inl (G.2 0, 2, .inl c31)), ((r 32), .inl (G.2 0, 8, .inl c32)), ((r 33), .inl (G.2 0, 8, .inl c33)), ((r 35), .inl (G.2 2, 260, .inl c35)), ((r 36), .inl (G.2 0, 260, .inl c36)), ((r 37), .inl (G.2 0, 260, .inl c37)), ((r 38), .inl (G.2 0, 260, .inl c38)), ((r 39), .inl (G.2 0, 260, .inl c39)), ((r 41), .inl (G.2 0, 840, .inl c41)), ((r 42), .inl (G.2 0, 840, .inl c42)), ((r 45), .inl (G.2 0, 9, .inl d45_4)), ((r 46), .inl (G.2 0, 400, .inl d46_5)), ((r 48), .inl (G.2 0, 71, .inl c48)), ((r 49), .inl (G.2 0, 71, .inl d49_6)), ((r 26), .inl (G.2 0, 2, .inl c26)), ((r 59), .inl (G.2 0, 896, .inl vF189))]) S hw hl.1 lX10_409 (c_x_isFree l G r j0 j2 j4 j10 j11 j12 j13 j14 j15 j16 j17 (nI lv) j19 j20 j34 j40 j44 k47_1 k50_2 k51_3 j56 j61 d58_7 vi214 vp9 vi167 (by first | assumption | omega | exact Or.inr ⟨_, by omega, rfl⟩ | (unfold zz_sok; decide) | decide | exact (fun j hj => (hv7 j hj).1)) (by first | assumption | omega | exact Or.inr ⟨_, by omega, rfl⟩ | (unfold zz_sok; decide) | decide | exact (fun j hj => (hv7 j hj).1)) (by first | assumption | omega | exact Or.inr ⟨_, by omega, rfl⟩ | (unfold zz_sok; decide) | decide | exact (fun j hj => (hv7 j hj).1))) ⟨Nat.le_of_ble_eq_true rfl, Nat.le_of_ble_eq_true rfl⟩ ⟨Nat.le_of_ble_eq_true rfl, Nat.le_of_ble_eq_true rfl⟩ [21, 20] [0, 1, 2, 3, 4, 5, 6, 7, 8, 9, 10, 11, 12, 13, 14, 15, 16, 17, 18, 19, 22, 23] (by decide +kernel) rfl rfl (by decide +kernel) (by decide +kernel) rfl rfl rfl rfl (Nat.le_of_ble_eq_true rfl) dX10_ways_67 ?_
                  clear hw
                  intro rr u H locs hp hw
                  refine hp.elim fun rv_229 zg0 => zg0.elim fun zee1 zg1 => zg1.elim fun zee2 zg2 => zg2.elim fun hq67_0 hq67_1 => ?_
                  clear hp zg0 zg1 zg2
                  subst zee1
                  subst zee2
                  replace hw : zz_w G A s [((r 22), .inl (G.2 0, 2, .inl c22)), ((r 24), .inl (G.2 0, 14, .inl c24)), ((r 25), .inl (G.2 0, 14, .inl c25)), ((r 28), .inl (G.2 0, 12, .inl c28)), ((r 29), .inl (G.2 0, 12, .inl c29)), ((r 30), .inl (G.2 0, 2, .inl c30)), ((r 31), .inl (G.2 0, 2, .inl c31)), ((r 32), .inl (G.2 0, 8, .inl c32)), ((r 33), .inl (G.2 0, 8, .inl c33)), ((r 35), .inl (G.2 2, 260, .inl c35)), ((r 36), .inl (G.2 0, 260, .inl c36)), ((r 37), .inl (G.2 0, 260, .inl c37)), ((r 38), .inl (G.2 0, 260, .inl c38)), ((r 39), .inl (G.2 0, 260, .inl c39)), ((r 41), .inl (G.2 0, 840, .inl c41)), ((r 42), .inl (G.2 0, 840, .inl c42)), ((r 45), .inl (G.2 0, 9, .inl d45_4)), ((r 46), .inl (G.2 0, 400, .inl d46_5)), ((r 48), .inl (G.2 0, 71, .inl c48)), ((r 49), .inl (G.2 0, 71, .inl d49_6)), ((r 26), .inl (G.2 0, 2, .inl c26)), ((r 59), .inl (G.2 0, 896, .inl vF189)), ((r 0), .inr (10, (zz_mo r [(0, j0), (2, j2), (4, j4), (10, j10), (11, j11), (12, j12), (13, j13), (14, j14), (15, j15), (16, j16), (17, j17), (18, (nI lv)), (19, j19), (20, j20), (34, j34), (40, j40), (44, j44), (47, k47_1), (50, k50_2), (51, k51_3), (56, j56), (61, j61)]))), ((r 58), .inl (G.2 0, 42, .inl d58_7))] H _ := hw
                  refine W.eq (g2 := F0 m 70 ls [.int rv_229]) rfl ?_
                  refine lv_if_eq (tgt := 84) hx hb dX10_ways_70 (by decide) (fun c70_230 => ?_) (fun c70_230 => ?_)
                  · skip
                    refine lv_iinc (v := (nI (vi214 + 1))) (lv' := [(4, .int (nI (vi214 + 1))), (3, .int vy220), (2, .int (nI vi167)), (1, .int (nI vp9)), (0, .ref (r 0))]) hx hb dX10_ways_84 hl (k := 0) rfl (nI_add _ 1) (by decide) rfl (fun ls hl => ?_)
                    refine lv_goto (tgt := 48) hx hb dX10_ways_87 (by decide) ?_
                    exact ih48 (vi214 + 1) vy220 _ _ _ (by omega) (by omega) (by first | exact zg_xn hv48_226 (fun z => absurd (by assumption) (hq67_0.mpr z)) | exact zg_xy hv48_226 (hq67_0.mp (by assumption)) hq79_0 hdry) (hw.sub [0, 1, 2, 3, 4, 5, 6, 7, 8, 9, 10, 11, 12, 13, 14, 15, 16, 17, 18, 19, 23, 22, 20, 21] (by decide +kernel) rfl) (lv_sub hl [0, 1, 2, 3, 4] rfl)
                  · skip
                    refine lv_iload_n hx hb dX10_ways_73 rfl (lv_at hl 1 rfl) ?_
                    refine lv_aload_n hx hb dX10_ways_74 rfl (lv_at hl 4 rfl) ?_
                    refine lv_iload hx hb dX10_ways_75 (lv_at hl 0 rfl) ?_
                    refine lv_iload_n hx hb dX10_ways_77 rfl (lv_at hl 3 rfl) ?_
                    refine lv_iload_n hx hb dX10_ways_78 rfl (lv_at hl 2 rfl) ?_
                    refine zz_callV (qb := 22) (As := [.int (nI vi214), .int (nI vp9), .int (nI vi167)]) (rest := [.int vy220]) (wr := [((r 22), .inl (G.2 0, 2, .inl c22)), ((r 24), .inl (G.2 0, 14, .inl c24)), ((r 25), .inl (G.2 0, 14, .inl c25)), ((r 28), .inl (G.2 0, 12, .inl c28)), ((r 29), .inl (G.2 0, 12, .inl c29)), ((r 30), .inl (G.2 0, 2, .inl c30)), ((r 31), .inl (G.2 0, 2, .inl c31)), ((r 32), .inl (G.2 0, 8, .inl c32)), ((r 33), .inl (G.2 0, 8, .inl c33)), ((r 35), .inl (G.2 2, 260, .inl c35)), ((r 36), .inl (G.2 0, 260, .inl c36)), ((r 37), .inl (G.2 0, 260, .inl c37)), ((r 38), .inl (G.2 0, 260, .inl c38)), ((r 39), .inl (G.2 0, 260, .inl c39)), ((r 41), .inl (G.2 0, 840, .inl c41)), ((r 42), .inl (G.2 0, 840, .inl c42)), ((r 45), .inl (G.2 0, 9, .inl d45_4)), ((r 46), .inl (G.2 0, 400, .inl d46_5)), ((r 48), .inl (G.2 0, 71, .inl c48)), ((r 49), .inl (G.2 0, 71, .inl d49_6)), ((r 26), .inl (G.2 0, 2, .inl c26)), ((r 58), .inl (G.2 0, 42, .inl d58_7))]) S hw hl.1 lX10_412 (c_x_with l G r j0 j2 j4 j10 j11 j12 j13 j14 j15 j16 j17 (nI lv) j19 j20 j34 j40 j44 k47_1 k50_2 k51_3 j56 j61 vF189 vi214 vp9 vi167 (by first | assumption | omega | exact Or.inr ⟨_, by omega, rfl⟩ | (unfold zz_sok; decide) | decide | exact (fun j hj => (hv7 j hj).1)) (by first | assumption | omega | exact Or.inr ⟨_, by omega, rfl⟩ | (unfold zz_sok; decide) | decide | exact (fun j hj => (hv7 j hj).1)) (by first | assumption | omega | exact Or.inr ⟨_, by omega, rfl⟩ | (unfold zz_sok; decide) | decide | exact (fun j hj => (hv7 j hj).1))) ⟨Nat.le_of_ble_eq_true rfl, Nat.le_of_ble_eq_true rfl⟩ ⟨Nat.le_of_ble_eq_true rfl, Nat.le_of_ble_eq_true rfl⟩ [22, 21] [0, 1, 2, 3, 4, 5, 6, 7, 8, 9, 10, 11, 12, 13, 14, 15, 16, 17, 18, 19, 20, 23] (by decide +kernel) rfl rfl (by decide +kernel) (by decide +kernel) rfl rfl rfl rfl (Nat.le_of_ble_eq_true rfl) dX10_ways_79 ?_
                    clear hw
                    intro rr u H locs hp hw
                    refine hp.elim fun rv_231 zg0 => zg0.elim fun zee1 zg1 => zg1.elim fun zee2 hq79_0 => ?_
                    clear hp zg0 zg1
                    subst zee1
                    subst zee2
                    replace hw : zz_w G A s [((r 22), .inl (G.2 0, 2, .inl c22)), ((r 24), .inl (G.2 0, 14, .inl c24)), ((r 25), .inl (G.2 0, 14, .inl c25)), ((r 28), .inl (G.2 0, 12, .inl c28)), ((r 29), .inl (G.2 0, 12, .inl c29)), ((r 30), .inl (G.2 0, 2, .inl c30)), ((r 31), .inl (G.2 0, 2, .inl c31)), ((r 32), .inl (G.2 0, 8, .inl c32)), ((r 33), .inl (G.2 0, 8, .inl c33)), ((r 35), .inl (G.2 2, 260, .inl c35)), ((r 36), .inl (G.2 0, 260, .inl c36)), ((r 37), .inl (G.2 0, 260, .inl c37)), ((r 38), .inl (G.2 0, 260, .inl c38)), ((r 39), .inl (G.2 0, 260, .inl c39)), ((r 41), .inl (G.2 0, 840, .inl c41)), ((r 42), .inl (G.2 0, 840, .inl c42)), ((r 45), .inl (G.2 0, 9, .inl d45_4)), ((r 46), .inl (G.2 0, 400, .inl d46_5)), ((r 48), .inl (G.2 0, 71, .inl c48)), ((r 49), .inl (G.2 0, 71, .inl d49_6)), ((r 26), .inl (G.2 0, 2, .inl c26)), ((r 58), .inl (G.2 0, 42, .inl d58_7)), ((r 0), .inr (10, (zz_mo r [(0, j0), (2, j2), (4, j4), (10, j10), (11, j11), (12, j12), (13, j13), (14, j14), (15, j15), (16, j16), (17, j17), (18, (nI lv)), (19, j19), (20, j20), (34, j34), (40, j40), (44, j44), (47, k47_1), (50, k50_2), (51, k51_3), (56, j56), (61, j61)]))), ((r 59), .inl (G.2 0, 896, .inl vF189))] H _ := hw
                    refine W.eq (g2 := F0 m 82 ls [.int rv_231, .int vy220]) rfl ?_
                    refine lv_iadd hx hb dX10_ways_82 ?_
                    refine lv_topi (fun z232 ez232 => ?_)
                    refine lv_istore_n (lv' := [(3, .int z232), (4, .int (nI vi214)), (2, .int (nI vi167)), (1, .int (nI vp9)), (0, .ref (r 0))]) hx hb dX10_ways_83 rfl hl (by decide) rfl (fun ls hl => ?_)
                    refine lv_iinc (v := (nI (vi214 + 1))) (lv' := [(4, .int (nI (vi214 + 1))), (3, .int z232), (2, .int (nI vi167)), (1, .int (nI vp9)), (0, .ref (r 0))]) hx hb dX10_ways_84 hl (k := 1) rfl (nI_add _ 1) (by decide) rfl (fun ls hl => ?_)
                    refine lv_goto (tgt := 48) hx hb dX10_ways_87 (by decide) ?_
                    refine W.eq (g2 := F0 m 48 ls []) rfl ?_
                    exact ih48 (vi214 + 1) z232 _ _ _ (by omega) (by omega) (by first | exact zg_xn hv48_226 (fun z => absurd (by assumption) (hq67_0.mpr z)) | exact zg_xy hv48_226 (hq67_0.mp (by assumption)) hq79_0 ez232) (hw.sub [0, 1, 2, 3, 4, 5, 6, 7, 8, 9, 10, 11, 12, 13, 14, 15, 16, 17, 18, 19, 21, 22, 20, 23] (by decide +kernel) rfl) (lv_sub hl [0, 1, 2, 3, 4] rfl)
            exact lp48_227 (pp + 1 - 0) 0 0 _ _ _ (by omega) (by omega) rfl hw (lv_sub hl [0, 1, 2, 3, 4] rfl)
      exact lp36_212 (128 + 1 - 0) 0 vF98 _ _ _ (by omega) (by omega) hv30_165 (fun s hs => absurd hs (Nat.not_lt_zero s)) hw (lv_sub hl [0, 1, 2] rfl)
  exact lp30_166 pq d59_8 _ _ _ (Nat.le_refl _) (zg_j0 hq15_0 (fun _ => rfl)) hw (lv_sub hl [0, 1] rfl)
theorem kd_ncX10_fairest : kd_ck 79927435071325724924538649925892895200656471289154743179586923340622006121737781804090911946910562507544554831173199594796225639539978609277881491789346083426555018951082117040968936219028884386296978282200745649073188584779006422270901014831589834394235352944880216726167077171936557833277933509685912677558967137139672456522121641711883783853367322077128263544872119119703872662067312898490233481593731261377809356488377174983466 179 cX10_fairest.data.toList 0 = true := by decide +kernel
theorem dX10_fairest_0 : decode cX10_fairest 0 = .ok (.aload_n 0, 1) := kd_dk0 kd_o42 kd_ncX10_fairest rfl
theorem dX10_fairest_1 : decode cX10_fairest 1 = .ok (.iconst 0, 1) := kd_dk0 kd_o3 kd_ncX10_fairest rfl
theorem dX10_fairest_2 : decode cX10_fairest 2 = .ok (.invokevirtual 403, 3) := kd_dk2 kd_o182 kd_ncX10_fairest rfl
theorem dX10_fairest_5 : decode cX10_fairest 5 = .ok (.aload_n 0, 1) := kd_dk0 kd_o42 kd_ncX10_fairest rfl
theorem dX10_fairest_6 : decode cX10_fairest 6 = .ok (.getfield 55, 3) := kd_dk2 kd_o180 kd_ncX10_fairest rfl
theorem dX10_fairest_9 : decode cX10_fairest 9 = .ok (.aload_n 0, 1) := kd_dk0 kd_o42 kd_ncX10_fairest rfl
theorem dX10_fairest_10 : decode cX10_fairest 10 = .ok (.getfield 236, 3) := kd_dk2 kd_o180 kd_ncX10_fairest rfl
theorem dX10_fairest_13 : decode cX10_fairest 13 = .ok (.iaload, 1) := kd_dk0 kd_o46 kd_ncX10_fairest rfl
theorem dX10_fairest_14 : decode cX10_fairest 14 = .ok (.ifCond .ne 5, 3) := kd_dj2 kd_o154 (w := 5) kd_ncX10_fairest rfl rfl
theorem dX10_fairest_17 : decode cX10_fairest 17 = .ok (.iconst 0, 1) := kd_dk0 kd_o3 kd_ncX10_fairest rfl
theorem dX10_fairest_18 : decode cX10_fairest 18 = .ok (.ireturn, 1) := kd_dk0 kd_o172 kd_ncX10_fairest rfl
theorem dX10_fairest_19 : decode cX10_fairest 19 = .ok (.aload_n 0, 1) := kd_dk0 kd_o42 kd_ncX10_fairest rfl
theorem dX10_fairest_20 : decode cX10_fairest 20 = .ok (.bipush 99, 2) := kd_dj1 kd_o16 (w := 99) kd_ncX10_fairest rfl rfl
theorem dX10_fairest_22 : decode cX10_fairest 22 = .ok (.invokevirtual 406, 3) := kd_dk2 kd_o182 kd_ncX10_fairest rfl
theorem dX10_fairest_25 : decode cX10_fairest 25 = .ok (.aload_n 0, 1) := kd_dk0 kd_o42 kd_ncX10_fairest rfl
theorem dX10_fairest_26 : decode cX10_fairest 26 = .ok (.getfield 55, 3) := kd_dk2 kd_o180 kd_ncX10_fairest rfl
theorem dX10_fairest_29 : decode cX10_fairest 29 = .ok (.aload_n 0, 1) := kd_dk0 kd_o42 kd_ncX10_fairest rfl
theorem dX10_fairest_30 : decode cX10_fairest 30 = .ok (.getfield 236, 3) := kd_dk2 kd_o180 kd_ncX10_fairest rfl
theorem dX10_fairest_33 : decode cX10_fairest 33 = .ok (.iaload, 1) := kd_dk0 kd_o46 kd_ncX10_fairest rfl
theorem dX10_fairest_34 : decode cX10_fairest 34 = .ok (.iconst 1, 1) := kd_dk0 kd_o4 kd_ncX10_fairest rfl
theorem dX10_fairest_35 : decode cX10_fairest 35 = .ok (.isub, 1) := kd_dk0 kd_o100 kd_ncX10_fairest rfl
theorem dX10_fairest_36 : decode cX10_fairest 36 = .ok (.istore_n 1, 1) := kd_dk0 kd_o60 kd_ncX10_fairest rfl
theorem dX10_fairest_37 : decode cX10_fairest 37 = .ok (.iload_n 1, 1) := kd_dk0 kd_o27 kd_ncX10_fairest rfl
theorem dX10_fairest_38 : decode cX10_fairest 38 = .ok (.ifCond .lt 134, 3) := kd_dj2 kd_o155 (w := 134) kd_ncX10_fairest rfl rfl
theorem dX10_fairest_41 : decode cX10_fairest 41 = .ok (.iconst 0, 1) := kd_dk0 kd_o3 kd_ncX10_fairest rfl
theorem dX10_fairest_42 : decode cX10_fairest 42 = .ok (.istore_n 2, 1) := kd_dk0 kd_o61 kd_ncX10_fairest rfl
theorem dX10_fairest_43 : decode cX10_fairest 43 = .ok (.iload_n 2, 1) := kd_dk0 kd_o28 kd_ncX10_fairest rfl
theorem dX10_fairest_44 : decode cX10_fairest 44 = .ok (.sipush 128, 3) := kd_dj2 kd_o17 (w := 128) kd_ncX10_fairest rfl rfl
theorem dX10_fairest_47 : decode cX10_fairest 47 = .ok (.if_icmp .ge 119, 3) := kd_dj2 kd_o162 (w := 119) kd_ncX10_fairest rfl rfl
theorem dX10_fairest_50 : decode cX10_fairest 50 = .ok (.bipush (-2), 2) := kd_dj1 kd_o16 (w := 254) kd_ncX10_fairest rfl rfl
theorem dX10_fairest_52 : decode cX10_fairest 52 = .ok (.istore_n 3, 1) := kd_dk0 kd_o62 kd_ncX10_fairest rfl
theorem dX10_fairest_53 : decode cX10_fairest 53 = .ok (.iconst 0, 1) := kd_dk0 kd_o3 kd_ncX10_fairest rfl
theorem dX10_fairest_54 : decode cX10_fairest 54 = .ok (.istore 4, 2) := kd_dk1 kd_o54 kd_ncX10_fairest rfl
theorem dX10_fairest_56 : decode cX10_fairest 56 = .ok (.iload 4, 2) := kd_dk1 kd_o21 kd_ncX10_fairest rfl
theorem dX10_fairest_58 : decode cX10_fairest 58 = .ok (.aload_n 0, 1) := kd_dk0 kd_o42 kd_ncX10_fairest rfl
theorem dX10_fairest_59 : decode cX10_fairest 59 = .ok (.getfield 43, 3) := kd_dk2 kd_o180 kd_ncX10_fairest rfl
theorem dX10_fairest_62 : decode cX10_fairest 62 = .ok (.aload_n 0, 1) := kd_dk0 kd_o42 kd_ncX10_fairest rfl
theorem dX10_fairest_63 : decode cX10_fairest 63 = .ok (.getfield 236, 3) := kd_dk2 kd_o180 kd_ncX10_fairest rfl
theorem dX10_fairest_66 : decode cX10_fairest 66 = .ok (.iaload, 1) := kd_dk0 kd_o46 kd_ncX10_fairest rfl
theorem dX10_fairest_67 : decode cX10_fairest 67 = .ok (.if_icmp .ge 80, 3) := kd_dj2 kd_o162 (w := 80) kd_ncX10_fairest rfl rfl
theorem dX10_fairest_70 : decode cX10_fairest 70 = .ok (.aload_n 0, 1) := kd_dk0 kd_o42 kd_ncX10_fairest rfl
theorem dX10_fairest_71 : decode cX10_fairest 71 = .ok (.iload 4, 2) := kd_dk1 kd_o21 kd_ncX10_fairest rfl
theorem dX10_fairest_73 : decode cX10_fairest 73 = .ok (.iload_n 1, 1) := kd_dk0 kd_o27 kd_ncX10_fairest rfl
theorem dX10_fairest_74 : decode cX10_fairest 74 = .ok (.iload_n 2, 1) := kd_dk0 kd_o28 kd_ncX10_fairest rfl
theorem dX10_fairest_75 : decode cX10_fairest 75 = .ok (.invokevirtual 409, 3) := kd_dk2 kd_o182 kd_ncX10_fairest rfl
theorem dX10_fairest_78 : decode cX10_fairest 78 = .ok (.ifCond .ne 6, 3) := kd_dj2 kd_o154 (w := 6) kd_ncX10_fairest rfl rfl
theorem dX10_fairest_81 : decode cX10_fairest 81 = .ok (.goto 60, 3) := kd_dj2 kd_o167 (w := 60) kd_ncX10_fairest rfl rfl
theorem dX10_fairest_84 : decode cX10_fairest 84 = .ok (.aload_n 0, 1) := kd_dk0 kd_o42 kd_ncX10_fairest rfl
theorem dX10_fairest_85 : decode cX10_fairest 85 = .ok (.getfield 131, 3) := kd_dk2 kd_o180 kd_ncX10_fairest rfl
theorem dX10_fairest_88 : decode cX10_fairest 88 = .ok (.bipush 6, 2) := kd_dj1 kd_o16 (w := 6) kd_ncX10_fairest rfl rfl
theorem dX10_fairest_90 : decode cX10_fairest 90 = .ok (.iload 4, 2) := kd_dk1 kd_o21 kd_ncX10_fairest rfl
theorem dX10_fairest_92 : decode cX10_fairest 92 = .ok (.imul, 1) := kd_dk0 kd_o104 kd_ncX10_fairest rfl
theorem dX10_fairest_93 : decode cX10_fairest 93 = .ok (.iload_n 1, 1) := kd_dk0 kd_o27 kd_ncX10_fairest rfl
theorem dX10_fairest_94 : decode cX10_fairest 94 = .ok (.iadd, 1) := kd_dk0 kd_o96 kd_ncX10_fairest rfl
theorem dX10_fairest_95 : decode cX10_fairest 95 = .ok (.iaload, 1) := kd_dk0 kd_o46 kd_ncX10_fairest rfl
theorem dX10_fairest_96 : decode cX10_fairest 96 = .ok (.aload_n 0, 1) := kd_dk0 kd_o42 kd_ncX10_fairest rfl
theorem dX10_fairest_97 : decode cX10_fairest 97 = .ok (.iload 4, 2) := kd_dk1 kd_o21 kd_ncX10_fairest rfl
theorem dX10_fairest_99 : decode cX10_fairest 99 = .ok (.iload_n 1, 1) := kd_dk0 kd_o27 kd_ncX10_fairest rfl
theorem dX10_fairest_100 : decode cX10_fairest 100 = .ok (.iload_n 2, 1) := kd_dk0 kd_o28 kd_ncX10_fairest rfl
theorem dX10_fairest_101 : decode cX10_fairest 101 = .ok (.invokevirtual 412, 3) := kd_dk2 kd_o182 kd_ncX10_fairest rfl
theorem dX10_fairest_104 : decode cX10_fairest 104 = .ok (.if_icmp .ge 18, 3) := kd_dj2 kd_o162 (w := 18) kd_ncX10_fairest rfl rfl
theorem dX10_fairest_107 : decode cX10_fairest 107 = .ok (.aload_n 0, 1) := kd_dk0 kd_o42 kd_ncX10_fairest rfl
theorem dX10_fairest_108 : decode cX10_fairest 108 = .ok (.getfield 131, 3) := kd_dk2 kd_o180 kd_ncX10_fairest rfl
theorem dX10_fairest_111 : decode cX10_fairest 111 = .ok (.bipush 6, 2) := kd_dj1 kd_o16 (w := 6) kd_ncX10_fairest rfl rfl
theorem dX10_fairest_113 : decode cX10_fairest 113 = .ok (.iload 4, 2) := kd_dk1 kd_o21 kd_ncX10_fairest rfl
theorem dX10_fairest_115 : decode cX10_fairest 115 = .ok (.imul, 1) := kd_dk0 kd_o104 kd_ncX10_fairest rfl
theorem dX10_fairest_116 : decode cX10_fairest 116 = .ok (.iload_n 1, 1) := kd_dk0 kd_o27 kd_ncX10_fairest rfl
theorem dX10_fairest_117 : decode cX10_fairest 117 = .ok (.iadd, 1) := kd_dk0 kd_o96 kd_ncX10_fairest rfl
theorem dX10_fairest_118 : decode cX10_fairest 118 = .ok (.iaload, 1) := kd_dk0 kd_o46 kd_ncX10_fairest rfl
theorem dX10_fairest_119 : decode cX10_fairest 119 = .ok (.goto 11, 3) := kd_dj2 kd_o167 (w := 11) kd_ncX10_fairest rfl rfl
theorem dX10_fairest_122 : decode cX10_fairest 122 = .ok (.aload_n 0, 1) := kd_dk0 kd_o42 kd_ncX10_fairest rfl
theorem dX10_fairest_123 : decode cX10_fairest 123 = .ok (.iload 4, 2) := kd_dk1 kd_o21 kd_ncX10_fairest rfl
theorem dX10_fairest_125 : decode cX10_fairest 125 = .ok (.iload_n 1, 1) := kd_dk0 kd_o27 kd_ncX10_fairest rfl
theorem dX10_fairest_126 : decode cX10_fairest 126 = .ok (.iload_n 2, 1) := kd_dk0 kd_o28 kd_ncX10_fairest rfl
theorem dX10_fairest_127 : decode cX10_fairest 127 = .ok (.invokevirtual 412, 3) := kd_dk2 kd_o182 kd_ncX10_fairest rfl
theorem dX10_fairest_130 : decode cX10_fairest 130 = .ok (.istore 5, 2) := kd_dk1 kd_o54 kd_ncX10_fairest rfl
theorem dX10_fairest_132 : decode cX10_fairest 132 = .ok (.iload 5, 2) := kd_dk1 kd_o21 kd_ncX10_fairest rfl
theorem dX10_fairest_134 : decode cX10_fairest 134 = .ok (.iload_n 3, 1) := kd_dk0 kd_o29 kd_ncX10_fairest rfl
theorem dX10_fairest_135 : decode cX10_fairest 135 = .ok (.if_icmp .le 6, 3) := kd_dj2 kd_o164 (w := 6) kd_ncX10_fairest rfl rfl
theorem dX10_fairest_138 : decode cX10_fairest 138 = .ok (.iload 5, 2) := kd_dk1 kd_o21 kd_ncX10_fairest rfl
theorem dX10_fairest_140 : decode cX10_fairest 140 = .ok (.istore_n 3, 1) := kd_dk0 kd_o62 kd_ncX10_fairest rfl
theorem dX10_fairest_141 : decode cX10_fairest 141 = .ok (.iinc 4 1, 3) := kd_dji kd_o132 (w := 1) kd_ncX10_fairest rfl rfl
theorem dX10_fairest_144 : decode cX10_fairest 144 = .ok (.goto (-88), 3) := kd_dj2 kd_o167 (w := 65448) kd_ncX10_fairest rfl rfl
theorem dX10_fairest_147 : decode cX10_fairest 147 = .ok (.aload_n 0, 1) := kd_dk0 kd_o42 kd_ncX10_fairest rfl
theorem dX10_fairest_148 : decode cX10_fairest 148 = .ok (.getfield 134, 3) := kd_dk2 kd_o180 kd_ncX10_fairest rfl
theorem dX10_fairest_151 : decode cX10_fairest 151 = .ok (.sipush 128, 3) := kd_dj2 kd_o17 (w := 128) kd_ncX10_fairest rfl rfl
theorem dX10_fairest_154 : decode cX10_fairest 154 = .ok (.iload_n 1, 1) := kd_dk0 kd_o27 kd_ncX10_fairest rfl
theorem dX10_fairest_155 : decode cX10_fairest 155 = .ok (.imul, 1) := kd_dk0 kd_o104 kd_ncX10_fairest rfl
theorem dX10_fairest_156 : decode cX10_fairest 156 = .ok (.iload_n 2, 1) := kd_dk0 kd_o28 kd_ncX10_fairest rfl
theorem dX10_fairest_157 : decode cX10_fairest 157 = .ok (.iadd, 1) := kd_dk0 kd_o96 kd_ncX10_fairest rfl
theorem dX10_fairest_158 : decode cX10_fairest 158 = .ok (.iload_n 3, 1) := kd_dk0 kd_o29 kd_ncX10_fairest rfl
theorem dX10_fairest_159 : decode cX10_fairest 159 = .ok (.iastore, 1) := kd_dk0 kd_o79 kd_ncX10_fairest rfl
theorem dX10_fairest_160 : decode cX10_fairest 160 = .ok (.iinc 2 1, 3) := kd_dji kd_o132 (w := 1) kd_ncX10_fairest rfl rfl
theorem dX10_fairest_163 : decode cX10_fairest 163 = .ok (.goto (-120), 3) := kd_dj2 kd_o167 (w := 65416) kd_ncX10_fairest rfl rfl
theorem dX10_fairest_166 : decode cX10_fairest 166 = .ok (.iinc 1 (-1), 3) := kd_dji kd_o132 (w := 255) kd_ncX10_fairest rfl rfl
theorem dX10_fairest_169 : decode cX10_fairest 169 = .ok (.goto (-132), 3) := kd_dj2 kd_o167 (w := 65404) kd_ncX10_fairest rfl rfl
theorem dX10_fairest_172 : decode cX10_fairest 172 = .ok (.aload_n 0, 1) := kd_dk0 kd_o42 kd_ncX10_fairest rfl
theorem dX10_fairest_173 : decode cX10_fairest 173 = .ok (.getfield 134, 3) := kd_dk2 kd_o180 kd_ncX10_fairest rfl
theorem dX10_fairest_176 : decode cX10_fairest 176 = .ok (.iconst 0, 1) := kd_dk0 kd_o3 kd_ncX10_fairest rfl
theorem dX10_fairest_177 : decode cX10_fairest 177 = .ok (.iaload, 1) := kd_dk0 kd_o46 kd_ncX10_fairest rfl
theorem dX10_fairest_178 : decode cX10_fairest 178 = .ok (.ireturn, 1) := kd_dk0 kd_o172 kd_ncX10_fairest rfl
set_option maxHeartbeats 8000000 in
set_option maxRecDepth 100000 in
theorem c_x_fairest (l : Launch) (G : zz_G) (r : Nat → Nat) (j0 : Int32) (j2 : Int32) (j4 : Int32) (j10 : Int32) (j11 : Int32) (j12 : Int32) (j13 : Int32) (j14 : Int32) (j15 : Int32) (j16 : Int32) (j17 : Int32) (j19 : Int32) (j20 : Int32) (j34 : Int32) (j40 : Int32) (j44 : Int32) (j47 : Int32) (j50 : Int32) (j51 : Int32) (j56 : Int32) (j61 : Int32) (lv : Nat) (pp : Nat) (pq : Nat) (c22 : Nat → Int32) (c24 : Nat → Int32) (c25 : Nat → Int32) (c26 : Nat → Int32) (c28 : Nat → Int32) (c29 : Nat → Int32) (c30 : Nat → Int32) (c31 : Nat → Int32) (c32 : Nat → Int32) (c33 : Nat → Int32) (c35 : Nat → Int32) (c36 : Nat → Int32) (c37 : Nat → Int32) (c38 : Nat → Int32) (c39 : Nat → Int32) (c41 : Nat → Int32) (c42 : Nat → Int32) (c45 : Nat → Int32) (c46 : Nat → Int32) (c48 : Nat → Int32) (c49 : Nat → Int32) (c58 : Nat → Int32) (c59 : Nat → Int32) (hlv : lv ≤ 1) (hpe : c22 lv = nI pp) (hpp : pp ≤ 7) (hpa : c26 lv = nI pq) (hpq : pq ≤ 6) (hlw : zz_LW 2 0 0 c32 c33 c35 c36 c37 c38 c39 c41 c42) : zz_M l G mX10_fairest 5 0 0 [.ref (r 0)] [((r 0), .inr (10, (zz_mo r [(0, j0), (2, j2), (4, j4), (10, j10), (11, j11), (12, j12), (13, j13), (14, j14), (15, j15), (16, j16), (17, j17), (18, (nI lv)), (19, j19), (20, j20), (34, j34), (40, j40), (44, j44), (47, j47), (50, j50), (51, j51), (56, j56), (61, j61)]))), ((r 22), .inl (G.2 0, 2, .inl c22)), ((r 24), .inl (G.2 0, 14, .inl c24)), ((r 25), .inl (G.2 0, 14, .inl c25)), ((r 26), .inl (G.2 0, 2, .inl c26)), ((r 28), .inl (G.2 0, 12, .inl c28)), ((r 29), .inl (G.2 0, 12, .inl c29)), ((r 30), .inl (G.2 0, 2, .inl c30)), ((r 31), .inl (G.2 0, 2, .inl c31)), ((r 32), .inl (G.2 0, 8, .inl c32)), ((r 33), .inl (G.2 0, 8, .inl c33)), ((r 35), .inl (G.2 2, 260, .inl c35)), ((r 36), .inl (G.2 0, 260, .inl c36)), ((r 37), .inl (G.2 0, 260, .inl c37)), ((r 38), .inl (G.2 0, 260, .inl c38)), ((r 39), .inl (G.2 0, 260, .inl c39)), ((r 41), .inl (G.2 0, 840, .inl c41)), ((r 42), .inl (G.2 0, 840, .inl c42)), ((r 45), .inl (G.2 0, 9, .inl c45)), ((r 46), .inl (G.2 0, 400, .inl c46)), ((r 48), .inl (G.2 0, 71, .inl c48)), ((r 49), .inl (G.2 0, 71, .inl c49)), ((r 58), .inl (G.2 0, 42, .inl c58)), ((r 59), .inl (G.2 0, 896, .inl c59))] (fun rr u => ∃ (rv : Int32), ∃ (k47 : Int32), ∃ (k50 : Int32), ∃ (k51 : Int32), ∃ (d45 : Nat → Int32), ∃ (d46 : Nat → Int32), ∃ (d49 : Nat → Int32), ∃ (d58 : Nat → Int32), ∃ (d59 : Nat → Int32), rr = some (.int rv) ∧ u = [((r 0), .inr (10, (zz_mo r [(0, j0), (2, j2), (4, j4), (10, j10), (11, j11), (12, j12), (13, j13), (14, j14), (15, j15), (16, j16), (17, j17), (18, (nI lv)), (19, j19), (20, j20), (34, j34), (40, j40), (44, j44), (47, k47), (50, k50), (51, k51), (56, j56), (61, j61)]))), ((r 22), .inl (G.2 0, 2, .inl c22)), ((r 24), .inl (G.2 0, 14, .inl c24)), ((r 25), .inl (G.2 0, 14, .inl c25)), ((r 26), .inl (G.2 0, 2, .inl c26)), ((r 28), .inl (G.2 0, 12, .inl c28)), ((r 29), .inl (G.2 0, 12, .inl c29)), ((r 30), .inl (G.2 0, 2, .inl c30)), ((r 31), .inl (G.2 0, 2, .inl c31)), ((r 32), .inl (G.2 0, 8, .inl c32)), ((r 33), .inl (G.2 0, 8, .inl c33)), ((r 35), .inl (G.2 2, 260, .inl c35)), ((r 36), .inl (G.2 0, 260, .inl c36)), ((r 37), .inl (G.2 0, 260, .inl c37)), ((r 38), .inl (G.2 0, 260, .inl c38)), ((r 39), .inl (G.2 0, 260, .inl c39)), ((r 41), .inl (G.2 0, 840, .inl c41)), ((r 42), .inl (G.2 0, 840, .inl c42)), ((r 45), .inl (G.2 0, 9, .inl d45)), ((r 46), .inl (G.2 0, 400, .inl d46)), ((r 48), .inl (G.2 0, 71, .inl c48)), ((r 49), .inl (G.2 0, 71, .inl d49)), ((r 58), .inl (G.2 0, 42, .inl d58)), ((r 59), .inl (G.2 0, 896, .inl d59))] ∧ (∃ τ W9 : Nat → Int32, zy_q 71 c48 τ ∧ (∀ Λ, (zr_HD lv c32 c33 c35 c36 c37 c38 c39 c41 c42 (c30 lv)) Λ → ∀ i j, i < pp → j < pq → W9 (6 * i + j) = zj_p ((zr_Sx 99 lv τ c24 c28 c25 c29 (Λ 0)) i j) 0 (τ (14 + i) = 1) (-1)) ∧ ((pq = 0 ∧ rv = 0) ∨ (¬ pq = 0 ∧ ∃ M9, zg_J (zg_b (fun x y => if x < y then y else x) (fun t y => if t < y then t else y) (-2) 99 (fun a p => ¬ W9 (6 * a + p) < 0) (fun a p => W9 (6 * a + p)) pp pq) pq 0 M9 ∧ rv = M9 0)))) := by
  refine zz_enteri (by decide +kernel) (Nat.le_of_ble_eq_true rfl) ?_
  intro p e s m args below meth c A Q ls S hnm hret hw hl
  have hl : lv_has ls 6 [(0, .ref (r 0))] := hl
  have hx := S.1
  have hb := S.2.1
  refine lv_aload_n hx hb dX10_fairest_0 rfl (lv_at hl 0 rfl) ?_
  refine lv_iconst (v := 0) hx hb dX10_fairest_1 (by decide) ?_
  refine zz_callV (qb := 0) (As := [.int 0]) (rest := []) (wr := [((r 59), .inl (G.2 0, 896, .inl c59))]) S hw hl.1 lX10_403 (c_x_fillsStands l G r j0 j2 j4 j10 j11 j12 j13 j14 j15 j16 j17 j19 j20 j34 j40 j44 j47 j50 j51 j56 j61 lv pp pq c22 c24 c25 c26 c28 c29 c30 c31 c32 c33 c35 c36 c37 c38 c39 c41 c42 c45 c46 c48 c49 c58 0 (by first | assumption | omega | exact Or.inr ⟨_, by omega, rfl⟩ | (unfold zz_sok; decide) | decide | exact (fun j hj => (hv7 j hj).1)) (by first | assumption | omega | exact Or.inr ⟨_, by omega, rfl⟩ | (unfold zz_sok; decide) | decide | exact (fun j hj => (hv7 j hj).1)) (by first | assumption | omega | exact Or.inr ⟨_, by omega, rfl⟩ | (unfold zz_sok; decide) | decide | exact (fun j hj => (hv7 j hj).1)) (by first | assumption | omega | exact Or.inr ⟨_, by omega, rfl⟩ | (unfold zz_sok; decide) | decide | exact (fun j hj => (hv7 j hj).1)) (by first | assumption | omega | exact Or.inr ⟨_, by omega, rfl⟩ | (unfold zz_sok; decide) | decide | exact (fun j hj => (hv7 j hj).1)) (by first | assumption | omega | exact Or.inr ⟨_, by omega, rfl⟩ | (unfold zz_sok; decide) | decide | exact (fun j hj => (hv7 j hj).1))) ⟨Nat.le_of_ble_eq_true rfl, Nat.le_of_ble_eq_true rfl⟩ ⟨Nat.le_of_ble_eq_true rfl, Nat.le_of_ble_eq_true rfl⟩ [0, 1, 2, 3, 4, 5, 6, 7, 8, 9, 10, 11, 12, 13, 14, 15, 16, 17, 18, 19, 20, 21, 22] [23] (by decide +kernel) rfl rfl (by decide +kernel) (by decide +kernel) rfl rfl rfl rfl (Nat.le_of_ble_eq_true rfl) dX10_fairest_2 ?_
  clear hw
  intro rr u H locs hp hw
  refine hp.elim fun k47_1 zg0 => zg0.elim fun k50_2 zg1 => zg1.elim fun k51_3 zg2 => zg2.elim fun d45_4 zg3 => zg3.elim fun d46_5 zg4 => zg4.elim fun d49_6 zg5 => zg5.elim fun d58_7 zg6 => zg6.elim fun zee1 zg7 => zg7.elim fun zee2 zg8 => zg8.elim fun hq2_0 hq2_1 => ?_
  clear hp zg0 zg1 zg2 zg3 zg4 zg5 zg6 zg7 zg8
  subst zee1
  subst zee2
  replace hw : zz_w G A s [((r 59), .inl (G.2 0, 896, .inl c59)), ((r 0), .inr (10, (zz_mo r [(0, j0), (2, j2), (4, j4), (10, j10), (11, j11), (12, j12), (13, j13), (14, j14), (15, j15), (16, j16), (17, j17), (18, (nI lv)), (19, j19), (20, j20), (34, j34), (40, j40), (44, j44), (47, k47_1), (50, k50_2), (51, k51_3), (56, j56), (61, j61)]))), ((r 22), .inl (G.2 0, 2, .inl c22)), ((r 24), .inl (G.2 0, 14, .inl c24)), ((r 25), .inl (G.2 0, 14, .inl c25)), ((r 26), .inl (G.2 0, 2, .inl c26)), ((r 28), .inl (G.2 0, 12, .inl c28)), ((r 29), .inl (G.2 0, 12, .inl c29)), ((r 30), .inl (G.2 0, 2, .inl c30)), ((r 31), .inl (G.2 0, 2, .inl c31)), ((r 32), .inl (G.2 0, 8, .inl c32)), ((r 33), .inl (G.2 0, 8, .inl c33)), ((r 35), .inl (G.2 2, 260, .inl c35)), ((r 36), .inl (G.2 0, 260, .inl c36)), ((r 37), .inl (G.2 0, 260, .inl c37)), ((r 38), .inl (G.2 0, 260, .inl c38)), ((r 39), .inl (G.2 0, 260, .inl c39)), ((r 41), .inl (G.2 0, 840, .inl c41)), ((r 42), .inl (G.2 0, 840, .inl c42)), ((r 45), .inl (G.2 0, 9, .inl d45_4)), ((r 46), .inl (G.2 0, 400, .inl d46_5)), ((r 48), .inl (G.2 0, 71, .inl c48)), ((r 49), .inl (G.2 0, 71, .inl d49_6)), ((r 58), .inl (G.2 0, 42, .inl d58_7))] H _ := hw
  refine W.eq (g2 := F0 m 5 ls []) rfl ?_
  refine lv_aload_n hx hb dX10_fairest_5 rfl (lv_at hl 0 rfl) ?_
  refine zz_get (v := .ref (r 26)) S hw fgX10_55 1 rfl rfl dX10_fairest_6 ?_
  refine lv_aload_n hx hb dX10_fairest_9 rfl (lv_at hl 0 rfl) ?_
  refine zz_get (v := .int (nI lv)) S hw fgX10_236 1 rfl rfl dX10_fairest_10 ?_
  refine zz_iald (v := (nI pq)) S hw 5 rfl (vp_in_nI (n := lv) (by omega) (by decide)) (by rw [show ((nI lv) : Int32).toNatClampNeg = lv from nI_clamp (n := lv) (by omega)]; exact hpa) dX10_fairest_13 ?_
  refine lv_if_ne (tgt := 19) hx hb dX10_fairest_14 (by decide) (fun c14_8 => ?_) (fun c14_8 => ?_)
  · skip
    have c14_8n : ¬ (pq = 0) := fun z => c14_8 ((zz_eq (a := pq) (b := 0) rfl rfl (by omega) (by omega)).mpr z)
    refine lv_aload_n hx hb dX10_fairest_19 rfl (lv_at hl 0 rfl) ?_
    refine lv_bipush (v := 99) hx hb dX10_fairest_20 (by decide) ?_
    refine zz_callV (qb := 1) (As := [.int 99]) (rest := []) (wr := [((r 22), .inl (G.2 0, 2, .inl c22)), ((r 24), .inl (G.2 0, 14, .inl c24)), ((r 25), .inl (G.2 0, 14, .inl c25)), ((r 28), .inl (G.2 0, 12, .inl c28)), ((r 29), .inl (G.2 0, 12, .inl c29)), ((r 30), .inl (G.2 0, 2, .inl c30)), ((r 31), .inl (G.2 0, 2, .inl c31)), ((r 32), .inl (G.2 0, 8, .inl c32)), ((r 33), .inl (G.2 0, 8, .inl c33)), ((r 35), .inl (G.2 2, 260, .inl c35)), ((r 36), .inl (G.2 0, 260, .inl c36)), ((r 37), .inl (G.2 0, 260, .inl c37)), ((r 38), .inl (G.2 0, 260, .inl c38)), ((r 39), .inl (G.2 0, 260, .inl c39)), ((r 41), .inl (G.2 0, 840, .inl c41)), ((r 42), .inl (G.2 0, 840, .inl c42)), ((r 45), .inl (G.2 0, 9, .inl d45_4)), ((r 46), .inl (G.2 0, 400, .inl d46_5)), ((r 48), .inl (G.2 0, 71, .inl c48)), ((r 49), .inl (G.2 0, 71, .inl d49_6)), ((r 58), .inl (G.2 0, 42, .inl d58_7))]) S hw hl.1 lX10_406 (c_x_ends l G r j0 j2 j4 j10 j11 j12 j13 j14 j15 j16 j17 j19 j20 j34 j40 j44 k47_1 k50_2 k51_3 j56 j61 lv pq c26 c59 99 (by first | assumption | omega | exact Or.inr ⟨_, by omega, rfl⟩ | (unfold zz_sok; decide) | decide | exact (fun j hj => (hv7 j hj).1)) (by first | assumption | omega | exact Or.inr ⟨_, by omega, rfl⟩ | (unfold zz_sok; decide) | decide | exact (fun j hj => (hv7 j hj).1)) (by first | assumption | omega | exact Or.inr ⟨_, by omega, rfl⟩ | (unfold zz_sok; decide) | decide | exact (fun j hj => (hv7 j hj).1))) ⟨Nat.le_of_ble_eq_true rfl, Nat.le_of_ble_eq_true rfl⟩ ⟨Nat.le_of_ble_eq_true rfl, Nat.le_of_ble_eq_true rfl⟩ [1, 5, 0] [2, 3, 4, 6, 7, 8, 9, 10, 11, 12, 13, 14, 15, 16, 17, 18, 19, 20, 21, 22, 23] (by decide +kernel) rfl rfl (by decide +kernel) (by decide +kernel) rfl rfl rfl rfl (Nat.le_of_ble_eq_true rfl) dX10_fairest_22 ?_
    clear hw
    intro rr u H locs hp hw
    refine hp.elim fun d59_9 zg0 => zg0.elim fun zee1 zg1 => zg1.elim fun zee2 hq22_0 => ?_
    clear hp zg0 zg1
    subst zee1
    subst zee2
    replace hw : zz_w G A s [((r 22), .inl (G.2 0, 2, .inl c22)), ((r 24), .inl (G.2 0, 14, .inl c24)), ((r 25), .inl (G.2 0, 14, .inl c25)), ((r 28), .inl (G.2 0, 12, .inl c28)), ((r 29), .inl (G.2 0, 12, .inl c29)), ((r 30), .inl (G.2 0, 2, .inl c30)), ((r 31), .inl (G.2 0, 2, .inl c31)), ((r 32), .inl (G.2 0, 8, .inl c32)), ((r 33), .inl (G.2 0, 8, .inl c33)), ((r 35), .inl (G.2 2, 260, .inl c35)), ((r 36), .inl (G.2 0, 260, .inl c36)), ((r 37), .inl (G.2 0, 260, .inl c37)), ((r 38), .inl (G.2 0, 260, .inl c38)), ((r 39), .inl (G.2 0, 260, .inl c39)), ((r 41), .inl (G.2 0, 840, .inl c41)), ((r 42), .inl (G.2 0, 840, .inl c42)), ((r 45), .inl (G.2 0, 9, .inl d45_4)), ((r 46), .inl (G.2 0, 400, .inl d46_5)), ((r 48), .inl (G.2 0, 71, .inl c48)), ((r 49), .inl (G.2 0, 71, .inl d49_6)), ((r 58), .inl (G.2 0, 42, .inl d58_7)), ((r 0), .inr (10, (zz_mo r [(0, j0), (2, j2), (4, j4), (10, j10), (11, j11), (12, j12), (13, j13), (14, j14), (15, j15), (16, j16), (17, j17), (18, (nI lv)), (19, j19), (20, j20), (34, j34), (40, j40), (44, j44), (47, k47_1), (50, k50_2), (51, k51_3), (56, j56), (61, j61)]))), ((r 26), .inl (G.2 0, 2, .inl c26)), ((r 59), .inl (G.2 0, 896, .inl d59_9))] H _ := hw
    refine W.eq (g2 := F0 m 25 ls []) rfl ?_
    refine lv_aload_n hx hb dX10_fairest_25 rfl (lv_at hl 0 rfl) ?_
    refine zz_get (v := .ref (r 26)) S hw fgX10_55 21 rfl rfl dX10_fairest_26 ?_
    refine lv_aload_n hx hb dX10_fairest_29 rfl (lv_at hl 0 rfl) ?_
    refine W.eq (g2 := F0 m 30 ls [.ref (r 0), .ref (r 26)]) rfl ?_
    refine zz_get (v := .int (nI lv)) S hw fgX10_236 21 rfl rfl dX10_fairest_30 ?_
    refine zz_iald (v := (nI pq)) S hw 22 rfl (vp_in_nI (n := lv) (by omega) (by decide)) (by rw [show ((nI lv) : Int32).toNatClampNeg = lv from nI_clamp (n := lv) (by omega)]; exact hpa) dX10_fairest_33 ?_
    refine lv_iconst (v := 1) hx hb dX10_fairest_34 (by decide) ?_
    refine lv_isub hx hb dX10_fairest_35 ?_
    refine zz_topi (y := (zz_pm pq)) (zz_pms _) ?_
    refine lv_istore_n (lv' := [(1, .int (zz_pm pq)), (0, .ref (r 0))]) hx hb dX10_fairest_36 rfl hl (by decide) rfl (fun ls hl => ?_)
    have lp37_241 : ∀ (vp10 : Nat) (vF143 : Nat → Int32) (H : Heap) (locs : List Loc) (ls : Array Slot), vp10 ≤ pq → zg_J (zg_b (fun x y => if x < y then y else x) (fun t y => if t < y then t else y) (-2) 99 (fun a p => ¬ d58_7 (6 * a + p) < 0) (fun a p => d58_7 (6 * a + p)) pp pq) pq vp10 vF143 → zz_w G A s [((r 22), .inl (G.2 0, 2, .inl c22)), ((r 24), .inl (G.2 0, 14, .inl c24)), ((r 25), .inl (G.2 0, 14, .inl c25)), ((r 28), .inl (G.2 0, 12, .inl c28)), ((r 29), .inl (G.2 0, 12, .inl c29)), ((r 30), .inl (G.2 0, 2, .inl c30)), ((r 31), .inl (G.2 0, 2, .inl c31)), ((r 32), .inl (G.2 0, 8, .inl c32)), ((r 33), .inl (G.2 0, 8, .inl c33)), ((r 35), .inl (G.2 2, 260, .inl c35)), ((r 36), .inl (G.2 0, 260, .inl c36)), ((r 37), .inl (G.2 0, 260, .inl c37)), ((r 38), .inl (G.2 0, 260, .inl c38)), ((r 39), .inl (G.2 0, 260, .inl c39)), ((r 41), .inl (G.2 0, 840, .inl c41)), ((r 42), .inl (G.2 0, 840, .inl c42)), ((r 45), .inl (G.2 0, 9, .inl d45_4)), ((r 46), .inl (G.2 0, 400, .inl d46_5)), ((r 48), .inl (G.2 0, 71, .inl c48)), ((r 49), .inl (G.2 0, 71, .inl d49_6)), ((r 58), .inl (G.2 0, 42, .inl d58_7)), ((r 0), .inr (10, (zz_mo r [(0, j0), (2, j2), (4, j4), (10, j10), (11, j11), (12, j12), (13, j13), (14, j14), (15, j15), (16, j16), (17, j17), (18, (nI lv)), (19, j19), (20, j20), (34, j34), (40, j40), (44, j44), (47, k47_1), (50, k50_2), (51, k51_3), (56, j56), (61, j61)]))), ((r 26), .inl (G.2 0, 2, .inl c26)), ((r 59), .inl (G.2 0, 896, .inl vF143))] H locs → lv_has ls 6 [(1, .int (zz_pm vp10)), (0, .ref (r 0))] → W p l e (zz_rm 5 0 0) s m args below meth c H locs (0) (0) Q (F0 m 37 ls []) := by
      intro vp10
      induction vp10 with
      | zero =>
        intro vF143 H locs ls hp37 hv37_240 hw hl
        have hl : lv_has ls 6 [(1, .int (-1)), (0, .ref (r 0))] := hl
        refine lv_iload_n hx hb dX10_fairest_37 rfl (lv_at hl 0 rfl) ?_
        refine lv_if_lt (tgt := 172) hx hb dX10_fairest_38 (by decide) (fun _ => ?_) (fun cc => absurd cc (by decide))
        refine lv_aload_n hx hb dX10_fairest_172 rfl (lv_at hl 1 rfl) ?_
        refine zz_get (v := .ref (r 59)) S hw fgX10_134 21 rfl rfl dX10_fairest_173 ?_
        refine lv_iconst (v := 0) hx hb dX10_fairest_176 (by decide) ?_
        refine zz_iald (v := (vF143 0)) S hw 23 rfl (vp_in_nI (n := 0) (by decide) (by decide)) (congrArg vF143 (nI_clamp (n := 0) (by omega))) dX10_fairest_177 ?_
        exact hret _ _ _ _ _ _ ⟨(vF143 0), k47_1, k50_2, k51_3, d45_4, d46_5, d49_6, d58_7, vF143, rfl, rfl, ⟨_, _, hq2_0, hq2_1, (by first | exact Or.inl ⟨zg_z0 (by assumption) (by omega), rfl⟩ | exact Or.inr ⟨zg_z1 (by assumption), _, hv37_240, rfl⟩)⟩⟩ (hw.sub [21, 0, 1, 2, 22, 3, 4, 5, 6, 7, 8, 9, 10, 11, 12, 13, 14, 15, 16, 17, 18, 19, 20, 23] (by decide +kernel) rfl) rfl dX10_fairest_178
      | succ vp10 ih37 =>
        intro vF143 H locs ls hp37 hv37_240 hw hl
        have hl : lv_has ls 6 [(1, .int (nI vp10)), (0, .ref (r 0))] := hl
        refine lv_iload_n hx hb dX10_fairest_37 rfl (lv_at hl 0 rfl) ?_
        refine lv_if_lt (tgt := 172) hx hb dX10_fairest_38 (by decide) (fun cc => absurd cc (nI_pos (n := vp10) (by omega))) (fun _ => ?_)
        refine lv_iconst (v := 0) hx hb dX10_fairest_41 (by decide) ?_
        refine W.eq (g2 := F0 m 42 ls [.int 0]) rfl ?_
        refine lv_istore_n (lv' := [(2, .int 0), (1, .int (nI vp10)), (0, .ref (r 0))]) hx hb dX10_fairest_42 rfl hl (by decide) rfl (fun ls hl => ?_)
        have lp43_307 : ∀ (vn243 vi242 : Nat) (vF274 : Nat → Int32) (H : Heap) (locs : List Loc) (ls : Array Slot), vi242 ≤ 128 → 128 < vi242 + vn243 → zg_J (zg_b (fun x y => if x < y then y else x) (fun t y => if t < y then t else y) (-2) 99 (fun a p => ¬ d58_7 (6 * a + p) < 0) (fun a p => d58_7 (6 * a + p)) pp pq) pq (vp10 + 1) vF274 → (∀ s, s < vi242 → vF274 (128 * vp10 + s) = zg_b (fun x y => if x < y then y else x) (fun t y => if t < y then t else y) (-2) 99 (fun a p => ¬ d58_7 (6 * a + p) < 0) (fun a p => d58_7 (6 * a + p)) pp pq (pq - vp10) s) → zz_w G A s [((r 22), .inl (G.2 0, 2, .inl c22)), ((r 24), .inl (G.2 0, 14, .inl c24)), ((r 25), .inl (G.2 0, 14, .inl c25)), ((r 28), .inl (G.2 0, 12, .inl c28)), ((r 29), .inl (G.2 0, 12, .inl c29)), ((r 30), .inl (G.2 0, 2, .inl c30)), ((r 31), .inl (G.2 0, 2, .inl c31)), ((r 32), .inl (G.2 0, 8, .inl c32)), ((r 33), .inl (G.2 0, 8, .inl c33)), ((r 35), .inl (G.2 2, 260, .inl c35)), ((r 36), .inl (G.2 0, 260, .inl c36)), ((r 37), .inl (G.2 0, 260, .inl c37)), ((r 38), .inl (G.2 0, 260, .inl c38)), ((r 39), .inl (G.2 0, 260, .inl c39)), ((r 41), .inl (G.2 0, 840, .inl c41)), ((r 42), .inl (G.2 0, 840, .inl c42)), ((r 45), .inl (G.2 0, 9, .inl d45_4)), ((r 46), .inl (G.2 0, 400, .inl d46_5)), ((r 48), .inl (G.2 0, 71, .inl c48)), ((r 49), .inl (G.2 0, 71, .inl d49_6)), ((r 58), .inl (G.2 0, 42, .inl d58_7)), ((r 0), .inr (10, (zz_mo r [(0, j0), (2, j2), (4, j4), (10, j10), (11, j11), (12, j12), (13, j13), (14, j14), (15, j15), (16, j16), (17, j17), (18, (nI lv)), (19, j19), (20, j20), (34, j34), (40, j40), (44, j44), (47, k47_1), (50, k50_2), (51, k51_3), (56, j56), (61, j61)]))), ((r 26), .inl (G.2 0, 2, .inl c26)), ((r 59), .inl (G.2 0, 896, .inl vF274))] H locs → lv_has ls 6 [(2, .int (nI vi242)), (1, .int (nI vp10)), (0, .ref (r 0))] → W p l e (zz_rm 5 0 0) s m args below meth c H locs (0) (0) Q (F0 m 43 ls []) := by
          intro vn243
          induction vn243 with
          | zero => intro vi242 vF274 H locs ls hi1 hi2; exact absurd hi2 (by omega)
          | succ vn243 ih43 =>
            intro vi242 vF274 H locs ls hi43a hi43b hv43_305 hv43_306 hw hl
            refine lv_iload_n hx hb dX10_fairest_43 rfl (lv_at hl 0 rfl) ?_
            refine lv_sipush (v := 128) hx hb dX10_fairest_44 (by decide) ?_
            refine lv_icmp_ge (tgt := 166) hx hb dX10_fairest_47 (by decide) (fun c47_308 => ?_) (fun c47_308 => ?_)
            · skip
              have c47_308n : 128 ≤ vi242 := (zz_le (a := 128) (b := vi242) rfl rfl (by omega) (by omega)).mp c47_308
              refine lv_iinc (v := (zz_pm vp10)) (lv' := [(1, .int (zz_pm vp10)), (2, .int (nI vi242)), (0, .ref (r 0))]) hx hb dX10_fairest_166 hl (k := 1) rfl (zz_pmd _) (by decide) rfl (fun ls hl => ?_)
              refine lv_goto (tgt := 37) hx hb dX10_fairest_169 (by decide) ?_
              exact ih37 vF274 _ _ _ (by omega) (zg_j3 hv43_305 hv43_306 (by omega)) hw (lv_sub hl [0, 2] rfl)
            · skip
              have c47_308n : ¬ (128 ≤ vi242) := fun z => c47_308 ((zz_le (a := 128) (b := vi242) rfl rfl (by omega) (by omega)).mpr z)
              refine lv_bipush (v := (-2)) hx hb dX10_fairest_50 (by decide) ?_
              refine lv_istore_n (lv' := [(3, .int (-2)), (2, .int (nI vi242)), (1, .int (nI vp10)), (0, .ref (r 0))]) hx hb dX10_fairest_52 rfl hl (by decide) rfl (fun ls hl => ?_)
              refine lv_iconst (v := 0) hx hb dX10_fairest_53 (by decide) ?_
              refine lv_istore (lv' := [(4, .int 0), (3, .int (-2)), (2, .int (nI vi242)), (1, .int (nI vp10)), (0, .ref (r 0))]) hx hb dX10_fairest_54 hl (by decide) rfl (fun ls hl => ?_)
              have lp56_329 : ∀ (vn310 vi309 : Nat) (vy319 : Int32) (H : Heap) (locs : List Loc) (ls : Array Slot), vi309 ≤ pp → pp < vi309 + vn310 → vy319 = zg_x (fun x y => if x < y then y else x) (-2) (fun a => zm_bit (nI vi242) (nI a) = 0 ∧ ¬ d58_7 (6 * a + vp10) < 0) (fun a => (fun t y => if t < y then t else y) (d58_7 (6 * a + vp10)) (vF274 (128 * vp10 + 128 + zj_u vi242 a))) vi309 → zz_w G A s [((r 22), .inl (G.2 0, 2, .inl c22)), ((r 24), .inl (G.2 0, 14, .inl c24)), ((r 25), .inl (G.2 0, 14, .inl c25)), ((r 28), .inl (G.2 0, 12, .inl c28)), ((r 29), .inl (G.2 0, 12, .inl c29)), ((r 30), .inl (G.2 0, 2, .inl c30)), ((r 31), .inl (G.2 0, 2, .inl c31)), ((r 32), .inl (G.2 0, 8, .inl c32)), ((r 33), .inl (G.2 0, 8, .inl c33)), ((r 35), .inl (G.2 2, 260, .inl c35)), ((r 36), .inl (G.2 0, 260, .inl c36)), ((r 37), .inl (G.2 0, 260, .inl c37)), ((r 38), .inl (G.2 0, 260, .inl c38)), ((r 39), .inl (G.2 0, 260, .inl c39)), ((r 41), .inl (G.2 0, 840, .inl c41)), ((r 42), .inl (G.2 0, 840, .inl c42)), ((r 45), .inl (G.2 0, 9, .inl d45_4)), ((r 46), .inl (G.2 0, 400, .inl d46_5)), ((r 48), .inl (G.2 0, 71, .inl c48)), ((r 49), .inl (G.2 0, 71, .inl d49_6)), ((r 58), .inl (G.2 0, 42, .inl d58_7)), ((r 0), .inr (10, (zz_mo r [(0, j0), (2, j2), (4, j4), (10, j10), (11, j11), (12, j12), (13, j13), (14, j14), (15, j15), (16, j16), (17, j17), (18, (nI lv)), (19, j19), (20, j20), (34, j34), (40, j40), (44, j44), (47, k47_1), (50, k50_2), (51, k51_3), (56, j56), (61, j61)]))), ((r 26), .inl (G.2 0, 2, .inl c26)), ((r 59), .inl (G.2 0, 896, .inl vF274))] H locs → lv_has ls 6 [(4, .int (nI vi309)), (3, .int vy319), (2, .int (nI vi242)), (1, .int (nI vp10)), (0, .ref (r 0))] → W p l e (zz_rm 5 0 0) s m args below meth c H locs (0) (0) Q (F0 m 56 ls []) := by
                intro vn310
                induction vn310 with
                | zero => intro vi309 vy319 H locs ls hi1 hi2; exact absurd hi2 (by omega)
                | succ vn310 ih56 =>
                  intro vi309 vy319 H locs ls hi56a hi56b hv56_328 hw hl
                  refine lv_iload hx hb dX10_fairest_56 (lv_at hl 0 rfl) ?_
                  refine lv_aload_n hx hb dX10_fairest_58 rfl (lv_at hl 4 rfl) ?_
                  refine zz_get (v := .ref (r 22)) S hw fgX10_43 21 rfl rfl dX10_fairest_59 ?_
                  refine lv_aload_n hx hb dX10_fairest_62 rfl (lv_at hl 4 rfl) ?_
                  refine zz_get (v := .int (nI lv)) S hw fgX10_236 21 rfl rfl dX10_fairest_63 ?_
                  refine W.eq (g2 := F0 m 66 ls [.int (nI lv), .ref (r 22), .int (nI vi309)]) rfl ?_
                  refine zz_iald (v := (nI pp)) S hw 0 rfl (vp_in_nI (n := lv) (by omega) (by decide)) (by rw [show ((nI lv) : Int32).toNatClampNeg = lv from nI_clamp (n := lv) (by omega)]; exact hpe) dX10_fairest_66 ?_
                  refine lv_icmp_ge (tgt := 147) hx hb dX10_fairest_67 (by decide) (fun c67_330 => ?_) (fun c67_330 => ?_)
                  · skip
                    have c67_330n : pp ≤ vi309 := (zz_le (a := pp) (b := vi309) rfl rfl (by omega) (by omega)).mp c67_330
                    refine lv_aload_n hx hb dX10_fairest_147 rfl (lv_at hl 4 rfl) ?_
                    refine zz_get (v := .ref (r 59)) S hw fgX10_134 21 rfl rfl dX10_fairest_148 ?_
                    refine lv_sipush (v := 128) hx hb dX10_fairest_151 (by decide) ?_
                    refine lv_iload_n hx hb dX10_fairest_154 rfl (lv_at hl 3 rfl) ?_
                    refine lv_imul hx hb dX10_fairest_155 ?_
                    refine zz_topi (y := (nI (128 * vp10))) (pk_mul _ _) ?_
                    refine lv_iload_n hx hb dX10_fairest_156 rfl (lv_at hl 2 rfl) ?_
                    refine lv_iadd hx hb dX10_fairest_157 ?_
                    refine zz_topi (y := (nI ((128 * vp10) + vi242))) (nI_add _ _) ?_
                    refine lv_iload_n hx hb dX10_fairest_158 rfl (lv_at hl 1 rfl) ?_
                    refine zz_iast (ws' := [((r 22), .inl (G.2 0, 2, .inl c22)), ((r 24), .inl (G.2 0, 14, .inl c24)), ((r 25), .inl (G.2 0, 14, .inl c25)), ((r 28), .inl (G.2 0, 12, .inl c28)), ((r 29), .inl (G.2 0, 12, .inl c29)), ((r 30), .inl (G.2 0, 2, .inl c30)), ((r 31), .inl (G.2 0, 2, .inl c31)), ((r 32), .inl (G.2 0, 8, .inl c32)), ((r 33), .inl (G.2 0, 8, .inl c33)), ((r 35), .inl (G.2 2, 260, .inl c35)), ((r 36), .inl (G.2 0, 260, .inl c36)), ((r 37), .inl (G.2 0, 260, .inl c37)), ((r 38), .inl (G.2 0, 260, .inl c38)), ((r 39), .inl (G.2 0, 260, .inl c39)), ((r 41), .inl (G.2 0, 840, .inl c41)), ((r 42), .inl (G.2 0, 840, .inl c42)), ((r 45), .inl (G.2 0, 9, .inl d45_4)), ((r 46), .inl (G.2 0, 400, .inl d46_5)), ((r 48), .inl (G.2 0, 71, .inl c48)), ((r 49), .inl (G.2 0, 71, .inl d49_6)), ((r 58), .inl (G.2 0, 42, .inl d58_7)), ((r 0), .inr (10, (zz_mo r [(0, j0), (2, j2), (4, j4), (10, j10), (11, j11), (12, j12), (13, j13), (14, j14), (15, j15), (16, j16), (17, j17), (18, (nI lv)), (19, j19), (20, j20), (34, j34), (40, j40), (44, j44), (47, k47_1), (50, k50_2), (51, k51_3), (56, j56), (61, j61)]))), ((r 26), .inl (G.2 0, 2, .inl c26)), ((r 59), .inl (G.2 0, 896, .inl (upd vF274 ((128 * vp10) + vi242) vy319)))]) (g := (upd vF274 ((128 * vp10) + vi242) vy319)) S hw 23 rfl (vp_in_nI (n := ((128 * vp10) + vi242)) (by omega) (by decide)) (zz_upn (n := ((128 * vp10) + vi242)) (by omega)) rfl dX10_fairest_159 ?_
                    clear hw
                    intro H locs hw
                    refine lv_iinc (v := (nI (vi242 + 1))) (lv' := [(2, .int (nI (vi242 + 1))), (4, .int (nI vi309)), (3, .int vy319), (1, .int (nI vp10)), (0, .ref (r 0))]) hx hb dX10_fairest_160 hl (k := 2) rfl (nI_add _ 1) (by decide) rfl (fun ls hl => ?_)
                    refine lv_goto (tgt := 43) hx hb dX10_fairest_163 (by decide) ?_
                    exact ih43 (vi242 + 1) (upd vF274 ((128 * vp10) + vi242) vy319) _ _ _ (by omega) (by omega) (zg_j1 hv43_305 (by omega)) (zg_j2 hv43_306 (zg_jt hv43_305 hpp (by omega) (by omega) (zg_xe hv56_328 (by omega)))) hw (lv_sub hl [0, 3, 4] rfl)
                  · skip
                    have c67_330n : ¬ (pp ≤ vi309) := fun z => c67_330 ((zz_le (a := pp) (b := vi309) rfl rfl (by omega) (by omega)).mpr z)
                    refine lv_aload_n hx hb dX10_fairest_70 rfl (lv_at hl 4 rfl) ?_
                    refine lv_iload hx hb dX10_fairest_71 (lv_at hl 0 rfl) ?_
                    refine W.eq (g2 := F0 m 73 ls [.int (nI vi309), .ref (r 0)]) rfl ?_
                    refine lv_iload_n hx hb dX10_fairest_73 rfl (lv_at hl 3 rfl) ?_
                    refine lv_iload_n hx hb dX10_fairest_74 rfl (lv_at hl 2 rfl) ?_
                    refine zz_callV (qb := 21) (As := [.int (nI vi309), .int (nI vp10), .int (nI vi242)]) (rest := []) (wr := [((r 22), .inl (G.2 0, 2, .inl c22)), ((r 24), .inl (G.2 0, 14, .inl c24)), ((r 25), .inl (G.2 0, 14, .inl c25)), ((r 28), .inl (G.2 0, 12, .inl c28)), ((r 29), .inl (G.2 0, 12, .inl c29)), ((r 30), .inl (G.2 0, 2, .inl c30)), ((r 31), .inl (G.2 0, 2, .inl c31)), ((r 32), .inl (G.2 0, 8, .inl c32)), ((r 33), .inl (G.2 0, 8, .inl c33)), ((r 35), .inl (G.2 2, 260, .inl c35)), ((r 36), .inl (G.2 0, 260, .inl c36)), ((r 37), .inl (G.2 0, 260, .inl c37)), ((r 38), .inl (G.2 0, 260, .inl c38)), ((r 39), .inl (G.2 0, 260, .inl c39)), ((r 41), .inl (G.2 0, 840, .inl c41)), ((r 42), .inl (G.2 0, 840, .inl c42)), ((r 45), .inl (G.2 0, 9, .inl d45_4)), ((r 46), .inl (G.2 0, 400, .inl d46_5)), ((r 48), .inl (G.2 0, 71, .inl c48)), ((r 49), .inl (G.2 0, 71, .inl d49_6)), ((r 26), .inl (G.2 0, 2, .inl c26)), ((r 59), .inl (G.2 0, 896, .inl vF274))]) S hw hl.1 lX10_409 (c_x_isFree l G r j0 j2 j4 j10 j11 j12 j13 j14 j15 j16 j17 (nI lv) j19 j20 j34 j40 j44 k47_1 k50_2 k51_3 j56 j61 d58_7 vi309 vp10 vi242 (by first | assumption | omega | exact Or.inr ⟨_, by omega, rfl⟩ | (unfold zz_sok; decide) | decide | exact (fun j hj => (hv7 j hj).1)) (by first | assumption | omega | exact Or.inr ⟨_, by omega, rfl⟩ | (unfold zz_sok; decide) | decide | exact (fun j hj => (hv7 j hj).1)) (by first | assumption | omega | exact Or.inr ⟨_, by omega, rfl⟩ | (unfold zz_sok; decide) | decide | exact (fun j hj => (hv7 j hj).1))) ⟨Nat.le_of_ble_eq_true rfl, Nat.le_of_ble_eq_true rfl⟩ ⟨Nat.le_of_ble_eq_true rfl, Nat.le_of_ble_eq_true rfl⟩ [21, 20] [0, 1, 2, 3, 4, 5, 6, 7, 8, 9, 10, 11, 12, 13, 14, 15, 16, 17, 18, 19, 22, 23] (by decide +kernel) rfl rfl (by decide +kernel) (by decide +kernel) rfl rfl rfl rfl (Nat.le_of_ble_eq_true rfl) dX10_fairest_75 ?_
                    clear hw
                    intro rr u H locs hp hw
                    refine hp.elim fun rv_331 zg0 => zg0.elim fun zee1 zg1 => zg1.elim fun zee2 zg2 => zg2.elim fun hq75_0 hq75_1 => ?_
                    clear hp zg0 zg1 zg2
                    subst zee1
                    subst zee2
                    replace hw : zz_w G A s [((r 22), .inl (G.2 0, 2, .inl c22)), ((r 24), .inl (G.2 0, 14, .inl c24)), ((r 25), .inl (G.2 0, 14, .inl c25)), ((r 28), .inl (G.2 0, 12, .inl c28)), ((r 29), .inl (G.2 0, 12, .inl c29)), ((r 30), .inl (G.2 0, 2, .inl c30)), ((r 31), .inl (G.2 0, 2, .inl c31)), ((r 32), .inl (G.2 0, 8, .inl c32)), ((r 33), .inl (G.2 0, 8, .inl c33)), ((r 35), .inl (G.2 2, 260, .inl c35)), ((r 36), .inl (G.2 0, 260, .inl c36)), ((r 37), .inl (G.2 0, 260, .inl c37)), ((r 38), .inl (G.2 0, 260, .inl c38)), ((r 39), .inl (G.2 0, 260, .inl c39)), ((r 41), .inl (G.2 0, 840, .inl c41)), ((r 42), .inl (G.2 0, 840, .inl c42)), ((r 45), .inl (G.2 0, 9, .inl d45_4)), ((r 46), .inl (G.2 0, 400, .inl d46_5)), ((r 48), .inl (G.2 0, 71, .inl c48)), ((r 49), .inl (G.2 0, 71, .inl d49_6)), ((r 26), .inl (G.2 0, 2, .inl c26)), ((r 59), .inl (G.2 0, 896, .inl vF274)), ((r 0), .inr (10, (zz_mo r [(0, j0), (2, j2), (4, j4), (10, j10), (11, j11), (12, j12), (13, j13), (14, j14), (15, j15), (16, j16), (17, j17), (18, (nI lv)), (19, j19), (20, j20), (34, j34), (40, j40), (44, j44), (47, k47_1), (50, k50_2), (51, k51_3), (56, j56), (61, j61)]))), ((r 58), .inl (G.2 0, 42, .inl d58_7))] H _ := hw
                    refine W.eq (g2 := F0 m 78 ls [.int rv_331]) rfl ?_
                    refine lv_if_ne (tgt := 84) hx hb dX10_fairest_78 (by decide) (fun c78_332 => ?_) (fun c78_332 => ?_)
                    · skip
                      refine lv_aload_n hx hb dX10_fairest_84 rfl (lv_at hl 4 rfl) ?_
                      refine zz_get (v := .ref (r 58)) S hw fgX10_131 22 rfl rfl dX10_fairest_85 ?_
                      refine lv_bipush (v := 6) hx hb dX10_fairest_88 (by decide) ?_
                      refine lv_iload hx hb dX10_fairest_90 (lv_at hl 0 rfl) ?_
                      refine lv_imul hx hb dX10_fairest_92 ?_
                      refine zz_topi (y := (nI (6 * vi309))) (pk_mul _ _) ?_
                      refine lv_iload_n hx hb dX10_fairest_93 rfl (lv_at hl 3 rfl) ?_
                      refine lv_iadd hx hb dX10_fairest_94 ?_
                      refine zz_topi (y := (nI ((6 * vi309) + vp10))) (nI_add _ _) ?_
                      refine zz_iald (v := (d58_7 ((6 * vi309) + vp10))) S hw 23 rfl (vp_in_nI (n := ((6 * vi309) + vp10)) (by omega) (by decide)) (congrArg d58_7 (nI_clamp (n := ((6 * vi309) + vp10)) (by omega))) dX10_fairest_95 ?_
                      refine lv_aload_n hx hb dX10_fairest_96 rfl (lv_at hl 4 rfl) ?_
                      refine lv_iload hx hb dX10_fairest_97 (lv_at hl 0 rfl) ?_
                      refine lv_iload_n hx hb dX10_fairest_99 rfl (lv_at hl 3 rfl) ?_
                      refine W.eq (g2 := F0 m 100 ls [.int (nI vp10), .int (nI vi309), .ref (r 0), .int (d58_7 ((6 * vi309) + vp10))]) rfl ?_
                      refine lv_iload_n hx hb dX10_fairest_100 rfl (lv_at hl 2 rfl) ?_
                      refine zz_callV (qb := 22) (As := [.int (nI vi309), .int (nI vp10), .int (nI vi242)]) (rest := [.int (d58_7 ((6 * vi309) + vp10))]) (wr := [((r 22), .inl (G.2 0, 2, .inl c22)), ((r 24), .inl (G.2 0, 14, .inl c24)), ((r 25), .inl (G.2 0, 14, .inl c25)), ((r 28), .inl (G.2 0, 12, .inl c28)), ((r 29), .inl (G.2 0, 12, .inl c29)), ((r 30), .inl (G.2 0, 2, .inl c30)), ((r 31), .inl (G.2 0, 2, .inl c31)), ((r 32), .inl (G.2 0, 8, .inl c32)), ((r 33), .inl (G.2 0, 8, .inl c33)), ((r 35), .inl (G.2 2, 260, .inl c35)), ((r 36), .inl (G.2 0, 260, .inl c36)), ((r 37), .inl (G.2 0, 260, .inl c37)), ((r 38), .inl (G.2 0, 260, .inl c38)), ((r 39), .inl (G.2 0, 260, .inl c39)), ((r 41), .inl (G.2 0, 840, .inl c41)), ((r 42), .inl (G.2 0, 840, .inl c42)), ((r 45), .inl (G.2 0, 9, .inl d45_4)), ((r 46), .inl (G.2 0, 400, .inl d46_5)), ((r 48), .inl (G.2 0, 71, .inl c48)), ((r 49), .inl (G.2 0, 71, .inl d49_6)), ((r 26), .inl (G.2 0, 2, .inl c26)), ((r 58), .inl (G.2 0, 42, .inl d58_7))]) S hw hl.1 lX10_412 (c_x_with l G r j0 j2 j4 j10 j11 j12 j13 j14 j15 j16 j17 (nI lv) j19 j20 j34 j40 j44 k47_1 k50_2 k51_3 j56 j61 vF274 vi309 vp10 vi242 (by first | assumption | omega | exact Or.inr ⟨_, by omega, rfl⟩ | (unfold zz_sok; decide) | decide | exact (fun j hj => (hv7 j hj).1)) (by first | assumption | omega | exact Or.inr ⟨_, by omega, rfl⟩ | (unfold zz_sok; decide) | decide | exact (fun j hj => (hv7 j hj).1)) (by first | assumption | omega | exact Or.inr ⟨_, by omega, rfl⟩ | (unfold zz_sok; decide) | decide | exact (fun j hj => (hv7 j hj).1))) ⟨Nat.le_of_ble_eq_true rfl, Nat.le_of_ble_eq_true rfl⟩ ⟨Nat.le_of_ble_eq_true rfl, Nat.le_of_ble_eq_true rfl⟩ [22, 21] [0, 1, 2, 3, 4, 5, 6, 7, 8, 9, 10, 11, 12, 13, 14, 15, 16, 17, 18, 19, 20, 23] (by decide +kernel) rfl rfl (by decide +kernel) (by decide +kernel) rfl rfl rfl rfl (Nat.le_of_ble_eq_true rfl) dX10_fairest_101 ?_
                      clear hw
                      intro rr u H locs hp hw
                      refine hp.elim fun rv_333 zg0 => zg0.elim fun zee1 zg1 => zg1.elim fun zee2 hq101_0 => ?_
                      clear hp zg0 zg1
                      subst zee1
                      subst zee2
                      replace hw : zz_w G A s [((r 22), .inl (G.2 0, 2, .inl c22)), ((r 24), .inl (G.2 0, 14, .inl c24)), ((r 25), .inl (G.2 0, 14, .inl c25)), ((r 28), .inl (G.2 0, 12, .inl c28)), ((r 29), .inl (G.2 0, 12, .inl c29)), ((r 30), .inl (G.2 0, 2, .inl c30)), ((r 31), .inl (G.2 0, 2, .inl c31)), ((r 32), .inl (G.2 0, 8, .inl c32)), ((r 33), .inl (G.2 0, 8, .inl c33)), ((r 35), .inl (G.2 2, 260, .inl c35)), ((r 36), .inl (G.2 0, 260, .inl c36)), ((r 37), .inl (G.2 0, 260, .inl c37)), ((r 38), .inl (G.2 0, 260, .inl c38)), ((r 39), .inl (G.2 0, 260, .inl c39)), ((r 41), .inl (G.2 0, 840, .inl c41)), ((r 42), .inl (G.2 0, 840, .inl c42)), ((r 45), .inl (G.2 0, 9, .inl d45_4)), ((r 46), .inl (G.2 0, 400, .inl d46_5)), ((r 48), .inl (G.2 0, 71, .inl c48)), ((r 49), .inl (G.2 0, 71, .inl d49_6)), ((r 26), .inl (G.2 0, 2, .inl c26)), ((r 58), .inl (G.2 0, 42, .inl d58_7)), ((r 0), .inr (10, (zz_mo r [(0, j0), (2, j2), (4, j4), (10, j10), (11, j11), (12, j12), (13, j13), (14, j14), (15, j15), (16, j16), (17, j17), (18, (nI lv)), (19, j19), (20, j20), (34, j34), (40, j40), (44, j44), (47, k47_1), (50, k50_2), (51, k51_3), (56, j56), (61, j61)]))), ((r 59), .inl (G.2 0, 896, .inl vF274))] H _ := hw
                      refine W.eq (g2 := F0 m 104 ls [.int rv_333, .int (d58_7 ((6 * vi309) + vp10))]) rfl ?_
                      refine lv_icmp_ge (tgt := 122) hx hb dX10_fairest_104 (by decide) (fun c104_334 => ?_) (fun c104_334 => ?_)
                      · skip
                        refine lv_aload_n hx hb dX10_fairest_122 rfl (lv_at hl 4 rfl) ?_
                        refine lv_iload hx hb dX10_fairest_123 (lv_at hl 0 rfl) ?_
                        refine lv_iload_n hx hb dX10_fairest_125 rfl (lv_at hl 3 rfl) ?_
                        refine lv_iload_n hx hb dX10_fairest_126 rfl (lv_at hl 2 rfl) ?_
                        refine zz_callV (qb := 22) (As := [.int (nI vi309), .int (nI vp10), .int (nI vi242)]) (rest := []) (wr := [((r 22), .inl (G.2 0, 2, .inl c22)), ((r 24), .inl (G.2 0, 14, .inl c24)), ((r 25), .inl (G.2 0, 14, .inl c25)), ((r 28), .inl (G.2 0, 12, .inl c28)), ((r 29), .inl (G.2 0, 12, .inl c29)), ((r 30), .inl (G.2 0, 2, .inl c30)), ((r 31), .inl (G.2 0, 2, .inl c31)), ((r 32), .inl (G.2 0, 8, .inl c32)), ((r 33), .inl (G.2 0, 8, .inl c33)), ((r 35), .inl (G.2 2, 260, .inl c35)), ((r 36), .inl (G.2 0, 260, .inl c36)), ((r 37), .inl (G.2 0, 260, .inl c37)), ((r 38), .inl (G.2 0, 260, .inl c38)), ((r 39), .inl (G.2 0, 260, .inl c39)), ((r 41), .inl (G.2 0, 840, .inl c41)), ((r 42), .inl (G.2 0, 840, .inl c42)), ((r 45), .inl (G.2 0, 9, .inl d45_4)), ((r 46), .inl (G.2 0, 400, .inl d46_5)), ((r 48), .inl (G.2 0, 71, .inl c48)), ((r 49), .inl (G.2 0, 71, .inl d49_6)), ((r 26), .inl (G.2 0, 2, .inl c26)), ((r 58), .inl (G.2 0, 42, .inl d58_7))]) S hw hl.1 lX10_412 (c_x_with l G r j0 j2 j4 j10 j11 j12 j13 j14 j15 j16 j17 (nI lv) j19 j20 j34 j40 j44 k47_1 k50_2 k51_3 j56 j61 vF274 vi309 vp10 vi242 (by first | assumption | omega | exact Or.inr ⟨_, by omega, rfl⟩ | (unfold zz_sok; decide) | decide | exact (fun j hj => (hv7 j hj).1)) (by first | assumption | omega | exact Or.inr ⟨_, by omega, rfl⟩ | (unfold zz_sok; decide) | decide | exact (fun j hj => (hv7 j hj).1)) (by first | assumption | omega | exact Or.inr ⟨_, by omega, rfl⟩ | (unfold zz_sok; decide) | decide | exact (fun j hj => (hv7 j hj).1))) ⟨Nat.le_of_ble_eq_true rfl, Nat.le_of_ble_eq_true rfl⟩ ⟨Nat.le_of_ble_eq_true rfl, Nat.le_of_ble_eq_true rfl⟩ [22, 23] [0, 1, 2, 3, 4, 5, 6, 7, 8, 9, 10, 11, 12, 13, 14, 15, 16, 17, 18, 19, 20, 21] (by decide +kernel) rfl rfl (by decide +kernel) (by decide +kernel) rfl rfl rfl rfl (Nat.le_of_ble_eq_true rfl) dX10_fairest_127 ?_
                        clear hw
                        intro rr u H locs hp hw
                        refine hp.elim fun rv_335 zg0 => zg0.elim fun zee1 zg1 => zg1.elim fun zee2 hq127_0 => ?_
                        clear hp zg0 zg1
                        subst zee1
                        subst zee2
                        replace hw : zz_w G A s [((r 22), .inl (G.2 0, 2, .inl c22)), ((r 24), .inl (G.2 0, 14, .inl c24)), ((r 25), .inl (G.2 0, 14, .inl c25)), ((r 28), .inl (G.2 0, 12, .inl c28)), ((r 29), .inl (G.2 0, 12, .inl c29)), ((r 30), .inl (G.2 0, 2, .inl c30)), ((r 31), .inl (G.2 0, 2, .inl c31)), ((r 32), .inl (G.2 0, 8, .inl c32)), ((r 33), .inl (G.2 0, 8, .inl c33)), ((r 35), .inl (G.2 2, 260, .inl c35)), ((r 36), .inl (G.2 0, 260, .inl c36)), ((r 37), .inl (G.2 0, 260, .inl c37)), ((r 38), .inl (G.2 0, 260, .inl c38)), ((r 39), .inl (G.2 0, 260, .inl c39)), ((r 41), .inl (G.2 0, 840, .inl c41)), ((r 42), .inl (G.2 0, 840, .inl c42)), ((r 45), .inl (G.2 0, 9, .inl d45_4)), ((r 46), .inl (G.2 0, 400, .inl d46_5)), ((r 48), .inl (G.2 0, 71, .inl c48)), ((r 49), .inl (G.2 0, 71, .inl d49_6)), ((r 26), .inl (G.2 0, 2, .inl c26)), ((r 58), .inl (G.2 0, 42, .inl d58_7)), ((r 0), .inr (10, (zz_mo r [(0, j0), (2, j2), (4, j4), (10, j10), (11, j11), (12, j12), (13, j13), (14, j14), (15, j15), (16, j16), (17, j17), (18, (nI lv)), (19, j19), (20, j20), (34, j34), (40, j40), (44, j44), (47, k47_1), (50, k50_2), (51, k51_3), (56, j56), (61, j61)]))), ((r 59), .inl (G.2 0, 896, .inl vF274))] H _ := hw
                        refine W.eq (g2 := F0 m 130 ls [.int rv_335]) rfl ?_
                        refine lv_istore (lv' := [(5, .int rv_335), (4, .int (nI vi309)), (3, .int vy319), (2, .int (nI vi242)), (1, .int (nI vp10)), (0, .ref (r 0))]) hx hb dX10_fairest_130 hl (by decide) rfl (fun ls hl => ?_)
                        refine lv_iload hx hb dX10_fairest_132 (lv_at hl 0 rfl) ?_
                        refine lv_iload_n hx hb dX10_fairest_134 rfl (lv_at hl 2 rfl) ?_
                        refine lv_icmp_le (tgt := 141) hx hb dX10_fairest_135 (by decide) (fun c135_336 => ?_) (fun c135_336 => ?_)
                        · skip
                          refine lv_iinc (v := (nI (vi309 + 1))) (lv' := [(4, .int (nI (vi309 + 1))), (5, .int rv_335), (3, .int vy319), (2, .int (nI vi242)), (1, .int (nI vp10)), (0, .ref (r 0))]) hx hb dX10_fairest_141 hl (k := 1) rfl (nI_add _ 1) (by decide) rfl (fun ls hl => ?_)
                          refine lv_goto (tgt := 56) hx hb dX10_fairest_144 (by decide) ?_
                          exact ih56 (vi309 + 1) vy319 _ _ _ (by omega) (by omega) (by first | exact zg_xn hv56_328 (fun z => absurd (by assumption) (hq75_0.mpr z)) | exact zg_xy hv56_328 (hq75_0.mp (by assumption)) (zg_f1 hq101_0 (by first | assumption | exact Int32.not_le.mp (by assumption))) (zg_ga (by first | assumption | exact Int32.not_le.mp (by assumption))) | exact zg_xy hv56_328 (hq75_0.mp (by assumption)) (zg_f1 hq101_0 (by first | assumption | exact Int32.not_le.mp (by assumption))) (zg_gb (by first | assumption | exact Int32.not_lt.mpr (by assumption))) | exact zg_xy hv56_328 (hq75_0.mp (by assumption)) (zg_f0 hq101_0 hq127_0 (by first | assumption | exact Int32.not_lt.mpr (by assumption))) (zg_ga (by first | assumption | exact Int32.not_le.mp (by assumption))) | exact zg_xy hv56_328 (hq75_0.mp (by assumption)) (zg_f0 hq101_0 hq127_0 (by first | assumption | exact Int32.not_lt.mpr (by assumption))) (zg_gb (by first | assumption | exact Int32.not_lt.mpr (by assumption)))) (hw.sub [0, 1, 2, 3, 4, 5, 6, 7, 8, 9, 10, 11, 12, 13, 14, 15, 16, 17, 18, 19, 21, 22, 20, 23] (by decide +kernel) rfl) (lv_sub hl [0, 2, 3, 4, 5] rfl)
                        · skip
                          refine lv_iload hx hb dX10_fairest_138 (lv_at hl 0 rfl) ?_
                          refine lv_istore_n (lv' := [(3, .int rv_335), (5, .int rv_335), (4, .int (nI vi309)), (2, .int (nI vi242)), (1, .int (nI vp10)), (0, .ref (r 0))]) hx hb dX10_fairest_140 rfl hl (by decide) rfl (fun ls hl => ?_)
                          refine W.eq (g2 := F0 m 141 ls []) rfl ?_
                          refine lv_iinc (v := (nI (vi309 + 1))) (lv' := [(4, .int (nI (vi309 + 1))), (3, .int rv_335), (5, .int rv_335), (2, .int (nI vi242)), (1, .int (nI vp10)), (0, .ref (r 0))]) hx hb dX10_fairest_141 hl (k := 2) rfl (nI_add _ 1) (by decide) rfl (fun ls hl => ?_)
                          refine lv_goto (tgt := 56) hx hb dX10_fairest_144 (by decide) ?_
                          exact ih56 (vi309 + 1) rv_335 _ _ _ (by omega) (by omega) (by first | exact zg_xn hv56_328 (fun z => absurd (by assumption) (hq75_0.mpr z)) | exact zg_xy hv56_328 (hq75_0.mp (by assumption)) (zg_f1 hq101_0 (by first | assumption | exact Int32.not_le.mp (by assumption))) (zg_ga (by first | assumption | exact Int32.not_le.mp (by assumption))) | exact zg_xy hv56_328 (hq75_0.mp (by assumption)) (zg_f1 hq101_0 (by first | assumption | exact Int32.not_le.mp (by assumption))) (zg_gb (by first | assumption | exact Int32.not_lt.mpr (by assumption))) | exact zg_xy hv56_328 (hq75_0.mp (by assumption)) (zg_f0 hq101_0 hq127_0 (by first | assumption | exact Int32.not_lt.mpr (by assumption))) (zg_ga (by first | assumption | exact Int32.not_le.mp (by assumption))) | exact zg_xy hv56_328 (hq75_0.mp (by assumption)) (zg_f0 hq101_0 hq127_0 (by first | assumption | exact Int32.not_lt.mpr (by assumption))) (zg_gb (by first | assumption | exact Int32.not_lt.mpr (by assumption)))) (hw.sub [0, 1, 2, 3, 4, 5, 6, 7, 8, 9, 10, 11, 12, 13, 14, 15, 16, 17, 18, 19, 21, 22, 20, 23] (by decide +kernel) rfl) (lv_sub hl [0, 1, 3, 4, 5] rfl)
                      · skip
                        refine lv_aload_n hx hb dX10_fairest_107 rfl (lv_at hl 4 rfl) ?_
                        refine zz_get (v := .ref (r 58)) S hw fgX10_131 22 rfl rfl dX10_fairest_108 ?_
                        refine lv_bipush (v := 6) hx hb dX10_fairest_111 (by decide) ?_
                        refine lv_iload hx hb dX10_fairest_113 (lv_at hl 0 rfl) ?_
                        refine lv_imul hx hb dX10_fairest_115 ?_
                        refine zz_topi (y := (nI (6 * vi309))) (pk_mul _ _) ?_
                        refine lv_iload_n hx hb dX10_fairest_116 rfl (lv_at hl 3 rfl) ?_
                        refine lv_iadd hx hb dX10_fairest_117 ?_
                        refine zz_topi (y := (nI ((6 * vi309) + vp10))) (nI_add _ _) ?_
                        refine zz_iald (v := (d58_7 ((6 * vi309) + vp10))) S hw 21 rfl (vp_in_nI (n := ((6 * vi309) + vp10)) (by omega) (by decide)) (congrArg d58_7 (nI_clamp (n := ((6 * vi309) + vp10)) (by omega))) dX10_fairest_118 ?_
                        refine lv_goto (tgt := 130) hx hb dX10_fairest_119 (by decide) ?_
                        refine lv_istore (lv' := [(5, .int (d58_7 ((6 * vi309) + vp10))), (4, .int (nI vi309)), (3, .int vy319), (2, .int (nI vi242)), (1, .int (nI vp10)), (0, .ref (r 0))]) hx hb dX10_fairest_130 hl (by decide) rfl (fun ls hl => ?_)
                        refine lv_iload hx hb dX10_fairest_132 (lv_at hl 0 rfl) ?_
                        refine lv_iload_n hx hb dX10_fairest_134 rfl (lv_at hl 2 rfl) ?_
                        refine W.eq (g2 := F0 m 135 ls [.int vy319, .int (d58_7 ((6 * vi309) + vp10))]) rfl ?_
                        refine lv_icmp_le (tgt := 141) hx hb dX10_fairest_135 (by decide) (fun c135_337 => ?_) (fun c135_337 => ?_)
                        · skip
                          refine lv_iinc (v := (nI (vi309 + 1))) (lv' := [(4, .int (nI (vi309 + 1))), (5, .int (d58_7 ((6 * vi309) + vp10))), (3, .int vy319), (2, .int (nI vi242)), (1, .int (nI vp10)), (0, .ref (r 0))]) hx hb dX10_fairest_141 hl (k := 1) rfl (nI_add _ 1) (by decide) rfl (fun ls hl => ?_)
                          refine lv_goto (tgt := 56) hx hb dX10_fairest_144 (by decide) ?_
                          exact ih56 (vi309 + 1) vy319 _ _ _ (by omega) (by omega) (by first | exact zg_xn hv56_328 (fun z => absurd (by assumption) (hq75_0.mpr z)) | exact zg_xy hv56_328 (hq75_0.mp (by assumption)) (zg_f1 hq101_0 (by first | assumption | exact Int32.not_le.mp (by assumption))) (zg_ga (by first | assumption | exact Int32.not_le.mp (by assumption))) | exact zg_xy hv56_328 (hq75_0.mp (by assumption)) (zg_f1 hq101_0 (by first | assumption | exact Int32.not_le.mp (by assumption))) (zg_gb (by first | assumption | exact Int32.not_lt.mpr (by assumption))) | exact zg_xy hv56_328 (hq75_0.mp (by assumption)) (zg_f0 hq101_0 hq127_0 (by first | assumption | exact Int32.not_lt.mpr (by assumption))) (zg_ga (by first | assumption | exact Int32.not_le.mp (by assumption))) | exact zg_xy hv56_328 (hq75_0.mp (by assumption)) (zg_f0 hq101_0 hq127_0 (by first | assumption | exact Int32.not_lt.mpr (by assumption))) (zg_gb (by first | assumption | exact Int32.not_lt.mpr (by assumption)))) (hw.sub [0, 1, 2, 3, 4, 5, 6, 7, 8, 9, 10, 11, 12, 13, 14, 15, 16, 17, 18, 19, 21, 22, 20, 23] (by decide +kernel) rfl) (lv_sub hl [0, 2, 3, 4, 5] rfl)
                        · skip
                          refine lv_iload hx hb dX10_fairest_138 (lv_at hl 0 rfl) ?_
                          refine lv_istore_n (lv' := [(3, .int (d58_7 ((6 * vi309) + vp10))), (5, .int (d58_7 ((6 * vi309) + vp10))), (4, .int (nI vi309)), (2, .int (nI vi242)), (1, .int (nI vp10)), (0, .ref (r 0))]) hx hb dX10_fairest_140 rfl hl (by decide) rfl (fun ls hl => ?_)
                          refine lv_iinc (v := (nI (vi309 + 1))) (lv' := [(4, .int (nI (vi309 + 1))), (3, .int (d58_7 ((6 * vi309) + vp10))), (5, .int (d58_7 ((6 * vi309) + vp10))), (2, .int (nI vi242)), (1, .int (nI vp10)), (0, .ref (r 0))]) hx hb dX10_fairest_141 hl (k := 2) rfl (nI_add _ 1) (by decide) rfl (fun ls hl => ?_)
                          refine lv_goto (tgt := 56) hx hb dX10_fairest_144 (by decide) ?_
                          exact ih56 (vi309 + 1) (d58_7 ((6 * vi309) + vp10)) _ _ _ (by omega) (by omega) (by first | exact zg_xn hv56_328 (fun z => absurd (by assumption) (hq75_0.mpr z)) | exact zg_xy hv56_328 (hq75_0.mp (by assumption)) (zg_f1 hq101_0 (by first | assumption | exact Int32.not_le.mp (by assumption))) (zg_ga (by first | assumption | exact Int32.not_le.mp (by assumption))) | exact zg_xy hv56_328 (hq75_0.mp (by assumption)) (zg_f1 hq101_0 (by first | assumption | exact Int32.not_le.mp (by assumption))) (zg_gb (by first | assumption | exact Int32.not_lt.mpr (by assumption))) | exact zg_xy hv56_328 (hq75_0.mp (by assumption)) (zg_f0 hq101_0 hq127_0 (by first | assumption | exact Int32.not_lt.mpr (by assumption))) (zg_ga (by first | assumption | exact Int32.not_le.mp (by assumption))) | exact zg_xy hv56_328 (hq75_0.mp (by assumption)) (zg_f0 hq101_0 hq127_0 (by first | assumption | exact Int32.not_lt.mpr (by assumption))) (zg_gb (by first | assumption | exact Int32.not_lt.mpr (by assumption)))) (hw.sub [0, 1, 2, 3, 4, 5, 6, 7, 8, 9, 10, 11, 12, 13, 14, 15, 16, 17, 18, 19, 21, 22, 20, 23] (by decide +kernel) rfl) (lv_sub hl [0, 1, 3, 4, 5] rfl)
                    · skip
                      refine lv_goto (tgt := 141) hx hb dX10_fairest_81 (by decide) ?_
                      refine lv_iinc (v := (nI (vi309 + 1))) (lv' := [(4, .int (nI (vi309 + 1))), (3, .int vy319), (2, .int (nI vi242)), (1, .int (nI vp10)), (0, .ref (r 0))]) hx hb dX10_fairest_141 hl (k := 0) rfl (nI_add _ 1) (by decide) rfl (fun ls hl => ?_)
                      refine lv_goto (tgt := 56) hx hb dX10_fairest_144 (by decide) ?_
                      exact ih56 (vi309 + 1) vy319 _ _ _ (by omega) (by omega) (by first | exact zg_xn hv56_328 (fun z => absurd (by assumption) (hq75_0.mpr z)) | exact zg_xy hv56_328 (hq75_0.mp (by assumption)) (zg_f1 hq101_0 (by first | assumption | exact Int32.not_le.mp (by assumption))) (zg_ga (by first | assumption | exact Int32.not_le.mp (by assumption))) | exact zg_xy hv56_328 (hq75_0.mp (by assumption)) (zg_f1 hq101_0 (by first | assumption | exact Int32.not_le.mp (by assumption))) (zg_gb (by first | assumption | exact Int32.not_lt.mpr (by assumption))) | exact zg_xy hv56_328 (hq75_0.mp (by assumption)) (zg_f0 hq101_0 hq127_0 (by first | assumption | exact Int32.not_lt.mpr (by assumption))) (zg_ga (by first | assumption | exact Int32.not_le.mp (by assumption))) | exact zg_xy hv56_328 (hq75_0.mp (by assumption)) (zg_f0 hq101_0 hq127_0 (by first | assumption | exact Int32.not_lt.mpr (by assumption))) (zg_gb (by first | assumption | exact Int32.not_lt.mpr (by assumption)))) (hw.sub [0, 1, 2, 3, 4, 5, 6, 7, 8, 9, 10, 11, 12, 13, 14, 15, 16, 17, 18, 19, 23, 22, 20, 21] (by decide +kernel) rfl) (lv_sub hl [0, 1, 2, 3, 4] rfl)
              exact lp56_329 (pp + 1 - 0) 0 (-2) _ _ _ (by omega) (by omega) rfl hw (lv_sub hl [0, 1, 2, 3, 4] rfl)
        exact lp43_307 (128 + 1 - 0) 0 vF143 _ _ _ (by omega) (by omega) hv37_240 (fun s hs => absurd hs (Nat.not_lt_zero s)) hw (lv_sub hl [0, 1, 2] rfl)
    exact lp37_241 pq d59_9 _ _ _ (Nat.le_refl _) (zg_j0 hq22_0 (fun _ => rfl)) hw (lv_sub hl [0, 1] rfl)
  · skip
    have c14_8n : pq = 0 := (zz_eq (a := pq) (b := 0) rfl rfl (by omega) (by omega)).mp c14_8
    refine lv_iconst (v := 0) hx hb dX10_fairest_17 (by decide) ?_
    exact hret _ _ _ _ _ _ ⟨0, k47_1, k50_2, k51_3, d45_4, d46_5, d49_6, d58_7, c59, rfl, rfl, ⟨_, _, hq2_0, hq2_1, (by first | exact Or.inl ⟨zg_z0 (by assumption) (by omega), rfl⟩ | exact Or.inr ⟨zg_z1 (by assumption), _, hdry, rfl⟩)⟩⟩ (hw.sub [1, 2, 3, 4, 5, 6, 7, 8, 9, 10, 11, 12, 13, 14, 15, 16, 17, 18, 19, 20, 21, 22, 23, 0] (by decide +kernel) rfl) rfl dX10_fairest_18
theorem kd_ncX10_wouldRather : kd_ck 14476885416666892893297974063046755390314191675425504449016950585835861100096578868520199408848073811642661071812837275441304118056173495659525987280523801099428685377357143474488974816100200979011479684963255458602 89 cX10_wouldRather.data.toList 0 = true := by decide +kernel
theorem dX10_wouldRather_0 : decode cX10_wouldRather 0 = .ok (.aload_n 0, 1) := kd_dk0 kd_o42 kd_ncX10_wouldRather rfl
theorem dX10_wouldRather_1 : decode cX10_wouldRather 1 = .ok (.iload_n 1, 1) := kd_dk0 kd_o27 kd_ncX10_wouldRather rfl
theorem dX10_wouldRather_2 : decode cX10_wouldRather 2 = .ok (.iload_n 2, 1) := kd_dk0 kd_o28 kd_ncX10_wouldRather rfl
theorem dX10_wouldRather_3 : decode cX10_wouldRather 3 = .ok (.invokevirtual 348, 3) := kd_dk2 kd_o182 kd_ncX10_wouldRather rfl
theorem dX10_wouldRather_6 : decode cX10_wouldRather 6 = .ok (.istore_n 3, 1) := kd_dk0 kd_o62 kd_ncX10_wouldRather rfl
theorem dX10_wouldRather_7 : decode cX10_wouldRather 7 = .ok (.aload_n 0, 1) := kd_dk0 kd_o42 kd_ncX10_wouldRather rfl
theorem dX10_wouldRather_8 : decode cX10_wouldRather 8 = .ok (.iload_n 1, 1) := kd_dk0 kd_o27 kd_ncX10_wouldRather rfl
theorem dX10_wouldRather_9 : decode cX10_wouldRather 9 = .ok (.invokevirtual 376, 3) := kd_dk2 kd_o182 kd_ncX10_wouldRather rfl
theorem dX10_wouldRather_12 : decode cX10_wouldRather 12 = .ok (.istore 4, 2) := kd_dk1 kd_o54 kd_ncX10_wouldRather rfl
theorem dX10_wouldRather_14 : decode cX10_wouldRather 14 = .ok (.aload_n 0, 1) := kd_dk0 kd_o42 kd_ncX10_wouldRather rfl
theorem dX10_wouldRather_15 : decode cX10_wouldRather 15 = .ok (.getfield 116, 3) := kd_dk2 kd_o180 kd_ncX10_wouldRather rfl
theorem dX10_wouldRather_18 : decode cX10_wouldRather 18 = .ok (.iload_n 2, 1) := kd_dk0 kd_o28 kd_ncX10_wouldRather rfl
theorem dX10_wouldRather_19 : decode cX10_wouldRather 19 = .ok (.iaload, 1) := kd_dk0 kd_o46 kd_ncX10_wouldRather rfl
theorem dX10_wouldRather_20 : decode cX10_wouldRather 20 = .ok (.istore 5, 2) := kd_dk1 kd_o54 kd_ncX10_wouldRather rfl
theorem dX10_wouldRather_22 : decode cX10_wouldRather 22 = .ok (.aload_n 0, 1) := kd_dk0 kd_o42 kd_ncX10_wouldRather rfl
theorem dX10_wouldRather_23 : decode cX10_wouldRather 23 = .ok (.iload_n 1, 1) := kd_dk0 kd_o27 kd_ncX10_wouldRather rfl
theorem dX10_wouldRather_24 : decode cX10_wouldRather 24 = .ok (.invokevirtual 345, 3) := kd_dk2 kd_o182 kd_ncX10_wouldRather rfl
theorem dX10_wouldRather_27 : decode cX10_wouldRather 27 = .ok (.ifCond .ne 60, 3) := kd_dj2 kd_o154 (w := 60) kd_ncX10_wouldRather rfl rfl
theorem dX10_wouldRather_30 : decode cX10_wouldRather 30 = .ok (.iload_n 3, 1) := kd_dk0 kd_o29 kd_ncX10_wouldRather rfl
theorem dX10_wouldRather_31 : decode cX10_wouldRather 31 = .ok (.aload_n 0, 1) := kd_dk0 kd_o42 kd_ncX10_wouldRather rfl
theorem dX10_wouldRather_32 : decode cX10_wouldRather 32 = .ok (.getfield 67, 3) := kd_dk2 kd_o180 kd_ncX10_wouldRather rfl
theorem dX10_wouldRather_35 : decode cX10_wouldRather 35 = .ok (.aload_n 0, 1) := kd_dk0 kd_o42 kd_ncX10_wouldRather rfl
theorem dX10_wouldRather_36 : decode cX10_wouldRather 36 = .ok (.getfield 236, 3) := kd_dk2 kd_o180 kd_ncX10_wouldRather rfl
theorem dX10_wouldRather_39 : decode cX10_wouldRather 39 = .ok (.iaload, 1) := kd_dk0 kd_o46 kd_ncX10_wouldRather rfl
theorem dX10_wouldRather_40 : decode cX10_wouldRather 40 = .ok (.if_icmp .lt 47, 3) := kd_dj2 kd_o161 (w := 47) kd_ncX10_wouldRather rfl rfl
theorem dX10_wouldRather_43 : decode cX10_wouldRather 43 = .ok (.iload_n 3, 1) := kd_dk0 kd_o29 kd_ncX10_wouldRather rfl
theorem dX10_wouldRather_44 : decode cX10_wouldRather 44 = .ok (.iload 4, 2) := kd_dk1 kd_o21 kd_ncX10_wouldRather rfl
theorem dX10_wouldRather_46 : decode cX10_wouldRather 46 = .ok (.ifCond .ge 7, 3) := kd_dj2 kd_o156 (w := 7) kd_ncX10_wouldRather rfl rfl
theorem dX10_wouldRather_49 : decode cX10_wouldRather 49 = .ok (.iconst 0, 1) := kd_dk0 kd_o3 kd_ncX10_wouldRather rfl
theorem dX10_wouldRather_50 : decode cX10_wouldRather 50 = .ok (.goto 10, 3) := kd_dj2 kd_o167 (w := 10) kd_ncX10_wouldRather rfl rfl
theorem dX10_wouldRather_53 : decode cX10_wouldRather 53 = .ok (.aload_n 0, 1) := kd_dk0 kd_o42 kd_ncX10_wouldRather rfl
theorem dX10_wouldRather_54 : decode cX10_wouldRather 54 = .ok (.iload_n 1, 1) := kd_dk0 kd_o27 kd_ncX10_wouldRather rfl
theorem dX10_wouldRather_55 : decode cX10_wouldRather 55 = .ok (.iload 4, 2) := kd_dk1 kd_o21 kd_ncX10_wouldRather rfl
theorem dX10_wouldRather_57 : decode cX10_wouldRather 57 = .ok (.invokevirtual 348, 3) := kd_dk2 kd_o182 kd_ncX10_wouldRather rfl
theorem dX10_wouldRather_60 : decode cX10_wouldRather 60 = .ok (.if_icmp .le 27, 3) := kd_dj2 kd_o164 (w := 27) kd_ncX10_wouldRather rfl rfl
theorem dX10_wouldRather_63 : decode cX10_wouldRather 63 = .ok (.iload_n 3, 1) := kd_dk0 kd_o29 kd_ncX10_wouldRather rfl
theorem dX10_wouldRather_64 : decode cX10_wouldRather 64 = .ok (.iload 5, 2) := kd_dk1 kd_o21 kd_ncX10_wouldRather rfl
theorem dX10_wouldRather_66 : decode cX10_wouldRather 66 = .ok (.ifCond .ge 7, 3) := kd_dj2 kd_o156 (w := 7) kd_ncX10_wouldRather rfl rfl
theorem dX10_wouldRather_69 : decode cX10_wouldRather 69 = .ok (.iconst 0, 1) := kd_dk0 kd_o3 kd_ncX10_wouldRather rfl
theorem dX10_wouldRather_70 : decode cX10_wouldRather 70 = .ok (.goto 10, 3) := kd_dj2 kd_o167 (w := 10) kd_ncX10_wouldRather rfl rfl
theorem dX10_wouldRather_73 : decode cX10_wouldRather 73 = .ok (.aload_n 0, 1) := kd_dk0 kd_o42 kd_ncX10_wouldRather rfl
theorem dX10_wouldRather_74 : decode cX10_wouldRather 74 = .ok (.iload 5, 2) := kd_dk1 kd_o21 kd_ncX10_wouldRather rfl
theorem dX10_wouldRather_76 : decode cX10_wouldRather 76 = .ok (.iload_n 2, 1) := kd_dk0 kd_o28 kd_ncX10_wouldRather rfl
theorem dX10_wouldRather_77 : decode cX10_wouldRather 77 = .ok (.invokevirtual 348, 3) := kd_dk2 kd_o182 kd_ncX10_wouldRather rfl
theorem dX10_wouldRather_80 : decode cX10_wouldRather 80 = .ok (.if_icmp .le 7, 3) := kd_dj2 kd_o164 (w := 7) kd_ncX10_wouldRather rfl rfl
theorem dX10_wouldRather_83 : decode cX10_wouldRather 83 = .ok (.iconst 1, 1) := kd_dk0 kd_o4 kd_ncX10_wouldRather rfl
theorem dX10_wouldRather_84 : decode cX10_wouldRather 84 = .ok (.goto 4, 3) := kd_dj2 kd_o167 (w := 4) kd_ncX10_wouldRather rfl rfl
theorem dX10_wouldRather_87 : decode cX10_wouldRather 87 = .ok (.iconst 0, 1) := kd_dk0 kd_o3 kd_ncX10_wouldRather rfl
theorem dX10_wouldRather_88 : decode cX10_wouldRather 88 = .ok (.ireturn, 1) := kd_dk0 kd_o172 kd_ncX10_wouldRather rfl
set_option maxHeartbeats 8000000 in
set_option maxRecDepth 100000 in
theorem c_x_wouldRather (l : Launch) (G : zz_G) (r : Nat → Nat) (j0 : Int32) (j2 : Int32) (j4 : Int32) (j10 : Int32) (j11 : Int32) (j12 : Int32) (j13 : Int32) (j14 : Int32) (j15 : Int32) (j16 : Int32) (j17 : Int32) (j19 : Int32) (j20 : Int32) (j34 : Int32) (j40 : Int32) (j44 : Int32) (j47 : Int32) (j50 : Int32) (j51 : Int32) (j56 : Int32) (j61 : Int32) (lv : Nat) (pp : Nat) (pq : Nat) (c22 : Nat → Int32) (c24 : Nat → Int32) (c25 : Nat → Int32) (c26 : Nat → Int32) (c28 : Nat → Int32) (c29 : Nat → Int32) (c30 : Nat → Int32) (c32 : Nat → Int32) (c33 : Nat → Int32) (c35 : Nat → Int32) (c36 : Nat → Int32) (c37 : Nat → Int32) (c38 : Nat → Int32) (c39 : Nat → Int32) (c41 : Nat → Int32) (c42 : Nat → Int32) (c45 : Nat → Int32) (c46 : Nat → Int32) (c49 : Nat → Int32) (c52 : Nat → Int32) (pe : Nat) (pa : Nat) (hlv : lv ≤ 1) (hpe : c22 lv = nI pp) (hpp : pp ≤ 7) (hpa : c26 lv = nI pq) (hpq : pq ≤ 6) (hlw : zz_LW 2 0 0 c32 c33 c35 c36 c37 c38 c39 c41 c42) (hca : ∀ j, j < 6 → zz_ok 7 (c52 j)) (hpx : pe < pp) (hpy : pa < pq) : zz_M l G mX10_wouldRather 4 0 0 [.ref (r 0), .int (nI pe), .int (nI pa)] [((r 0), .inr (10, (zz_mo r [(0, j0), (2, j2), (4, j4), (10, j10), (11, j11), (12, j12), (13, j13), (14, j14), (15, j15), (16, j16), (17, j17), (18, (nI lv)), (19, j19), (20, j20), (34, j34), (40, j40), (44, j44), (47, j47), (50, j50), (51, j51), (56, j56), (61, j61)]))), ((r 22), .inl (G.2 0, 2, .inl c22)), ((r 24), .inl (G.2 0, 14, .inl c24)), ((r 25), .inl (G.2 0, 14, .inl c25)), ((r 26), .inl (G.2 0, 2, .inl c26)), ((r 28), .inl (G.2 0, 12, .inl c28)), ((r 29), .inl (G.2 0, 12, .inl c29)), ((r 30), .inl (G.2 0, 2, .inl c30)), ((r 32), .inl (G.2 0, 8, .inl c32)), ((r 33), .inl (G.2 0, 8, .inl c33)), ((r 35), .inl (G.2 2, 260, .inl c35)), ((r 36), .inl (G.2 0, 260, .inl c36)), ((r 37), .inl (G.2 0, 260, .inl c37)), ((r 38), .inl (G.2 0, 260, .inl c38)), ((r 39), .inl (G.2 0, 260, .inl c39)), ((r 41), .inl (G.2 0, 840, .inl c41)), ((r 42), .inl (G.2 0, 840, .inl c42)), ((r 45), .inl (G.2 0, 9, .inl c45)), ((r 46), .inl (G.2 0, 400, .inl c46)), ((r 49), .inl (G.2 0, 71, .inl c49)), ((r 52), .inl (G.2 0, 6, .inl c52))] (fun rr u => ∃ (rv : Int32), ∃ (k47 : Int32), ∃ (d45 : Nat → Int32), ∃ (d46 : Nat → Int32), rr = some (.int rv) ∧ u = [((r 0), .inr (10, (zz_mo r [(0, j0), (2, j2), (4, j4), (10, j10), (11, j11), (12, j12), (13, j13), (14, j14), (15, j15), (16, j16), (17, j17), (18, (nI lv)), (19, j19), (20, j20), (34, j34), (40, j40), (44, j44), (47, k47), (50, j50), (51, j51), (56, j56), (61, j61)]))), ((r 22), .inl (G.2 0, 2, .inl c22)), ((r 24), .inl (G.2 0, 14, .inl c24)), ((r 25), .inl (G.2 0, 14, .inl c25)), ((r 26), .inl (G.2 0, 2, .inl c26)), ((r 28), .inl (G.2 0, 12, .inl c28)), ((r 29), .inl (G.2 0, 12, .inl c29)), ((r 30), .inl (G.2 0, 2, .inl c30)), ((r 32), .inl (G.2 0, 8, .inl c32)), ((r 33), .inl (G.2 0, 8, .inl c33)), ((r 35), .inl (G.2 2, 260, .inl c35)), ((r 36), .inl (G.2 0, 260, .inl c36)), ((r 37), .inl (G.2 0, 260, .inl c37)), ((r 38), .inl (G.2 0, 260, .inl c38)), ((r 39), .inl (G.2 0, 260, .inl c39)), ((r 41), .inl (G.2 0, 840, .inl c41)), ((r 42), .inl (G.2 0, 840, .inl c42)), ((r 45), .inl (G.2 0, 9, .inl d45)), ((r 46), .inl (G.2 0, 400, .inl d46)), ((r 49), .inl (G.2 0, 71, .inl c49)), ((r 52), .inl (G.2 0, 6, .inl c52))] ∧ ((∃ y, zA_cf c52 pq (nI pe) y ∧ ∀ Λ, (zr_HD lv c32 c33 c35 c36 c37 c38 c39 c41 c42 (c30 lv)) Λ → (¬ rv = 0 ↔ zk_wr (zr_Sx 99 lv c49 c24 c28 c25 c29 (Λ 0)) (c49 (14 + pe) = 1) (c30 lv) (c52 pa) y pe pa))) ∧ (rv = 0 ∨ rv = 1)) := by
  refine zz_enteri (by decide +kernel) (Nat.le_of_ble_eq_true rfl) ?_
  intro p e s m args below meth c A Q ls S hnm hret hw hl
  have hl : lv_has ls 6 [(0, .ref (r 0)), (1, .int (nI pe)), (2, .int (nI pa))] := hl
  have hx := S.1
  have hb := S.2.1
  refine lv_aload_n hx hb dX10_wouldRather_0 rfl (lv_at hl 0 rfl) ?_
  refine lv_iload_n hx hb dX10_wouldRather_1 rfl (lv_at hl 1 rfl) ?_
  refine lv_iload_n hx hb dX10_wouldRather_2 rfl (lv_at hl 2 rfl) ?_
  refine zz_callV (qb := 0) (As := [.int (nI pe), .int (nI pa)]) (rest := []) (wr := [((r 22), .inl (G.2 0, 2, .inl c22)), ((r 26), .inl (G.2 0, 2, .inl c26)), ((r 30), .inl (G.2 0, 2, .inl c30)), ((r 52), .inl (G.2 0, 6, .inl c52))]) S hw hl.1 lX10_348 (c_x_standsOf l G r j0 j2 j4 j10 j11 j12 j13 j14 j15 j16 j17 j19 j20 j34 j40 j44 j47 j50 j51 j56 j61 lv c24 c25 c28 c29 c32 c33 c35 c36 c37 c38 c39 c41 c42 c45 c46 c49 pe pa (by first | assumption | omega | exact Or.inr ⟨_, by omega, rfl⟩ | (unfold zz_sok; decide) | decide | exact (fun j hj => (hv7 j hj).1)) (by first | assumption | omega | exact Or.inr ⟨_, by omega, rfl⟩ | (unfold zz_sok; decide) | decide | exact (fun j hj => (hv7 j hj).1)) (by first | assumption | omega | exact Or.inr ⟨_, by omega, rfl⟩ | (unfold zz_sok; decide) | decide | exact (fun j hj => (hv7 j hj).1)) (by first | assumption | omega | exact Or.inr ⟨_, by omega, rfl⟩ | (unfold zz_sok; decide) | decide | exact (fun j hj => (hv7 j hj).1))) ⟨Nat.le_of_ble_eq_true rfl, Nat.le_of_ble_eq_true rfl⟩ ⟨Nat.le_of_ble_eq_true rfl, Nat.le_of_ble_eq_true rfl⟩ [0, 2, 3, 5, 6, 8, 9, 10, 11, 12, 13, 14, 15, 16, 17, 18, 19] [1, 4, 7, 20] (by decide +kernel) rfl rfl (by decide +kernel) (by decide +kernel) rfl rfl rfl rfl (Nat.le_of_ble_eq_true rfl) dX10_wouldRather_3 ?_
  clear hw
  intro rr u H locs hp hw
  refine hp.elim fun rv_1 zg0 => zg0.elim fun k47_2 zg1 => zg1.elim fun d45_3 zg2 => zg2.elim fun d46_4 zg3 => zg3.elim fun zee1 zg4 => zg4.elim fun zee2 hq3_0 => ?_
  clear hp zg0 zg1 zg2 zg3 zg4
  subst zee1
  subst zee2
  replace hw : zz_w G A s [((r 22), .inl (G.2 0, 2, .inl c22)), ((r 26), .inl (G.2 0, 2, .inl c26)), ((r 30), .inl (G.2 0, 2, .inl c30)), ((r 52), .inl (G.2 0, 6, .inl c52)), ((r 0), .inr (10, (zz_mo r [(0, j0), (2, j2), (4, j4), (10, j10), (11, j11), (12, j12), (13, j13), (14, j14), (15, j15), (16, j16), (17, j17), (18, (nI lv)), (19, j19), (20, j20), (34, j34), (40, j40), (44, j44), (47, k47_2), (50, j50), (51, j51), (56, j56), (61, j61)]))), ((r 24), .inl (G.2 0, 14, .inl c24)), ((r 25), .inl (G.2 0, 14, .inl c25)), ((r 28), .inl (G.2 0, 12, .inl c28)), ((r 29), .inl (G.2 0, 12, .inl c29)), ((r 32), .inl (G.2 0, 8, .inl c32)), ((r 33), .inl (G.2 0, 8, .inl c33)), ((r 35), .inl (G.2 2, 260, .inl c35)), ((r 36), .inl (G.2 0, 260, .inl c36)), ((r 37), .inl (G.2 0, 260, .inl c37)), ((r 38), .inl (G.2 0, 260, .inl c38)), ((r 39), .inl (G.2 0, 260, .inl c39)), ((r 41), .inl (G.2 0, 840, .inl c41)), ((r 42), .inl (G.2 0, 840, .inl c42)), ((r 45), .inl (G.2 0, 9, .inl d45_3)), ((r 46), .inl (G.2 0, 400, .inl d46_4)), ((r 49), .inl (G.2 0, 71, .inl c49))] H _ := hw
  refine W.eq (g2 := F0 m 6 ls [.int rv_1]) rfl ?_
  refine lv_istore_n (lv' := [(3, .int rv_1), (0, .ref (r 0)), (1, .int (nI pe)), (2, .int (nI pa))]) hx hb dX10_wouldRather_6 rfl hl (by decide) rfl (fun ls hl => ?_)
  refine lv_aload_n hx hb dX10_wouldRather_7 rfl (lv_at hl 1 rfl) ?_
  refine lv_iload_n hx hb dX10_wouldRather_8 rfl (lv_at hl 2 rfl) ?_
  refine zz_callV (qb := 4) (As := [.int (nI pe)]) (rest := []) (wr := [((r 22), .inl (G.2 0, 2, .inl c22)), ((r 30), .inl (G.2 0, 2, .inl c30)), ((r 24), .inl (G.2 0, 14, .inl c24)), ((r 25), .inl (G.2 0, 14, .inl c25)), ((r 28), .inl (G.2 0, 12, .inl c28)), ((r 29), .inl (G.2 0, 12, .inl c29)), ((r 32), .inl (G.2 0, 8, .inl c32)), ((r 33), .inl (G.2 0, 8, .inl c33)), ((r 35), .inl (G.2 2, 260, .inl c35)), ((r 36), .inl (G.2 0, 260, .inl c36)), ((r 37), .inl (G.2 0, 260, .inl c37)), ((r 38), .inl (G.2 0, 260, .inl c38)), ((r 39), .inl (G.2 0, 260, .inl c39)), ((r 41), .inl (G.2 0, 840, .inl c41)), ((r 42), .inl (G.2 0, 840, .inl c42)), ((r 45), .inl (G.2 0, 9, .inl d45_3)), ((r 46), .inl (G.2 0, 400, .inl d46_4)), ((r 49), .inl (G.2 0, 71, .inl c49))]) S hw hl.1 lX10_376 (c_x_castFor l G r j0 j2 j4 j10 j11 j12 j13 j14 j15 j16 j17 j19 j20 j34 j40 j44 k47_2 j50 j51 j56 j61 lv pq c26 c52 (nI pe) (by first | assumption | omega | exact Or.inr ⟨_, by omega, rfl⟩ | (unfold zz_sok; decide) | decide | exact (fun j hj => (hv7 j hj).1)) (by first | assumption | omega | exact Or.inr ⟨_, by omega, rfl⟩ | (unfold zz_sok; decide) | decide | exact (fun j hj => (hv7 j hj).1)) (by first | assumption | omega | exact Or.inr ⟨_, by omega, rfl⟩ | (unfold zz_sok; decide) | decide | exact (fun j hj => (hv7 j hj).1)) (by first | assumption | omega | exact Or.inr ⟨_, by omega, rfl⟩ | (unfold zz_sok; decide) | decide | exact (fun j hj => (hv7 j hj).1))) ⟨Nat.le_of_ble_eq_true rfl, Nat.le_of_ble_eq_true rfl⟩ ⟨Nat.le_of_ble_eq_true rfl, Nat.le_of_ble_eq_true rfl⟩ [4, 1, 3] [0, 2, 5, 6, 7, 8, 9, 10, 11, 12, 13, 14, 15, 16, 17, 18, 19, 20] (by decide +kernel) rfl rfl (by decide +kernel) (by decide +kernel) rfl rfl rfl rfl (Nat.le_of_ble_eq_true rfl) dX10_wouldRather_9 ?_
  clear hw
  intro rr u H locs hp hw
  refine hp.elim fun rv_5 zg0 => zg0.elim fun zee1 zg1 => zg1.elim fun zee2 zg2 => zg2.elim fun hq9_0 hq9_1 => ?_
  clear hp zg0 zg1 zg2
  subst zee1
  subst zee2
  replace hw : zz_w G A s [((r 22), .inl (G.2 0, 2, .inl c22)), ((r 30), .inl (G.2 0, 2, .inl c30)), ((r 24), .inl (G.2 0, 14, .inl c24)), ((r 25), .inl (G.2 0, 14, .inl c25)), ((r 28), .inl (G.2 0, 12, .inl c28)), ((r 29), .inl (G.2 0, 12, .inl c29)), ((r 32), .inl (G.2 0, 8, .inl c32)), ((r 33), .inl (G.2 0, 8, .inl c33)), ((r 35), .inl (G.2 2, 260, .inl c35)), ((r 36), .inl (G.2 0, 260, .inl c36)), ((r 37), .inl (G.2 0, 260, .inl c37)), ((r 38), .inl (G.2 0, 260, .inl c38)), ((r 39), .inl (G.2 0, 260, .inl c39)), ((r 41), .inl (G.2 0, 840, .inl c41)), ((r 42), .inl (G.2 0, 840, .inl c42)), ((r 45), .inl (G.2 0, 9, .inl d45_3)), ((r 46), .inl (G.2 0, 400, .inl d46_4)), ((r 49), .inl (G.2 0, 71, .inl c49)), ((r 0), .inr (10, (zz_mo r [(0, j0), (2, j2), (4, j4), (10, j10), (11, j11), (12, j12), (13, j13), (14, j14), (15, j15), (16, j16), (17, j17), (18, (nI lv)), (19, j19), (20, j20), (34, j34), (40, j40), (44, j44), (47, k47_2), (50, j50), (51, j51), (56, j56), (61, j61)]))), ((r 26), .inl (G.2 0, 2, .inl c26)), ((r 52), .inl (G.2 0, 6, .inl c52))] H _ := hw
  refine W.eq (g2 := F0 m 12 ls [.int rv_5]) rfl ?_
  refine lv_istore (lv' := [(4, .int rv_5), (3, .int rv_1), (0, .ref (r 0)), (1, .int (nI pe)), (2, .int (nI pa))]) hx hb dX10_wouldRather_12 hl (by decide) rfl (fun ls hl => ?_)
  refine lv_aload_n hx hb dX10_wouldRather_14 rfl (lv_at hl 2 rfl) ?_
  refine zz_get (v := .ref (r 52)) S hw fgX10_116 18 rfl rfl dX10_wouldRather_15 ?_
  refine lv_iload_n hx hb dX10_wouldRather_18 rfl (lv_at hl 4 rfl) ?_
  obtain ⟨vz6, hvz6, evz6⟩ : ∃ z : Int32, zz_ok 7 z ∧ c52 pa = z := ⟨_, (show ∀ j, j < 6 → zz_ok 7 (c52 j) from by assumption) pa (by omega), rfl⟩
  refine zz_iald (v := vz6) S hw 20 rfl (vp_in_nI (n := pa) (by omega) (by decide)) (by rw [show ((nI pa) : Int32).toNatClampNeg = pa from nI_clamp (n := pa) (by omega)]; exact evz6) dX10_wouldRather_19 ?_
  refine lv_istore (lv' := [(5, .int vz6), (4, .int rv_5), (3, .int rv_1), (0, .ref (r 0)), (1, .int (nI pe)), (2, .int (nI pa))]) hx hb dX10_wouldRather_20 hl (by decide) rfl (fun ls hl => ?_)
  refine W.eq (g2 := F0 m 22 ls []) rfl ?_
  refine lv_aload_n hx hb dX10_wouldRather_22 rfl (lv_at hl 3 rfl) ?_
  refine lv_iload_n hx hb dX10_wouldRather_23 rfl (lv_at hl 4 rfl) ?_
  refine zz_callV (qb := 18) (As := [.int (nI pe)]) (rest := []) (wr := [((r 22), .inl (G.2 0, 2, .inl c22)), ((r 30), .inl (G.2 0, 2, .inl c30)), ((r 24), .inl (G.2 0, 14, .inl c24)), ((r 25), .inl (G.2 0, 14, .inl c25)), ((r 28), .inl (G.2 0, 12, .inl c28)), ((r 29), .inl (G.2 0, 12, .inl c29)), ((r 32), .inl (G.2 0, 8, .inl c32)), ((r 33), .inl (G.2 0, 8, .inl c33)), ((r 35), .inl (G.2 2, 260, .inl c35)), ((r 36), .inl (G.2 0, 260, .inl c36)), ((r 37), .inl (G.2 0, 260, .inl c37)), ((r 38), .inl (G.2 0, 260, .inl c38)), ((r 39), .inl (G.2 0, 260, .inl c39)), ((r 41), .inl (G.2 0, 840, .inl c41)), ((r 42), .inl (G.2 0, 840, .inl c42)), ((r 45), .inl (G.2 0, 9, .inl d45_3)), ((r 46), .inl (G.2 0, 400, .inl d46_4)), ((r 26), .inl (G.2 0, 2, .inl c26)), ((r 52), .inl (G.2 0, 6, .inl c52))]) S hw hl.1 lX10_345 (c_x_isOff l G r j0 j2 j4 j10 j11 j12 j13 j14 j15 j16 j17 (nI lv) j19 j20 j34 j40 j44 k47_2 j50 j51 j56 j61 c49 pe (by first | assumption | omega | exact Or.inr ⟨_, by omega, rfl⟩ | (unfold zz_sok; decide) | decide | exact (fun j hj => (hv7 j hj).1))) ⟨Nat.le_of_ble_eq_true rfl, Nat.le_of_ble_eq_true rfl⟩ ⟨Nat.le_of_ble_eq_true rfl, Nat.le_of_ble_eq_true rfl⟩ [18, 17] [0, 1, 2, 3, 4, 5, 6, 7, 8, 9, 10, 11, 12, 13, 14, 15, 16, 19, 20] (by decide +kernel) rfl rfl (by decide +kernel) (by decide +kernel) rfl rfl rfl rfl (Nat.le_of_ble_eq_true rfl) dX10_wouldRather_24 ?_
  clear hw
  intro rr u H locs hp hw
  refine hp.elim fun rv_7 zg0 => zg0.elim fun zee1 zg1 => zg1.elim fun zee2 zg2 => zg2.elim fun hq24_0 hq24_1 => ?_
  clear hp zg0 zg1 zg2
  subst zee1
  subst zee2
  replace hw : zz_w G A s [((r 22), .inl (G.2 0, 2, .inl c22)), ((r 30), .inl (G.2 0, 2, .inl c30)), ((r 24), .inl (G.2 0, 14, .inl c24)), ((r 25), .inl (G.2 0, 14, .inl c25)), ((r 28), .inl (G.2 0, 12, .inl c28)), ((r 29), .inl (G.2 0, 12, .inl c29)), ((r 32), .inl (G.2 0, 8, .inl c32)), ((r 33), .inl (G.2 0, 8, .inl c33)), ((r 35), .inl (G.2 2, 260, .inl c35)), ((r 36), .inl (G.2 0, 260, .inl c36)), ((r 37), .inl (G.2 0, 260, .inl c37)), ((r 38), .inl (G.2 0, 260, .inl c38)), ((r 39), .inl (G.2 0, 260, .inl c39)), ((r 41), .inl (G.2 0, 840, .inl c41)), ((r 42), .inl (G.2 0, 840, .inl c42)), ((r 45), .inl (G.2 0, 9, .inl d45_3)), ((r 46), .inl (G.2 0, 400, .inl d46_4)), ((r 26), .inl (G.2 0, 2, .inl c26)), ((r 52), .inl (G.2 0, 6, .inl c52)), ((r 0), .inr (10, (zz_mo r [(0, j0), (2, j2), (4, j4), (10, j10), (11, j11), (12, j12), (13, j13), (14, j14), (15, j15), (16, j16), (17, j17), (18, (nI lv)), (19, j19), (20, j20), (34, j34), (40, j40), (44, j44), (47, k47_2), (50, j50), (51, j51), (56, j56), (61, j61)]))), ((r 49), .inl (G.2 0, 71, .inl c49))] H _ := hw
  refine W.eq (g2 := F0 m 27 ls [.int rv_7]) rfl ?_
  refine lv_if_ne (tgt := 87) hx hb dX10_wouldRather_27 (by decide) (fun c27_8 => ?_) (fun c27_8 => ?_)
  · skip
    refine lv_iconst (v := 0) hx hb dX10_wouldRather_87 (by decide) ?_
    exact hret _ _ _ _ _ _ ⟨0, k47_2, d45_3, d46_4, rfl, rfl, ⟨_, hq9_1, fun Λ h => zk_w0 (hq24_0.mp c27_8)⟩, (by first | exact Or.inl rfl | exact Or.inr rfl | assumption)⟩ (hw.sub [19, 0, 2, 3, 17, 4, 5, 1, 6, 7, 8, 9, 10, 11, 12, 13, 14, 15, 16, 20, 18] (by decide +kernel) rfl) rfl dX10_wouldRather_88
  · skip
    refine lv_iload_n hx hb dX10_wouldRather_30 rfl (lv_at hl 2 rfl) ?_
    refine lv_aload_n hx hb dX10_wouldRather_31 rfl (lv_at hl 3 rfl) ?_
    refine zz_get (v := .ref (r 30)) S hw fgX10_67 19 rfl rfl dX10_wouldRather_32 ?_
    refine lv_aload_n hx hb dX10_wouldRather_35 rfl (lv_at hl 3 rfl) ?_
    refine zz_get (v := .int (nI lv)) S hw fgX10_236 19 rfl rfl dX10_wouldRather_36 ?_
    refine zz_iald (v := (c30 lv)) S hw 1 rfl (vp_in_nI (n := lv) (by omega) (by decide)) (congrArg c30 (nI_clamp (n := lv) (by omega))) dX10_wouldRather_39 ?_
    refine lv_icmp_lt (tgt := 87) hx hb dX10_wouldRather_40 (by decide) (fun c40_9 => ?_) (fun c40_9 => ?_)
    · skip
      refine lv_iconst (v := 0) hx hb dX10_wouldRather_87 (by decide) ?_
      exact hret _ _ _ _ _ _ ⟨0, k47_2, d45_3, d46_4, rfl, rfl, ⟨_, hq9_1, fun Λ h => zk_w1 (hq3_0 Λ h.1 (h.2.1 0 (by decide))) c40_9⟩, (by first | exact Or.inl rfl | exact Or.inr rfl | assumption)⟩ (hw.sub [19, 0, 2, 3, 17, 4, 5, 1, 6, 7, 8, 9, 10, 11, 12, 13, 14, 15, 16, 20, 18] (by decide +kernel) rfl) rfl dX10_wouldRather_88
    · skip
      refine lv_iload_n hx hb dX10_wouldRather_43 rfl (lv_at hl 2 rfl) ?_
      refine lv_iload hx hb dX10_wouldRather_44 (lv_at hl 1 rfl) ?_
      refine lv_if_ge (tgt := 53) hx hb dX10_wouldRather_46 (by decide) (fun c46_10 => ?_) (fun c46_10 => ?_)
      · skip
        obtain ⟨vq11, hvq11, rfl⟩ := zz_okn hq9_0 (Int32.not_lt.mpr c46_10)
        refine lv_aload_n hx hb dX10_wouldRather_53 rfl (lv_at hl 3 rfl) ?_
        refine W.eq (g2 := F0 m 54 ls [.ref (r 0), .int rv_1]) rfl ?_
        refine lv_iload_n hx hb dX10_wouldRather_54 rfl (lv_at hl 4 rfl) ?_
        refine lv_iload hx hb dX10_wouldRather_55 (lv_at hl 1 rfl) ?_
        refine zz_callV (qb := 19) (As := [.int (nI pe), .int (nI vq11)]) (rest := [.int rv_1]) (wr := [((r 22), .inl (G.2 0, 2, .inl c22)), ((r 30), .inl (G.2 0, 2, .inl c30)), ((r 26), .inl (G.2 0, 2, .inl c26)), ((r 52), .inl (G.2 0, 6, .inl c52))]) S hw hl.1 lX10_348 (c_x_standsOf l G r j0 j2 j4 j10 j11 j12 j13 j14 j15 j16 j17 j19 j20 j34 j40 j44 k47_2 j50 j51 j56 j61 lv c24 c25 c28 c29 c32 c33 c35 c36 c37 c38 c39 c41 c42 d45_3 d46_4 c49 pe vq11 (by first | assumption | omega | exact Or.inr ⟨_, by omega, rfl⟩ | (unfold zz_sok; decide) | decide | exact (fun j hj => (hv7 j hj).1)) (by first | assumption | omega | exact Or.inr ⟨_, by omega, rfl⟩ | (unfold zz_sok; decide) | decide | exact (fun j hj => (hv7 j hj).1)) (by first | assumption | omega | exact Or.inr ⟨_, by omega, rfl⟩ | (unfold zz_sok; decide) | decide | exact (fun j hj => (hv7 j hj).1)) (by first | assumption | omega | exact Or.inr ⟨_, by omega, rfl⟩ | (unfold zz_sok; decide) | decide | exact (fun j hj => (hv7 j hj).1))) ⟨Nat.le_of_ble_eq_true rfl, Nat.le_of_ble_eq_true rfl⟩ ⟨Nat.le_of_ble_eq_true rfl, Nat.le_of_ble_eq_true rfl⟩ [19, 2, 3, 4, 5, 6, 7, 8, 9, 10, 11, 12, 13, 14, 15, 16, 20] [0, 1, 17, 18] (by decide +kernel) rfl rfl (by decide +kernel) (by decide +kernel) rfl rfl rfl rfl (Nat.le_of_ble_eq_true rfl) dX10_wouldRather_57 ?_
        clear hw
        intro rr u H locs hp hw
        refine hp.elim fun rv_12 zg0 => zg0.elim fun k47_13 zg1 => zg1.elim fun d45_14 zg2 => zg2.elim fun d46_15 zg3 => zg3.elim fun zee1 zg4 => zg4.elim fun zee2 hq57_0 => ?_
        clear hp zg0 zg1 zg2 zg3 zg4
        subst zee1
        subst zee2
        replace hw : zz_w G A s [((r 22), .inl (G.2 0, 2, .inl c22)), ((r 30), .inl (G.2 0, 2, .inl c30)), ((r 26), .inl (G.2 0, 2, .inl c26)), ((r 52), .inl (G.2 0, 6, .inl c52)), ((r 0), .inr (10, (zz_mo r [(0, j0), (2, j2), (4, j4), (10, j10), (11, j11), (12, j12), (13, j13), (14, j14), (15, j15), (16, j16), (17, j17), (18, (nI lv)), (19, j19), (20, j20), (34, j34), (40, j40), (44, j44), (47, k47_13), (50, j50), (51, j51), (56, j56), (61, j61)]))), ((r 24), .inl (G.2 0, 14, .inl c24)), ((r 25), .inl (G.2 0, 14, .inl c25)), ((r 28), .inl (G.2 0, 12, .inl c28)), ((r 29), .inl (G.2 0, 12, .inl c29)), ((r 32), .inl (G.2 0, 8, .inl c32)), ((r 33), .inl (G.2 0, 8, .inl c33)), ((r 35), .inl (G.2 2, 260, .inl c35)), ((r 36), .inl (G.2 0, 260, .inl c36)), ((r 37), .inl (G.2 0, 260, .inl c37)), ((r 38), .inl (G.2 0, 260, .inl c38)), ((r 39), .inl (G.2 0, 260, .inl c39)), ((r 41), .inl (G.2 0, 840, .inl c41)), ((r 42), .inl (G.2 0, 840, .inl c42)), ((r 45), .inl (G.2 0, 9, .inl d45_14)), ((r 46), .inl (G.2 0, 400, .inl d46_15)), ((r 49), .inl (G.2 0, 71, .inl c49))] H _ := hw
        refine W.eq (g2 := F0 m 60 ls [.int rv_12, .int rv_1]) rfl ?_
        refine lv_icmp_le (tgt := 87) hx hb dX10_wouldRather_60 (by decide) (fun c60_16 => ?_) (fun c60_16 => ?_)
        · skip
          refine lv_iconst (v := 0) hx hb dX10_wouldRather_87 (by decide) ?_
          exact hret _ _ _ _ _ _ ⟨0, k47_13, d45_14, d46_15, rfl, rfl, ⟨_, hq9_1, fun Λ h => zk_w2 (hq3_0 Λ h.1 (h.2.1 0 (by decide))) (zk_o1 (by omega) (by omega) (hq57_0 Λ h.1 (h.2.1 0 (by decide)))) c60_16⟩, (by first | exact Or.inl rfl | exact Or.inr rfl | assumption)⟩ (hw.sub [4, 0, 5, 6, 2, 7, 8, 1, 9, 10, 11, 12, 13, 14, 15, 16, 17, 18, 19, 20, 3] (by decide +kernel) rfl) rfl dX10_wouldRather_88
        · skip
          refine lv_iload_n hx hb dX10_wouldRather_63 rfl (lv_at hl 2 rfl) ?_
          refine lv_iload hx hb dX10_wouldRather_64 (lv_at hl 0 rfl) ?_
          refine lv_if_ge (tgt := 73) hx hb dX10_wouldRather_66 (by decide) (fun c66_17 => ?_) (fun c66_17 => ?_)
          · skip
            obtain ⟨vq18, hvq18, rfl⟩ := zz_okn hvz6 (Int32.not_lt.mpr c66_17)
            refine lv_aload_n hx hb dX10_wouldRather_73 rfl (lv_at hl 3 rfl) ?_
            refine lv_iload hx hb dX10_wouldRather_74 (lv_at hl 0 rfl) ?_
            refine lv_iload_n hx hb dX10_wouldRather_76 rfl (lv_at hl 5 rfl) ?_
            refine zz_callV (qb := 4) (As := [.int (nI vq18), .int (nI pa)]) (rest := [.int rv_1]) (wr := [((r 22), .inl (G.2 0, 2, .inl c22)), ((r 30), .inl (G.2 0, 2, .inl c30)), ((r 26), .inl (G.2 0, 2, .inl c26)), ((r 52), .inl (G.2 0, 6, .inl c52))]) S hw hl.1 lX10_348 (c_x_standsOf l G r j0 j2 j4 j10 j11 j12 j13 j14 j15 j16 j17 j19 j20 j34 j40 j44 k47_13 j50 j51 j56 j61 lv c24 c25 c28 c29 c32 c33 c35 c36 c37 c38 c39 c41 c42 d45_14 d46_15 c49 vq18 pa (by first | assumption | omega | exact Or.inr ⟨_, by omega, rfl⟩ | (unfold zz_sok; decide) | decide | exact (fun j hj => (hv7 j hj).1)) (by first | assumption | omega | exact Or.inr ⟨_, by omega, rfl⟩ | (unfold zz_sok; decide) | decide | exact (fun j hj => (hv7 j hj).1)) (by first | assumption | omega | exact Or.inr ⟨_, by omega, rfl⟩ | (unfold zz_sok; decide) | decide | exact (fun j hj => (hv7 j hj).1)) (by first | assumption | omega | exact Or.inr ⟨_, by omega, rfl⟩ | (unfold zz_sok; decide) | decide | exact (fun j hj => (hv7 j hj).1))) ⟨Nat.le_of_ble_eq_true rfl, Nat.le_of_ble_eq_true rfl⟩ ⟨Nat.le_of_ble_eq_true rfl, Nat.le_of_ble_eq_true rfl⟩ [4, 5, 6, 7, 8, 9, 10, 11, 12, 13, 14, 15, 16, 17, 18, 19, 20] [0, 1, 2, 3] (by decide +kernel) rfl rfl (by decide +kernel) (by decide +kernel) rfl rfl rfl rfl (Nat.le_of_ble_eq_true rfl) dX10_wouldRather_77 ?_
            clear hw
            intro rr u H locs hp hw
            refine hp.elim fun rv_19 zg0 => zg0.elim fun k47_20 zg1 => zg1.elim fun d45_21 zg2 => zg2.elim fun d46_22 zg3 => zg3.elim fun zee1 zg4 => zg4.elim fun zee2 hq77_0 => ?_
            clear hp zg0 zg1 zg2 zg3 zg4
            subst zee1
            subst zee2
            replace hw : zz_w G A s [((r 22), .inl (G.2 0, 2, .inl c22)), ((r 30), .inl (G.2 0, 2, .inl c30)), ((r 26), .inl (G.2 0, 2, .inl c26)), ((r 52), .inl (G.2 0, 6, .inl c52)), ((r 0), .inr (10, (zz_mo r [(0, j0), (2, j2), (4, j4), (10, j10), (11, j11), (12, j12), (13, j13), (14, j14), (15, j15), (16, j16), (17, j17), (18, (nI lv)), (19, j19), (20, j20), (34, j34), (40, j40), (44, j44), (47, k47_20), (50, j50), (51, j51), (56, j56), (61, j61)]))), ((r 24), .inl (G.2 0, 14, .inl c24)), ((r 25), .inl (G.2 0, 14, .inl c25)), ((r 28), .inl (G.2 0, 12, .inl c28)), ((r 29), .inl (G.2 0, 12, .inl c29)), ((r 32), .inl (G.2 0, 8, .inl c32)), ((r 33), .inl (G.2 0, 8, .inl c33)), ((r 35), .inl (G.2 2, 260, .inl c35)), ((r 36), .inl (G.2 0, 260, .inl c36)), ((r 37), .inl (G.2 0, 260, .inl c37)), ((r 38), .inl (G.2 0, 260, .inl c38)), ((r 39), .inl (G.2 0, 260, .inl c39)), ((r 41), .inl (G.2 0, 840, .inl c41)), ((r 42), .inl (G.2 0, 840, .inl c42)), ((r 45), .inl (G.2 0, 9, .inl d45_21)), ((r 46), .inl (G.2 0, 400, .inl d46_22)), ((r 49), .inl (G.2 0, 71, .inl c49))] H _ := hw
            refine W.eq (g2 := F0 m 80 ls [.int rv_19, .int rv_1]) rfl ?_
            refine lv_icmp_le (tgt := 87) hx hb dX10_wouldRather_80 (by decide) (fun c80_23 => ?_) (fun c80_23 => ?_)
            · skip
              refine lv_iconst (v := 0) hx hb dX10_wouldRather_87 (by decide) ?_
              exact hret _ _ _ _ _ _ ⟨0, k47_20, d45_21, d46_22, rfl, rfl, ⟨_, hq9_1, fun Λ h => zk_w3 (hq3_0 Λ h.1 (h.2.1 0 (by decide))) (zk_ox evz6 (zk_o1 (by omega) (by omega) (hq77_0 Λ h.1 (h.2.1 0 (by decide))))) c80_23⟩, (by first | exact Or.inl rfl | exact Or.inr rfl | assumption)⟩ (hw.sub [4, 0, 5, 6, 2, 7, 8, 1, 9, 10, 11, 12, 13, 14, 15, 16, 17, 18, 19, 20, 3] (by decide +kernel) rfl) rfl dX10_wouldRather_88
            · skip
              refine lv_iconst (v := 1) hx hb dX10_wouldRather_83 (by decide) ?_
              refine lv_goto (tgt := 88) hx hb dX10_wouldRather_84 (by decide) ?_
              exact hret _ _ _ _ _ _ ⟨1, k47_20, d45_21, d46_22, rfl, rfl, ⟨_, hq9_1, fun Λ h => zk_w4 (hq3_0 Λ h.1 (h.2.1 0 (by decide))) (zk_o1 (by omega) (by omega) (hq57_0 Λ h.1 (h.2.1 0 (by decide)))) (zk_ox evz6 (zk_o1 (by omega) (by omega) (hq77_0 Λ h.1 (h.2.1 0 (by decide))))) (fun z => absurd c27_8 (hq24_0.mpr z)) (by first | exact c40_9 | exact Int32.not_lt.mp c40_9) (by first | exact c60_16 | exact Int32.not_le.mp c60_16) (by first | exact c80_23 | exact Int32.not_le.mp c80_23)⟩, (by first | exact Or.inl rfl | exact Or.inr rfl | assumption)⟩ (hw.sub [4, 0, 5, 6, 2, 7, 8, 1, 9, 10, 11, 12, 13, 14, 15, 16, 17, 18, 19, 20, 3] (by decide +kernel) rfl) rfl dX10_wouldRather_88
          · skip
            refine lv_iconst (v := 0) hx hb dX10_wouldRather_69 (by decide) ?_
            refine W.eq (g2 := F0 m 70 ls [.int 0, .int rv_1]) rfl ?_
            refine lv_goto (tgt := 80) hx hb dX10_wouldRather_70 (by decide) ?_
            refine lv_icmp_le (tgt := 87) hx hb dX10_wouldRather_80 (by decide) (fun c80_24 => ?_) (fun c80_24 => ?_)
            · skip
              refine lv_iconst (v := 0) hx hb dX10_wouldRather_87 (by decide) ?_
              exact hret _ _ _ _ _ _ ⟨0, k47_13, d45_14, d46_15, rfl, rfl, ⟨_, hq9_1, fun Λ h => zk_w3 (hq3_0 Λ h.1 (h.2.1 0 (by decide))) (zk_ox evz6 (zk_o0 (Or.inl (zA_ok2 hvz6 (by decide) (by first | exact c66_17 | exact Int32.not_le.mpr c66_17))))) c80_24⟩, (by first | exact Or.inl rfl | exact Or.inr rfl | assumption)⟩ (hw.sub [4, 0, 5, 6, 2, 7, 8, 1, 9, 10, 11, 12, 13, 14, 15, 16, 17, 18, 19, 20, 3] (by decide +kernel) rfl) rfl dX10_wouldRather_88
            · skip
              refine lv_iconst (v := 1) hx hb dX10_wouldRather_83 (by decide) ?_
              refine lv_goto (tgt := 88) hx hb dX10_wouldRather_84 (by decide) ?_
              exact hret _ _ _ _ _ _ ⟨1, k47_13, d45_14, d46_15, rfl, rfl, ⟨_, hq9_1, fun Λ h => zk_w4 (hq3_0 Λ h.1 (h.2.1 0 (by decide))) (zk_o1 (by omega) (by omega) (hq57_0 Λ h.1 (h.2.1 0 (by decide)))) (zk_ox evz6 (zk_o0 (Or.inl (zA_ok2 hvz6 (by decide) (by first | exact c66_17 | exact Int32.not_le.mpr c66_17))))) (fun z => absurd c27_8 (hq24_0.mpr z)) (by first | exact c40_9 | exact Int32.not_lt.mp c40_9) (by first | exact c60_16 | exact Int32.not_le.mp c60_16) (by first | exact c80_24 | exact Int32.not_le.mp c80_24)⟩, (by first | exact Or.inl rfl | exact Or.inr rfl | assumption)⟩ (hw.sub [4, 0, 5, 6, 2, 7, 8, 1, 9, 10, 11, 12, 13, 14, 15, 16, 17, 18, 19, 20, 3] (by decide +kernel) rfl) rfl dX10_wouldRather_88
      · skip
        refine lv_iconst (v := 0) hx hb dX10_wouldRather_49 (by decide) ?_
        refine lv_goto (tgt := 60) hx hb dX10_wouldRather_50 (by decide) ?_
        refine lv_icmp_le (tgt := 87) hx hb dX10_wouldRather_60 (by decide) (fun c60_25 => ?_) (fun c60_25 => ?_)
        · skip
          refine lv_iconst (v := 0) hx hb dX10_wouldRather_87 (by decide) ?_
          exact hret _ _ _ _ _ _ ⟨0, k47_2, d45_3, d46_4, rfl, rfl, ⟨_, hq9_1, fun Λ h => zk_w2 (hq3_0 Λ h.1 (h.2.1 0 (by decide))) (zk_o0 (Or.inr (zA_ok2 hq9_0 (by decide) (by first | exact c46_10 | exact Int32.not_le.mpr c46_10)))) c60_25⟩, (by first | exact Or.inl rfl | exact Or.inr rfl | assumption)⟩ (hw.sub [19, 0, 2, 3, 17, 4, 5, 1, 6, 7, 8, 9, 10, 11, 12, 13, 14, 15, 16, 20, 18] (by decide +kernel) rfl) rfl dX10_wouldRather_88
        · skip
          refine lv_iload_n hx hb dX10_wouldRather_63 rfl (lv_at hl 2 rfl) ?_
          refine lv_iload hx hb dX10_wouldRather_64 (lv_at hl 0 rfl) ?_
          refine lv_if_ge (tgt := 73) hx hb dX10_wouldRather_66 (by decide) (fun c66_26 => ?_) (fun c66_26 => ?_)
          · skip
            obtain ⟨vq27, hvq27, rfl⟩ := zz_okn hvz6 (Int32.not_lt.mpr c66_26)
            refine lv_aload_n hx hb dX10_wouldRather_73 rfl (lv_at hl 3 rfl) ?_
            refine lv_iload hx hb dX10_wouldRather_74 (lv_at hl 0 rfl) ?_
            refine lv_iload_n hx hb dX10_wouldRather_76 rfl (lv_at hl 5 rfl) ?_
            refine zz_callV (qb := 19) (As := [.int (nI vq27), .int (nI pa)]) (rest := [.int rv_1]) (wr := [((r 22), .inl (G.2 0, 2, .inl c22)), ((r 30), .inl (G.2 0, 2, .inl c30)), ((r 26), .inl (G.2 0, 2, .inl c26)), ((r 52), .inl (G.2 0, 6, .inl c52))]) S hw hl.1 lX10_348 (c_x_standsOf l G r j0 j2 j4 j10 j11 j12 j13 j14 j15 j16 j17 j19 j20 j34 j40 j44 k47_2 j50 j51 j56 j61 lv c24 c25 c28 c29 c32 c33 c35 c36 c37 c38 c39 c41 c42 d45_3 d46_4 c49 vq27 pa (by first | assumption | omega | exact Or.inr ⟨_, by omega, rfl⟩ | (unfold zz_sok; decide) | decide | exact (fun j hj => (hv7 j hj).1)) (by first | assumption | omega | exact Or.inr ⟨_, by omega, rfl⟩ | (unfold zz_sok; decide) | decide | exact (fun j hj => (hv7 j hj).1)) (by first | assumption | omega | exact Or.inr ⟨_, by omega, rfl⟩ | (unfold zz_sok; decide) | decide | exact (fun j hj => (hv7 j hj).1)) (by first | assumption | omega | exact Or.inr ⟨_, by omega, rfl⟩ | (unfold zz_sok; decide) | decide | exact (fun j hj => (hv7 j hj).1))) ⟨Nat.le_of_ble_eq_true rfl, Nat.le_of_ble_eq_true rfl⟩ ⟨Nat.le_of_ble_eq_true rfl, Nat.le_of_ble_eq_true rfl⟩ [19, 2, 3, 4, 5, 6, 7, 8, 9, 10, 11, 12, 13, 14, 15, 16, 20] [0, 1, 17, 18] (by decide +kernel) rfl rfl (by decide +kernel) (by decide +kernel) rfl rfl rfl rfl (Nat.le_of_ble_eq_true rfl) dX10_wouldRather_77 ?_
            clear hw
            intro rr u H locs hp hw
            refine hp.elim fun rv_28 zg0 => zg0.elim fun k47_29 zg1 => zg1.elim fun d45_30 zg2 => zg2.elim fun d46_31 zg3 => zg3.elim fun zee1 zg4 => zg4.elim fun zee2 hq77_0 => ?_
            clear hp zg0 zg1 zg2 zg3 zg4
            subst zee1
            subst zee2
            replace hw : zz_w G A s [((r 22), .inl (G.2 0, 2, .inl c22)), ((r 30), .inl (G.2 0, 2, .inl c30)), ((r 26), .inl (G.2 0, 2, .inl c26)), ((r 52), .inl (G.2 0, 6, .inl c52)), ((r 0), .inr (10, (zz_mo r [(0, j0), (2, j2), (4, j4), (10, j10), (11, j11), (12, j12), (13, j13), (14, j14), (15, j15), (16, j16), (17, j17), (18, (nI lv)), (19, j19), (20, j20), (34, j34), (40, j40), (44, j44), (47, k47_29), (50, j50), (51, j51), (56, j56), (61, j61)]))), ((r 24), .inl (G.2 0, 14, .inl c24)), ((r 25), .inl (G.2 0, 14, .inl c25)), ((r 28), .inl (G.2 0, 12, .inl c28)), ((r 29), .inl (G.2 0, 12, .inl c29)), ((r 32), .inl (G.2 0, 8, .inl c32)), ((r 33), .inl (G.2 0, 8, .inl c33)), ((r 35), .inl (G.2 2, 260, .inl c35)), ((r 36), .inl (G.2 0, 260, .inl c36)), ((r 37), .inl (G.2 0, 260, .inl c37)), ((r 38), .inl (G.2 0, 260, .inl c38)), ((r 39), .inl (G.2 0, 260, .inl c39)), ((r 41), .inl (G.2 0, 840, .inl c41)), ((r 42), .inl (G.2 0, 840, .inl c42)), ((r 45), .inl (G.2 0, 9, .inl d45_30)), ((r 46), .inl (G.2 0, 400, .inl d46_31)), ((r 49), .inl (G.2 0, 71, .inl c49))] H _ := hw
            refine W.eq (g2 := F0 m 80 ls [.int rv_28, .int rv_1]) rfl ?_
            refine lv_icmp_le (tgt := 87) hx hb dX10_wouldRather_80 (by decide) (fun c80_32 => ?_) (fun c80_32 => ?_)
            · skip
              refine lv_iconst (v := 0) hx hb dX10_wouldRather_87 (by decide) ?_
              refine W.eq (g2 := F0 m 88 ls [.int 0]) rfl ?_
              exact hret _ _ _ _ _ _ ⟨0, k47_29, d45_30, d46_31, rfl, rfl, ⟨_, hq9_1, fun Λ h => zk_w3 (hq3_0 Λ h.1 (h.2.1 0 (by decide))) (zk_ox evz6 (zk_o1 (by omega) (by omega) (hq77_0 Λ h.1 (h.2.1 0 (by decide))))) c80_32⟩, (by first | exact Or.inl rfl | exact Or.inr rfl | assumption)⟩ (hw.sub [4, 0, 5, 6, 2, 7, 8, 1, 9, 10, 11, 12, 13, 14, 15, 16, 17, 18, 19, 20, 3] (by decide +kernel) rfl) rfl dX10_wouldRather_88
            · skip
              refine lv_iconst (v := 1) hx hb dX10_wouldRather_83 (by decide) ?_
              refine lv_goto (tgt := 88) hx hb dX10_wouldRather_84 (by decide) ?_
              exact hret _ _ _ _ _ _ ⟨1, k47_29, d45_30, d46_31, rfl, rfl, ⟨_, hq9_1, fun Λ h => zk_w4 (hq3_0 Λ h.1 (h.2.1 0 (by decide))) (zk_o0 (Or.inr (zA_ok2 hq9_0 (by decide) (by first | exact c46_10 | exact Int32.not_le.mpr c46_10)))) (zk_ox evz6 (zk_o1 (by omega) (by omega) (hq77_0 Λ h.1 (h.2.1 0 (by decide))))) (fun z => absurd c27_8 (hq24_0.mpr z)) (by first | exact c40_9 | exact Int32.not_lt.mp c40_9) (by first | exact c60_25 | exact Int32.not_le.mp c60_25) (by first | exact c80_32 | exact Int32.not_le.mp c80_32)⟩, (by first | exact Or.inl rfl | exact Or.inr rfl | assumption)⟩ (hw.sub [4, 0, 5, 6, 2, 7, 8, 1, 9, 10, 11, 12, 13, 14, 15, 16, 17, 18, 19, 20, 3] (by decide +kernel) rfl) rfl dX10_wouldRather_88
          · skip
            refine lv_iconst (v := 0) hx hb dX10_wouldRather_69 (by decide) ?_
            refine lv_goto (tgt := 80) hx hb dX10_wouldRather_70 (by decide) ?_
            refine lv_icmp_le (tgt := 87) hx hb dX10_wouldRather_80 (by decide) (fun c80_33 => ?_) (fun c80_33 => ?_)
            · skip
              refine lv_iconst (v := 0) hx hb dX10_wouldRather_87 (by decide) ?_
              exact hret _ _ _ _ _ _ ⟨0, k47_2, d45_3, d46_4, rfl, rfl, ⟨_, hq9_1, fun Λ h => zk_w3 (hq3_0 Λ h.1 (h.2.1 0 (by decide))) (zk_ox evz6 (zk_o0 (Or.inl (zA_ok2 hvz6 (by decide) (by first | exact c66_26 | exact Int32.not_le.mpr c66_26))))) c80_33⟩, (by first | exact Or.inl rfl | exact Or.inr rfl | assumption)⟩ (hw.sub [19, 0, 2, 3, 17, 4, 5, 1, 6, 7, 8, 9, 10, 11, 12, 13, 14, 15, 16, 20, 18] (by decide +kernel) rfl) rfl dX10_wouldRather_88
            · skip
              refine lv_iconst (v := 1) hx hb dX10_wouldRather_83 (by decide) ?_
              refine lv_goto (tgt := 88) hx hb dX10_wouldRather_84 (by decide) ?_
              exact hret _ _ _ _ _ _ ⟨1, k47_2, d45_3, d46_4, rfl, rfl, ⟨_, hq9_1, fun Λ h => zk_w4 (hq3_0 Λ h.1 (h.2.1 0 (by decide))) (zk_o0 (Or.inr (zA_ok2 hq9_0 (by decide) (by first | exact c46_10 | exact Int32.not_le.mpr c46_10)))) (zk_ox evz6 (zk_o0 (Or.inl (zA_ok2 hvz6 (by decide) (by first | exact c66_26 | exact Int32.not_le.mpr c66_26))))) (fun z => absurd c27_8 (hq24_0.mpr z)) (by first | exact c40_9 | exact Int32.not_lt.mp c40_9) (by first | exact c60_25 | exact Int32.not_le.mp c60_25) (by first | exact c80_33 | exact Int32.not_le.mp c80_33)⟩, (by first | exact Or.inl rfl | exact Or.inr rfl | assumption)⟩ (hw.sub [19, 0, 2, 3, 17, 4, 5, 1, 6, 7, 8, 9, 10, 11, 12, 13, 14, 15, 16, 20, 18] (by decide +kernel) rfl) rfl dX10_wouldRather_88
theorem kd_ncX10_rather : kd_ck 5419643967466585752701637834243983844580488092108084299294162881319229533004387435027994921274661720305828775147333992938609927061774919443421217716235444375131574617647065812831645182607087162201676592364594795011820287963292900118358838951631555584107014110053147 110 cX10_rather.data.toList 0 = true := by decide +kernel
theorem dX10_rather_0 : decode cX10_rather 0 = .ok (.iload_n 1, 1) := kd_dk0 kd_o27 kd_ncX10_rather rfl
theorem dX10_rather_1 : decode cX10_rather 1 = .ok (.iconst 0, 1) := kd_dk0 kd_o3 kd_ncX10_rather rfl
theorem dX10_rather_2 : decode cX10_rather 2 = .ok (.iconst 1, 1) := kd_dk0 kd_o4 kd_ncX10_rather rfl
theorem dX10_rather_3 : decode cX10_rather 3 = .ok (.invokestatic 313, 3) := kd_dk2 kd_o184 kd_ncX10_rather rfl
theorem dX10_rather_6 : decode cX10_rather 6 = .ok (.ifCond .ne 5, 3) := kd_dj2 kd_o154 (w := 5) kd_ncX10_rather rfl rfl
theorem dX10_rather_9 : decode cX10_rather 9 = .ok (.iconst (-1), 1) := kd_dk0 kd_o2 kd_ncX10_rather rfl
theorem dX10_rather_10 : decode cX10_rather 10 = .ok (.ireturn, 1) := kd_dk0 kd_o172 kd_ncX10_rather rfl
theorem dX10_rather_11 : decode cX10_rather 11 = .ok (.aload_n 0, 1) := kd_dk0 kd_o42 kd_ncX10_rather rfl
theorem dX10_rather_12 : decode cX10_rather 12 = .ok (.invokevirtual 323, 3) := kd_dk2 kd_o182 kd_ncX10_rather rfl
theorem dX10_rather_15 : decode cX10_rather 15 = .ok (.aload_n 0, 1) := kd_dk0 kd_o42 kd_ncX10_rather rfl
theorem dX10_rather_16 : decode cX10_rather 16 = .ok (.invokevirtual 351, 3) := kd_dk2 kd_o182 kd_ncX10_rather rfl
theorem dX10_rather_19 : decode cX10_rather 19 = .ok (.iconst 0, 1) := kd_dk0 kd_o3 kd_ncX10_rather rfl
theorem dX10_rather_20 : decode cX10_rather 20 = .ok (.istore_n 2, 1) := kd_dk0 kd_o61 kd_ncX10_rather rfl
theorem dX10_rather_21 : decode cX10_rather 21 = .ok (.bipush (-2), 2) := kd_dj1 kd_o16 (w := 254) kd_ncX10_rather rfl rfl
theorem dX10_rather_23 : decode cX10_rather 23 = .ok (.istore_n 3, 1) := kd_dk0 kd_o62 kd_ncX10_rather rfl
theorem dX10_rather_24 : decode cX10_rather 24 = .ok (.iconst 0, 1) := kd_dk0 kd_o3 kd_ncX10_rather rfl
theorem dX10_rather_25 : decode cX10_rather 25 = .ok (.istore 4, 2) := kd_dk1 kd_o54 kd_ncX10_rather rfl
theorem dX10_rather_27 : decode cX10_rather 27 = .ok (.iload 4, 2) := kd_dk1 kd_o21 kd_ncX10_rather rfl
theorem dX10_rather_29 : decode cX10_rather 29 = .ok (.aload_n 0, 1) := kd_dk0 kd_o42 kd_ncX10_rather rfl
theorem dX10_rather_30 : decode cX10_rather 30 = .ok (.getfield 43, 3) := kd_dk2 kd_o180 kd_ncX10_rather rfl
theorem dX10_rather_33 : decode cX10_rather 33 = .ok (.aload_n 0, 1) := kd_dk0 kd_o42 kd_ncX10_rather rfl
theorem dX10_rather_34 : decode cX10_rather 34 = .ok (.getfield 236, 3) := kd_dk2 kd_o180 kd_ncX10_rather rfl
theorem dX10_rather_37 : decode cX10_rather 37 = .ok (.iaload, 1) := kd_dk0 kd_o46 kd_ncX10_rather rfl
theorem dX10_rather_38 : decode cX10_rather 38 = .ok (.if_icmp .ge 62, 3) := kd_dj2 kd_o162 (w := 62) kd_ncX10_rather rfl rfl
theorem dX10_rather_41 : decode cX10_rather 41 = .ok (.iconst 0, 1) := kd_dk0 kd_o3 kd_ncX10_rather rfl
theorem dX10_rather_42 : decode cX10_rather 42 = .ok (.istore 5, 2) := kd_dk1 kd_o54 kd_ncX10_rather rfl
theorem dX10_rather_44 : decode cX10_rather 44 = .ok (.iload 5, 2) := kd_dk1 kd_o21 kd_ncX10_rather rfl
theorem dX10_rather_46 : decode cX10_rather 46 = .ok (.aload_n 0, 1) := kd_dk0 kd_o42 kd_ncX10_rather rfl
theorem dX10_rather_47 : decode cX10_rather 47 = .ok (.getfield 55, 3) := kd_dk2 kd_o180 kd_ncX10_rather rfl
theorem dX10_rather_50 : decode cX10_rather 50 = .ok (.aload_n 0, 1) := kd_dk0 kd_o42 kd_ncX10_rather rfl
theorem dX10_rather_51 : decode cX10_rather 51 = .ok (.getfield 236, 3) := kd_dk2 kd_o180 kd_ncX10_rather rfl
theorem dX10_rather_54 : decode cX10_rather 54 = .ok (.iaload, 1) := kd_dk0 kd_o46 kd_ncX10_rather rfl
theorem dX10_rather_55 : decode cX10_rather 55 = .ok (.if_icmp .ge 39, 3) := kd_dj2 kd_o162 (w := 39) kd_ncX10_rather rfl rfl
theorem dX10_rather_58 : decode cX10_rather 58 = .ok (.aload_n 0, 1) := kd_dk0 kd_o42 kd_ncX10_rather rfl
theorem dX10_rather_59 : decode cX10_rather 59 = .ok (.iload 4, 2) := kd_dk1 kd_o21 kd_ncX10_rather rfl
theorem dX10_rather_61 : decode cX10_rather 61 = .ok (.iload 5, 2) := kd_dk1 kd_o21 kd_ncX10_rather rfl
theorem dX10_rather_63 : decode cX10_rather 63 = .ok (.invokevirtual 425, 3) := kd_dk2 kd_o182 kd_ncX10_rather rfl
theorem dX10_rather_66 : decode cX10_rather 66 = .ok (.ifCond .ne 6, 3) := kd_dj2 kd_o154 (w := 6) kd_ncX10_rather rfl rfl
theorem dX10_rather_69 : decode cX10_rather 69 = .ok (.goto 19, 3) := kd_dj2 kd_o167 (w := 19) kd_ncX10_rather rfl rfl
theorem dX10_rather_72 : decode cX10_rather 72 = .ok (.iload_n 2, 1) := kd_dk0 kd_o28 kd_ncX10_rather rfl
theorem dX10_rather_73 : decode cX10_rather 73 = .ok (.ifCond .ne 12, 3) := kd_dj2 kd_o154 (w := 12) kd_ncX10_rather rfl rfl
theorem dX10_rather_76 : decode cX10_rather 76 = .ok (.bipush 10, 2) := kd_dj1 kd_o16 (w := 10) kd_ncX10_rather rfl rfl
theorem dX10_rather_78 : decode cX10_rather 78 = .ok (.iload 4, 2) := kd_dk1 kd_o21 kd_ncX10_rather rfl
theorem dX10_rather_80 : decode cX10_rather 80 = .ok (.imul, 1) := kd_dk0 kd_o104 kd_ncX10_rather rfl
theorem dX10_rather_81 : decode cX10_rather 81 = .ok (.iload 5, 2) := kd_dk1 kd_o21 kd_ncX10_rather rfl
theorem dX10_rather_83 : decode cX10_rather 83 = .ok (.iadd, 1) := kd_dk0 kd_o96 kd_ncX10_rather rfl
theorem dX10_rather_84 : decode cX10_rather 84 = .ok (.istore_n 3, 1) := kd_dk0 kd_o62 kd_ncX10_rather rfl
theorem dX10_rather_85 : decode cX10_rather 85 = .ok (.iinc 2 1, 3) := kd_dji kd_o132 (w := 1) kd_ncX10_rather rfl rfl
theorem dX10_rather_88 : decode cX10_rather 88 = .ok (.iinc 5 1, 3) := kd_dji kd_o132 (w := 1) kd_ncX10_rather rfl rfl
theorem dX10_rather_91 : decode cX10_rather 91 = .ok (.goto (-47), 3) := kd_dj2 kd_o167 (w := 65489) kd_ncX10_rather rfl rfl
theorem dX10_rather_94 : decode cX10_rather 94 = .ok (.iinc 4 1, 3) := kd_dji kd_o132 (w := 1) kd_ncX10_rather rfl rfl
theorem dX10_rather_97 : decode cX10_rather 97 = .ok (.goto (-70), 3) := kd_dj2 kd_o167 (w := 65466) kd_ncX10_rather rfl rfl
theorem dX10_rather_100 : decode cX10_rather 100 = .ok (.iload_n 1, 1) := kd_dk0 kd_o27 kd_ncX10_rather rfl
theorem dX10_rather_101 : decode cX10_rather 101 = .ok (.ifCond .ne 7, 3) := kd_dj2 kd_o154 (w := 7) kd_ncX10_rather rfl rfl
theorem dX10_rather_104 : decode cX10_rather 104 = .ok (.iload_n 2, 1) := kd_dk0 kd_o28 kd_ncX10_rather rfl
theorem dX10_rather_105 : decode cX10_rather 105 = .ok (.goto 4, 3) := kd_dj2 kd_o167 (w := 4) kd_ncX10_rather rfl rfl
theorem dX10_rather_108 : decode cX10_rather 108 = .ok (.iload_n 3, 1) := kd_dk0 kd_o29 kd_ncX10_rather rfl
theorem dX10_rather_109 : decode cX10_rather 109 = .ok (.ireturn, 1) := kd_dk0 kd_o172 kd_ncX10_rather rfl
set_option maxHeartbeats 8000000 in
set_option maxRecDepth 100000 in
theorem c_x_rather (l : Launch) (G : zz_G) (r : Nat → Nat) (j0 : Int32) (j2 : Int32) (j4 : Int32) (j10 : Int32) (j11 : Int32) (j12 : Int32) (j13 : Int32) (j14 : Int32) (j15 : Int32) (j16 : Int32) (j17 : Int32) (j19 : Int32) (j20 : Int32) (j34 : Int32) (j40 : Int32) (j44 : Int32) (j47 : Int32) (j50 : Int32) (j51 : Int32) (j56 : Int32) (j61 : Int32) (lv : Nat) (pp : Nat) (pq : Nat) (c22 : Nat → Int32) (c24 : Nat → Int32) (c25 : Nat → Int32) (c26 : Nat → Int32) (c28 : Nat → Int32) (c29 : Nat → Int32) (c30 : Nat → Int32) (c31 : Nat → Int32) (c32 : Nat → Int32) (c33 : Nat → Int32) (c35 : Nat → Int32) (c36 : Nat → Int32) (c37 : Nat → Int32) (c38 : Nat → Int32) (c39 : Nat → Int32) (c41 : Nat → Int32) (c42 : Nat → Int32) (c45 : Nat → Int32) (c46 : Nat → Int32) (c48 : Nat → Int32) (c49 : Nat → Int32) (c52 : Nat → Int32) (ar1 : Int32) (hlv : lv ≤ 1) (hpe : c22 lv = nI pp) (hpp : pp ≤ 7) (hpa : c26 lv = nI pq) (hpq : pq ≤ 6) (hlw : zz_LW 2 0 0 c32 c33 c35 c36 c37 c38 c39 c41 c42) (hca : ∀ j, j < 6 → zz_ok 7 (c52 j)) : zz_M l G mX10_rather 5 0 0 [.ref (r 0), .int ar1] [((r 0), .inr (10, (zz_mo r [(0, j0), (2, j2), (4, j4), (10, j10), (11, j11), (12, j12), (13, j13), (14, j14), (15, j15), (16, j16), (17, j17), (18, (nI lv)), (19, j19), (20, j20), (34, j34), (40, j40), (44, j44), (47, j47), (50, j50), (51, j51), (56, j56), (61, j61)]))), ((r 22), .inl (G.2 0, 2, .inl c22)), ((r 24), .inl (G.2 0, 14, .inl c24)), ((r 25), .inl (G.2 0, 14, .inl c25)), ((r 26), .inl (G.2 0, 2, .inl c26)), ((r 28), .inl (G.2 0, 12, .inl c28)), ((r 29), .inl (G.2 0, 12, .inl c29)), ((r 30), .inl (G.2 0, 2, .inl c30)), ((r 31), .inl (G.2 0, 2, .inl c31)), ((r 32), .inl (G.2 0, 8, .inl c32)), ((r 33), .inl (G.2 0, 8, .inl c33)), ((r 35), .inl (G.2 2, 260, .inl c35)), ((r 36), .inl (G.2 0, 260, .inl c36)), ((r 37), .inl (G.2 0, 260, .inl c37)), ((r 38), .inl (G.2 0, 260, .inl c38)), ((r 39), .inl (G.2 0, 260, .inl c39)), ((r 41), .inl (G.2 0, 840, .inl c41)), ((r 42), .inl (G.2 0, 840, .inl c42)), ((r 45), .inl (G.2 0, 9, .inl c45)), ((r 46), .inl (G.2 0, 400, .inl c46)), ((r 48), .inl (G.2 0, 71, .inl c48)), ((r 49), .inl (G.2 0, 71, .inl c49)), ((r 52), .inl (G.2 0, 6, .inl c52))] (fun rr u => ∃ (rv : Int32), ∃ (k47 : Int32), ∃ (k50 : Int32), ∃ (k51 : Int32), ∃ (d45 : Nat → Int32), ∃ (d46 : Nat → Int32), ∃ (d49 : Nat → Int32), ∃ (d52 : Nat → Int32), rr = some (.int rv) ∧ u = [((r 0), .inr (10, (zz_mo r [(0, j0), (2, j2), (4, j4), (10, j10), (11, j11), (12, j12), (13, j13), (14, j14), (15, j15), (16, j16), (17, j17), (18, (nI lv)), (19, j19), (20, j20), (34, j34), (40, j40), (44, j44), (47, k47), (50, k50), (51, k51), (56, j56), (61, j61)]))), ((r 22), .inl (G.2 0, 2, .inl c22)), ((r 24), .inl (G.2 0, 14, .inl c24)), ((r 25), .inl (G.2 0, 14, .inl c25)), ((r 26), .inl (G.2 0, 2, .inl c26)), ((r 28), .inl (G.2 0, 12, .inl c28)), ((r 29), .inl (G.2 0, 12, .inl c29)), ((r 30), .inl (G.2 0, 2, .inl c30)), ((r 31), .inl (G.2 0, 2, .inl c31)), ((r 32), .inl (G.2 0, 8, .inl c32)), ((r 33), .inl (G.2 0, 8, .inl c33)), ((r 35), .inl (G.2 2, 260, .inl c35)), ((r 36), .inl (G.2 0, 260, .inl c36)), ((r 37), .inl (G.2 0, 260, .inl c37)), ((r 38), .inl (G.2 0, 260, .inl c38)), ((r 39), .inl (G.2 0, 260, .inl c39)), ((r 41), .inl (G.2 0, 840, .inl c41)), ((r 42), .inl (G.2 0, 840, .inl c42)), ((r 45), .inl (G.2 0, 9, .inl d45)), ((r 46), .inl (G.2 0, 400, .inl d46)), ((r 48), .inl (G.2 0, 71, .inl c48)), ((r 49), .inl (G.2 0, 71, .inl d49)), ((r 52), .inl (G.2 0, 6, .inl d52))] ∧ (zA (zz_In 2 ar1) (∃ τ C, zy_q 71 c48 τ ∧ zr_FX (zr_HD lv c32 c33 c35 c36 c37 c38 c39 c41 c42 (c30 lv)) (fun Λ => zr_Sx 99 lv τ c24 c28 c25 c29 (Λ 0)) (fun a => τ (14 + a) = 1) (c30 lv) pp pq C ∧ ∀ (Y : Nat → Int32) (Λ : Nat → List (List Int32)), (∀ a y, a < pp → zA_cf C pq (nI a) y → y = Y a) → (zr_HD lv c32 c33 c35 c36 c37 c38 c39 c41 c42 (c30 lv)) Λ → rv = zP ar1 (zRo (fun a p => zk_wr (zr_Sx 99 lv τ c24 c28 c25 c29 (Λ 0)) (τ (14 + a) = 1) (c30 lv) (C p) (Y a) a p) pq pp)) rv (-1)) ∧ (∀ j, j < 6 → zz_ok 7 (d52 j))) := by
  refine zz_enteri (by decide +kernel) (Nat.le_of_ble_eq_true rfl) ?_
  intro p e s m args below meth c A Q ls S hnm hret hw hl
  have hl : lv_has ls 6 [(0, .ref (r 0)), (1, .int ar1)] := hl
  have hx := S.1
  have hb := S.2.1
  refine lv_iload_n hx hb dX10_rather_0 rfl (lv_at hl 1 rfl) ?_
  refine lv_iconst (v := 0) hx hb dX10_rather_1 (by decide) ?_
  refine lv_iconst (v := 1) hx hb dX10_rather_2 (by decide) ?_
  refine zz_callS (As := [.int ar1, .int 0, .int 1]) (rest := []) (wr := [((r 0), .inr (10, (zz_mo r [(0, j0), (2, j2), (4, j4), (10, j10), (11, j11), (12, j12), (13, j13), (14, j14), (15, j15), (16, j16), (17, j17), (18, (nI lv)), (19, j19), (20, j20), (34, j34), (40, j40), (44, j44), (47, j47), (50, j50), (51, j51), (56, j56), (61, j61)]))), ((r 22), .inl (G.2 0, 2, .inl c22)), ((r 24), .inl (G.2 0, 14, .inl c24)), ((r 25), .inl (G.2 0, 14, .inl c25)), ((r 26), .inl (G.2 0, 2, .inl c26)), ((r 28), .inl (G.2 0, 12, .inl c28)), ((r 29), .inl (G.2 0, 12, .inl c29)), ((r 30), .inl (G.2 0, 2, .inl c30)), ((r 31), .inl (G.2 0, 2, .inl c31)), ((r 32), .inl (G.2 0, 8, .inl c32)), ((r 33), .inl (G.2 0, 8, .inl c33)), ((r 35), .inl (G.2 2, 260, .inl c35)), ((r 36), .inl (G.2 0, 260, .inl c36)), ((r 37), .inl (G.2 0, 260, .inl c37)), ((r 38), .inl (G.2 0, 260, .inl c38)), ((r 39), .inl (G.2 0, 260, .inl c39)), ((r 41), .inl (G.2 0, 840, .inl c41)), ((r 42), .inl (G.2 0, 840, .inl c42)), ((r 45), .inl (G.2 0, 9, .inl c45)), ((r 46), .inl (G.2 0, 400, .inl c46)), ((r 48), .inl (G.2 0, 71, .inl c48)), ((r 49), .inl (G.2 0, 71, .inl c49)), ((r 52), .inl (G.2 0, 6, .inl c52))]) S hw hl.1 lX10_313 (c_x_in l G ar1 0 1) ⟨Nat.le_of_ble_eq_true rfl, Nat.le_of_ble_eq_true rfl⟩ ⟨Nat.le_of_ble_eq_true rfl, Nat.le_of_ble_eq_true rfl⟩ [] [0, 1, 2, 3, 4, 5, 6, 7, 8, 9, 10, 11, 12, 13, 14, 15, 16, 17, 18, 19, 20, 21, 22] (by decide +kernel) rfl rfl (by decide +kernel) (by decide +kernel) rfl rfl (Nat.le_of_ble_eq_true rfl) dX10_rather_3 ?_
  clear hw
  intro rr u H locs hp hw
  refine hp.elim fun rv_1 zg0 => zg0.elim fun zee1 zg1 => zg1.elim fun zee2 zg2 => zg2.elim fun hq3_0 zg3 => zg3.elim fun hq3_1 hq3_2 => ?_
  clear hp zg0 zg1 zg2 zg3
  subst zee1
  subst zee2
  replace hw : zz_w G A s [((r 0), .inr (10, (zz_mo r [(0, j0), (2, j2), (4, j4), (10, j10), (11, j11), (12, j12), (13, j13), (14, j14), (15, j15), (16, j16), (17, j17), (18, (nI lv)), (19, j19), (20, j20), (34, j34), (40, j40), (44, j44), (47, j47), (50, j50), (51, j51), (56, j56), (61, j61)]))), ((r 22), .inl (G.2 0, 2, .inl c22)), ((r 24), .inl (G.2 0, 14, .inl c24)), ((r 25), .inl (G.2 0, 14, .inl c25)), ((r 26), .inl (G.2 0, 2, .inl c26)), ((r 28), .inl (G.2 0, 12, .inl c28)), ((r 29), .inl (G.2 0, 12, .inl c29)), ((r 30), .inl (G.2 0, 2, .inl c30)), ((r 31), .inl (G.2 0, 2, .inl c31)), ((r 32), .inl (G.2 0, 8, .inl c32)), ((r 33), .inl (G.2 0, 8, .inl c33)), ((r 35), .inl (G.2 2, 260, .inl c35)), ((r 36), .inl (G.2 0, 260, .inl c36)), ((r 37), .inl (G.2 0, 260, .inl c37)), ((r 38), .inl (G.2 0, 260, .inl c38)), ((r 39), .inl (G.2 0, 260, .inl c39)), ((r 41), .inl (G.2 0, 840, .inl c41)), ((r 42), .inl (G.2 0, 840, .inl c42)), ((r 45), .inl (G.2 0, 9, .inl c45)), ((r 46), .inl (G.2 0, 400, .inl c46)), ((r 48), .inl (G.2 0, 71, .inl c48)), ((r 49), .inl (G.2 0, 71, .inl c49)), ((r 52), .inl (G.2 0, 6, .inl c52))] H _ := hw
  refine W.eq (g2 := F0 m 6 ls [.int rv_1]) rfl ?_
  refine lv_if_ne (tgt := 11) hx hb dX10_rather_6 (by decide) (fun c6_2 => ?_) (fun c6_2 => ?_)
  · skip
    have hq3_0i := hq3_0.resolve_left c6_2
    obtain ⟨vq3, hvq3, rfl⟩ : ∃ k : Nat, k ≤ 1 ∧ ar1 = nI k := zz_rng (zz_lo0 hq3_0i.1) hq3_0i.2 (by omega)
    refine lv_aload_n hx hb dX10_rather_11 rfl (lv_at hl 0 rfl) ?_
    refine zz_callV (qb := 0) (As := []) (rest := []) (wr := [((r 22), .inl (G.2 0, 2, .inl c22)), ((r 24), .inl (G.2 0, 14, .inl c24)), ((r 25), .inl (G.2 0, 14, .inl c25)), ((r 26), .inl (G.2 0, 2, .inl c26)), ((r 28), .inl (G.2 0, 12, .inl c28)), ((r 29), .inl (G.2 0, 12, .inl c29)), ((r 30), .inl (G.2 0, 2, .inl c30)), ((r 32), .inl (G.2 0, 8, .inl c32)), ((r 33), .inl (G.2 0, 8, .inl c33)), ((r 35), .inl (G.2 2, 260, .inl c35)), ((r 36), .inl (G.2 0, 260, .inl c36)), ((r 37), .inl (G.2 0, 260, .inl c37)), ((r 38), .inl (G.2 0, 260, .inl c38)), ((r 39), .inl (G.2 0, 260, .inl c39)), ((r 41), .inl (G.2 0, 840, .inl c41)), ((r 42), .inl (G.2 0, 840, .inl c42)), ((r 45), .inl (G.2 0, 9, .inl c45)), ((r 46), .inl (G.2 0, 400, .inl c46)), ((r 52), .inl (G.2 0, 6, .inl c52))]) S hw hl.1 lX10_323 (c_x_copies l G r j0 j2 j4 j10 j11 j12 j13 j14 j15 j16 j17 j19 j20 j34 j40 j44 j47 j50 j51 j56 j61 lv c31 c48 c49 (by first | assumption | omega | exact Or.inr ⟨_, by omega, rfl⟩ | (unfold zz_sok; decide) | decide | exact (fun j hj => (hv7 j hj).1))) ⟨Nat.le_of_ble_eq_true rfl, Nat.le_of_ble_eq_true rfl⟩ ⟨Nat.le_of_ble_eq_true rfl, Nat.le_of_ble_eq_true rfl⟩ [0, 8, 20, 21] [1, 2, 3, 4, 5, 6, 7, 9, 10, 11, 12, 13, 14, 15, 16, 17, 18, 19, 22] (by decide +kernel) rfl rfl (by decide +kernel) (by decide +kernel) rfl rfl rfl rfl (Nat.le_of_ble_eq_true rfl) dX10_rather_12 ?_
    clear hw
    intro rr u H locs hp hw
    refine hp.elim fun k50_4 zg0 => zg0.elim fun k51_5 zg1 => zg1.elim fun d49_6 zg2 => zg2.elim fun zee1 zg3 => zg3.elim fun zee2 zg4 => zg4.elim fun hq12_0 zg5 => zg5.elim fun hq12_1 hq12_2 => ?_
    clear hp zg0 zg1 zg2 zg3 zg4 zg5
    subst zee1
    subst zee2
    replace hw : zz_w G A s [((r 22), .inl (G.2 0, 2, .inl c22)), ((r 24), .inl (G.2 0, 14, .inl c24)), ((r 25), .inl (G.2 0, 14, .inl c25)), ((r 26), .inl (G.2 0, 2, .inl c26)), ((r 28), .inl (G.2 0, 12, .inl c28)), ((r 29), .inl (G.2 0, 12, .inl c29)), ((r 30), .inl (G.2 0, 2, .inl c30)), ((r 32), .inl (G.2 0, 8, .inl c32)), ((r 33), .inl (G.2 0, 8, .inl c33)), ((r 35), .inl (G.2 2, 260, .inl c35)), ((r 36), .inl (G.2 0, 260, .inl c36)), ((r 37), .inl (G.2 0, 260, .inl c37)), ((r 38), .inl (G.2 0, 260, .inl c38)), ((r 39), .inl (G.2 0, 260, .inl c39)), ((r 41), .inl (G.2 0, 840, .inl c41)), ((r 42), .inl (G.2 0, 840, .inl c42)), ((r 45), .inl (G.2 0, 9, .inl c45)), ((r 46), .inl (G.2 0, 400, .inl c46)), ((r 52), .inl (G.2 0, 6, .inl c52)), ((r 0), .inr (10, (zz_mo r [(0, j0), (2, j2), (4, j4), (10, j10), (11, j11), (12, j12), (13, j13), (14, j14), (15, j15), (16, j16), (17, j17), (18, (nI lv)), (19, j19), (20, j20), (34, j34), (40, j40), (44, j44), (47, j47), (50, k50_4), (51, k51_5), (56, j56), (61, j61)]))), ((r 31), .inl (G.2 0, 2, .inl c31)), ((r 48), .inl (G.2 0, 71, .inl c48)), ((r 49), .inl (G.2 0, 71, .inl d49_6))] H _ := hw
    refine W.eq (g2 := F0 m 15 ls []) rfl ?_
    refine lv_aload_n hx hb dX10_rather_15 rfl (lv_at hl 0 rfl) ?_
    refine zz_callV (qb := 19) (As := []) (rest := []) (wr := [((r 31), .inl (G.2 0, 2, .inl c31)), ((r 48), .inl (G.2 0, 71, .inl c48))]) S hw hl.1 lX10_351 (c_x_casts l G r j0 j2 j4 j10 j11 j12 j13 j14 j15 j16 j17 j19 j20 j34 j40 j44 j47 k50_4 k51_5 j56 j61 lv pp pq c22 c24 c25 c26 c28 c29 c30 c32 c33 c35 c36 c37 c38 c39 c41 c42 c45 c46 d49_6 c52 (by first | assumption | omega | exact Or.inr ⟨_, by omega, rfl⟩ | (unfold zz_sok; decide) | decide | exact (fun j hj => (hv7 j hj).1)) (by first | assumption | omega | exact Or.inr ⟨_, by omega, rfl⟩ | (unfold zz_sok; decide) | decide | exact (fun j hj => (hv7 j hj).1)) (by first | assumption | omega | exact Or.inr ⟨_, by omega, rfl⟩ | (unfold zz_sok; decide) | decide | exact (fun j hj => (hv7 j hj).1)) (by first | assumption | omega | exact Or.inr ⟨_, by omega, rfl⟩ | (unfold zz_sok; decide) | decide | exact (fun j hj => (hv7 j hj).1)) (by first | assumption | omega | exact Or.inr ⟨_, by omega, rfl⟩ | (unfold zz_sok; decide) | decide | exact (fun j hj => (hv7 j hj).1)) (by first | assumption | omega | exact Or.inr ⟨_, by omega, rfl⟩ | (unfold zz_sok; decide) | decide | exact (fun j hj => (hv7 j hj).1)) (by first | assumption | omega | exact Or.inr ⟨_, by omega, rfl⟩ | (unfold zz_sok; decide) | decide | exact (fun j hj => (hv7 j hj).1))) ⟨Nat.le_of_ble_eq_true rfl, Nat.le_of_ble_eq_true rfl⟩ ⟨Nat.le_of_ble_eq_true rfl, Nat.le_of_ble_eq_true rfl⟩ [19, 0, 1, 2, 3, 4, 5, 6, 7, 8, 9, 10, 11, 12, 13, 14, 15, 16, 17, 22, 18] [20, 21] (by decide +kernel) rfl rfl (by decide +kernel) (by decide +kernel) rfl rfl rfl rfl (Nat.le_of_ble_eq_true rfl) dX10_rather_16 ?_
    clear hw
    intro rr u H locs hp hw
    refine hp.elim fun k47_7 zg0 => zg0.elim fun d45_8 zg1 => zg1.elim fun d46_9 zg2 => zg2.elim fun d52_10 zg3 => zg3.elim fun zee1 zg4 => zg4.elim fun zee2 zg5 => zg5.elim fun hq16_0 hq16_1 => ?_
    clear hp zg0 zg1 zg2 zg3 zg4 zg5
    subst zee1
    subst zee2
    replace hw : zz_w G A s [((r 31), .inl (G.2 0, 2, .inl c31)), ((r 48), .inl (G.2 0, 71, .inl c48)), ((r 0), .inr (10, (zz_mo r [(0, j0), (2, j2), (4, j4), (10, j10), (11, j11), (12, j12), (13, j13), (14, j14), (15, j15), (16, j16), (17, j17), (18, (nI lv)), (19, j19), (20, j20), (34, j34), (40, j40), (44, j44), (47, k47_7), (50, k50_4), (51, k51_5), (56, j56), (61, j61)]))), ((r 22), .inl (G.2 0, 2, .inl c22)), ((r 24), .inl (G.2 0, 14, .inl c24)), ((r 25), .inl (G.2 0, 14, .inl c25)), ((r 26), .inl (G.2 0, 2, .inl c26)), ((r 28), .inl (G.2 0, 12, .inl c28)), ((r 29), .inl (G.2 0, 12, .inl c29)), ((r 30), .inl (G.2 0, 2, .inl c30)), ((r 32), .inl (G.2 0, 8, .inl c32)), ((r 33), .inl (G.2 0, 8, .inl c33)), ((r 35), .inl (G.2 2, 260, .inl c35)), ((r 36), .inl (G.2 0, 260, .inl c36)), ((r 37), .inl (G.2 0, 260, .inl c37)), ((r 38), .inl (G.2 0, 260, .inl c38)), ((r 39), .inl (G.2 0, 260, .inl c39)), ((r 41), .inl (G.2 0, 840, .inl c41)), ((r 42), .inl (G.2 0, 840, .inl c42)), ((r 45), .inl (G.2 0, 9, .inl d45_8)), ((r 46), .inl (G.2 0, 400, .inl d46_9)), ((r 49), .inl (G.2 0, 71, .inl d49_6)), ((r 52), .inl (G.2 0, 6, .inl d52_10))] H _ := hw
    refine W.eq (g2 := F0 m 19 ls []) rfl ?_
    refine lv_iconst (v := 0) hx hb dX10_rather_19 (by decide) ?_
    refine lv_istore_n (lv' := [(2, .int 0), (0, .ref (r 0)), (1, .int (nI vq3))]) hx hb dX10_rather_20 rfl hl (by decide) rfl (fun ls hl => ?_)
    refine lv_bipush (v := (-2)) hx hb dX10_rather_21 (by decide) ?_
    refine lv_istore_n (lv' := [(3, .int (-2)), (2, .int 0), (0, .ref (r 0)), (1, .int (nI vq3))]) hx hb dX10_rather_23 rfl hl (by decide) rfl (fun ls hl => ?_)
    refine lv_iconst (v := 0) hx hb dX10_rather_24 (by decide) ?_
    refine lv_istore (lv' := [(4, .int 0), (3, .int (-2)), (2, .int 0), (0, .ref (r 0)), (1, .int (nI vq3))]) hx hb dX10_rather_25 hl (by decide) rfl (fun ls hl => ?_)
    refine W.eq (g2 := F0 m 27 ls []) rfl ?_
    have lp27_116 : ∀ (vn12 vi11 : Nat) (vy78 : Int32) (vy79 : Int32) (vy80 : Int32) (vF81 : Nat → Int32) (vF82 : Nat → Int32) (H : Heap) (locs : List Loc) (ls : Array Slot), vi11 ≤ pp → pp < vi11 + vn12 → (∀ (Y : Nat → Int32) (Λ : Nat → List (List Int32)), (∀ a y, a < pp → zA_cf d52_10 pq (nI a) y → y = Y a) → (zr_HD lv c32 c33 c35 c36 c37 c38 c39 c41 c42 (c30 lv)) Λ → (vy79, vy78) = zRo (fun a p => zk_wr (zr_Sx 99 lv d49_6 c24 c28 c25 c29 (Λ 0)) (d49_6 (14 + a) = 1) (c30 lv) (d52_10 p) (Y a) a p) pq vi11) → zz_w G A s [((r 31), .inl (G.2 0, 2, .inl c31)), ((r 48), .inl (G.2 0, 71, .inl c48)), ((r 0), .inr (10, (zz_mo r [(0, j0), (2, j2), (4, j4), (10, j10), (11, j11), (12, j12), (13, j13), (14, j14), (15, j15), (16, j16), (17, j17), (18, (nI lv)), (19, j19), (20, j20), (34, j34), (40, j40), (44, j44), (47, vy80), (50, k50_4), (51, k51_5), (56, j56), (61, j61)]))), ((r 22), .inl (G.2 0, 2, .inl c22)), ((r 24), .inl (G.2 0, 14, .inl c24)), ((r 25), .inl (G.2 0, 14, .inl c25)), ((r 26), .inl (G.2 0, 2, .inl c26)), ((r 28), .inl (G.2 0, 12, .inl c28)), ((r 29), .inl (G.2 0, 12, .inl c29)), ((r 30), .inl (G.2 0, 2, .inl c30)), ((r 32), .inl (G.2 0, 8, .inl c32)), ((r 33), .inl (G.2 0, 8, .inl c33)), ((r 35), .inl (G.2 2, 260, .inl c35)), ((r 36), .inl (G.2 0, 260, .inl c36)), ((r 37), .inl (G.2 0, 260, .inl c37)), ((r 38), .inl (G.2 0, 260, .inl c38)), ((r 39), .inl (G.2 0, 260, .inl c39)), ((r 41), .inl (G.2 0, 840, .inl c41)), ((r 42), .inl (G.2 0, 840, .inl c42)), ((r 45), .inl (G.2 0, 9, .inl vF81)), ((r 46), .inl (G.2 0, 400, .inl vF82)), ((r 49), .inl (G.2 0, 71, .inl d49_6)), ((r 52), .inl (G.2 0, 6, .inl d52_10))] H locs → lv_has ls 6 [(4, .int (nI vi11)), (3, .int vy78), (2, .int vy79), (0, .ref (r 0)), (1, .int (nI vq3))] → W p l e (zz_rm 5 0 0) s m args below meth c H locs (0) (0) Q (F0 m 27 ls []) := by
      intro vn12
      induction vn12 with
      | zero => intro vi11 vy78 vy79 vy80 vF81 vF82 H locs ls hi1 hi2; exact absurd hi2 (by omega)
      | succ vn12 ih27 =>
        intro vi11 vy78 vy79 vy80 vF81 vF82 H locs ls hi27a hi27b hv27_115 hw hl
        refine lv_iload hx hb dX10_rather_27 (lv_at hl 0 rfl) ?_
        refine lv_aload_n hx hb dX10_rather_29 rfl (lv_at hl 3 rfl) ?_
        refine zz_get (v := .ref (r 22)) S hw fgX10_43 2 rfl rfl dX10_rather_30 ?_
        refine lv_aload_n hx hb dX10_rather_33 rfl (lv_at hl 3 rfl) ?_
        refine zz_get (v := .int (nI lv)) S hw fgX10_236 2 rfl rfl dX10_rather_34 ?_
        refine zz_iald (v := (nI pp)) S hw 3 rfl (vp_in_nI (n := lv) (by omega) (by decide)) (by rw [show ((nI lv) : Int32).toNatClampNeg = lv from nI_clamp (n := lv) (by omega)]; exact hpe) dX10_rather_37 ?_
        refine lv_icmp_ge (tgt := 100) hx hb dX10_rather_38 (by decide) (fun c38_117 => ?_) (fun c38_117 => ?_)
        · skip
          have c38_117n : pp ≤ vi11 := (zz_le (a := pp) (b := vi11) rfl rfl (by omega) (by omega)).mp c38_117
          refine lv_iload_n hx hb dX10_rather_100 rfl (lv_at hl 4 rfl) ?_
          refine lv_if_ne (tgt := 108) hx hb dX10_rather_101 (by decide) (fun c101_118 => ?_) (fun c101_118 => ?_)
          · skip
            have c101_118n : ¬ (vq3 = 0) := fun z => c101_118 ((zz_eq (a := vq3) (b := 0) rfl rfl (by omega) (by omega)).mpr z)
            refine lv_iload_n hx hb dX10_rather_108 rfl (lv_at hl 1 rfl) ?_
            exact hret _ _ _ _ _ _ ⟨vy78, vy80, k50_4, k51_5, vF81, vF82, d49_6, d52_10, rfl, rfl, (by first | exact zA0 (zz_innI (n := 1) (by omega) hq3_1 (by assumption)) | exact zA1 ⟨_, by omega, rfl⟩ ⟨_, _, hq12_0, hq16_0, fun Y Λ k h => zP_0 (zRo_e (m := pp) (hv27_115 Y Λ k h) (by omega)) (by assumption)⟩ | exact zA1 ⟨_, by omega, rfl⟩ ⟨_, _, hq12_0, hq16_0, fun Y Λ k h => zP_1 (zRo_e (m := pp) (hv27_115 Y Λ k h) (by omega)) (by assumption)⟩), (by first | assumption | exact Or.inl rfl | exact Or.inr rfl | omega | exact Or.inr (by assumption) | exact zz_oku (by assumption) (by first | exact Or.inl rfl | exact Or.inr ⟨_, by omega, rfl⟩))⟩ (hw.sub [2, 3, 4, 5, 6, 7, 8, 9, 0, 10, 11, 12, 13, 14, 15, 16, 17, 18, 19, 20, 1, 21, 22] (by decide +kernel) rfl) rfl dX10_rather_109
          · skip
            have c101_118n : vq3 = 0 := (zz_eq (a := vq3) (b := 0) rfl rfl (by omega) (by omega)).mp c101_118
            refine lv_iload_n hx hb dX10_rather_104 rfl (lv_at hl 2 rfl) ?_
            refine lv_goto (tgt := 109) hx hb dX10_rather_105 (by decide) ?_
            exact hret _ _ _ _ _ _ ⟨vy79, vy80, k50_4, k51_5, vF81, vF82, d49_6, d52_10, rfl, rfl, (by first | exact zA0 (zz_innI (n := 1) (by omega) hq3_1 (by assumption)) | exact zA1 ⟨_, by omega, rfl⟩ ⟨_, _, hq12_0, hq16_0, fun Y Λ k h => zP_0 (zRo_e (m := pp) (hv27_115 Y Λ k h) (by omega)) (by assumption)⟩ | exact zA1 ⟨_, by omega, rfl⟩ ⟨_, _, hq12_0, hq16_0, fun Y Λ k h => zP_1 (zRo_e (m := pp) (hv27_115 Y Λ k h) (by omega)) (by assumption)⟩), (by first | assumption | exact Or.inl rfl | exact Or.inr rfl | omega | exact Or.inr (by assumption) | exact zz_oku (by assumption) (by first | exact Or.inl rfl | exact Or.inr ⟨_, by omega, rfl⟩))⟩ (hw.sub [2, 3, 4, 5, 6, 7, 8, 9, 0, 10, 11, 12, 13, 14, 15, 16, 17, 18, 19, 20, 1, 21, 22] (by decide +kernel) rfl) rfl dX10_rather_109
        · skip
          have c38_117n : ¬ (pp ≤ vi11) := fun z => c38_117 ((zz_le (a := pp) (b := vi11) rfl rfl (by omega) (by omega)).mpr z)
          refine lv_iconst (v := 0) hx hb dX10_rather_41 (by decide) ?_
          refine lv_istore (lv' := [(5, .int 0), (4, .int (nI vi11)), (3, .int vy78), (2, .int vy79), (0, .ref (r 0)), (1, .int (nI vq3))]) hx hb dX10_rather_42 hl (by decide) rfl (fun ls hl => ?_)
          have lp44_141 : ∀ (vn120 vi119 : Nat) (vy128 : Int32) (vy129 : Int32) (vy130 : Int32) (vF131 : Nat → Int32) (vF132 : Nat → Int32) (H : Heap) (locs : List Loc) (ls : Array Slot), vi119 ≤ pq → pq < vi119 + vn120 → (∀ (Y : Nat → Int32) (Λ : Nat → List (List Int32)), (∀ a y, a < pp → zA_cf d52_10 pq (nI a) y → y = Y a) → (zr_HD lv c32 c33 c35 c36 c37 c38 c39 c41 c42 (c30 lv)) Λ → (vy129, vy128) = zRi (fun a p => zk_wr (zr_Sx 99 lv d49_6 c24 c28 c25 c29 (Λ 0)) (d49_6 (14 + a) = 1) (c30 lv) (d52_10 p) (Y a) a p) vi11 (zRo (fun a p => zk_wr (zr_Sx 99 lv d49_6 c24 c28 c25 c29 (Λ 0)) (d49_6 (14 + a) = 1) (c30 lv) (d52_10 p) (Y a) a p) pq vi11) vi119) → zz_w G A s [((r 31), .inl (G.2 0, 2, .inl c31)), ((r 48), .inl (G.2 0, 71, .inl c48)), ((r 0), .inr (10, (zz_mo r [(0, j0), (2, j2), (4, j4), (10, j10), (11, j11), (12, j12), (13, j13), (14, j14), (15, j15), (16, j16), (17, j17), (18, (nI lv)), (19, j19), (20, j20), (34, j34), (40, j40), (44, j44), (47, vy130), (50, k50_4), (51, k51_5), (56, j56), (61, j61)]))), ((r 22), .inl (G.2 0, 2, .inl c22)), ((r 24), .inl (G.2 0, 14, .inl c24)), ((r 25), .inl (G.2 0, 14, .inl c25)), ((r 26), .inl (G.2 0, 2, .inl c26)), ((r 28), .inl (G.2 0, 12, .inl c28)), ((r 29), .inl (G.2 0, 12, .inl c29)), ((r 30), .inl (G.2 0, 2, .inl c30)), ((r 32), .inl (G.2 0, 8, .inl c32)), ((r 33), .inl (G.2 0, 8, .inl c33)), ((r 35), .inl (G.2 2, 260, .inl c35)), ((r 36), .inl (G.2 0, 260, .inl c36)), ((r 37), .inl (G.2 0, 260, .inl c37)), ((r 38), .inl (G.2 0, 260, .inl c38)), ((r 39), .inl (G.2 0, 260, .inl c39)), ((r 41), .inl (G.2 0, 840, .inl c41)), ((r 42), .inl (G.2 0, 840, .inl c42)), ((r 45), .inl (G.2 0, 9, .inl vF131)), ((r 46), .inl (G.2 0, 400, .inl vF132)), ((r 49), .inl (G.2 0, 71, .inl d49_6)), ((r 52), .inl (G.2 0, 6, .inl d52_10))] H locs → lv_has ls 6 [(5, .int (nI vi119)), (4, .int (nI vi11)), (3, .int vy128), (2, .int vy129), (0, .ref (r 0)), (1, .int (nI vq3))] → W p l e (zz_rm 5 0 0) s m args below meth c H locs (0) (0) Q (F0 m 44 ls []) := by
            intro vn120
            induction vn120 with
            | zero => intro vi119 vy128 vy129 vy130 vF131 vF132 H locs ls hi1 hi2; exact absurd hi2 (by omega)
            | succ vn120 ih44 =>
              intro vi119 vy128 vy129 vy130 vF131 vF132 H locs ls hi44a hi44b hv44_140 hw hl
              refine lv_iload hx hb dX10_rather_44 (lv_at hl 0 rfl) ?_
              refine lv_aload_n hx hb dX10_rather_46 rfl (lv_at hl 4 rfl) ?_
              refine W.eq (g2 := F0 m 47 ls [.ref (r 0), .int (nI vi119)]) rfl ?_
              refine zz_get (v := .ref (r 26)) S hw fgX10_55 2 rfl rfl dX10_rather_47 ?_
              refine lv_aload_n hx hb dX10_rather_50 rfl (lv_at hl 4 rfl) ?_
              refine zz_get (v := .int (nI lv)) S hw fgX10_236 2 rfl rfl dX10_rather_51 ?_
              refine zz_iald (v := (nI pq)) S hw 6 rfl (vp_in_nI (n := lv) (by omega) (by decide)) (by rw [show ((nI lv) : Int32).toNatClampNeg = lv from nI_clamp (n := lv) (by omega)]; exact hpa) dX10_rather_54 ?_
              refine lv_icmp_ge (tgt := 94) hx hb dX10_rather_55 (by decide) (fun c55_142 => ?_) (fun c55_142 => ?_)
              · skip
                have c55_142n : pq ≤ vi119 := (zz_le (a := pq) (b := vi119) rfl rfl (by omega) (by omega)).mp c55_142
                refine lv_iinc (v := (nI (vi11 + 1))) (lv' := [(4, .int (nI (vi11 + 1))), (5, .int (nI vi119)), (3, .int vy128), (2, .int vy129), (0, .ref (r 0)), (1, .int (nI vq3))]) hx hb dX10_rather_94 hl (k := 1) rfl (nI_add _ 1) (by decide) rfl (fun ls hl => ?_)
                refine lv_goto (tgt := 27) hx hb dX10_rather_97 (by decide) ?_
                exact ih27 (vi11 + 1) vy128 vy129 vy130 vF131 vF132 _ _ _ (by omega) (by omega) (fun Y Λ k h => zRo_s (m := 0) (hv44_140 Y Λ k h) (by omega)) hw (lv_sub hl [0, 2, 3, 4, 5] rfl)
              · skip
                have c55_142n : ¬ (pq ≤ vi119) := fun z => c55_142 ((zz_le (a := pq) (b := vi119) rfl rfl (by omega) (by omega)).mpr z)
                refine lv_aload_n hx hb dX10_rather_58 rfl (lv_at hl 4 rfl) ?_
                refine lv_iload hx hb dX10_rather_59 (lv_at hl 1 rfl) ?_
                refine lv_iload hx hb dX10_rather_61 (lv_at hl 0 rfl) ?_
                refine zz_callV (qb := 2) (As := [.int (nI vi11), .int (nI vi119)]) (rest := []) (wr := [((r 31), .inl (G.2 0, 2, .inl c31)), ((r 48), .inl (G.2 0, 71, .inl c48))]) S hw hl.1 lX10_425 (c_x_wouldRather l G r j0 j2 j4 j10 j11 j12 j13 j14 j15 j16 j17 j19 j20 j34 j40 j44 vy130 k50_4 k51_5 j56 j61 lv pp pq c22 c24 c25 c26 c28 c29 c30 c32 c33 c35 c36 c37 c38 c39 c41 c42 vF131 vF132 d49_6 d52_10 vi11 vi119 (by first | assumption | omega | exact Or.inr ⟨_, by omega, rfl⟩ | (unfold zz_sok; decide) | decide | exact (fun j hj => (hv7 j hj).1)) (by first | assumption | omega | exact Or.inr ⟨_, by omega, rfl⟩ | (unfold zz_sok; decide) | decide | exact (fun j hj => (hv7 j hj).1)) (by first | assumption | omega | exact Or.inr ⟨_, by omega, rfl⟩ | (unfold zz_sok; decide) | decide | exact (fun j hj => (hv7 j hj).1)) (by first | assumption | omega | exact Or.inr ⟨_, by omega, rfl⟩ | (unfold zz_sok; decide) | decide | exact (fun j hj => (hv7 j hj).1)) (by first | assumption | omega | exact Or.inr ⟨_, by omega, rfl⟩ | (unfold zz_sok; decide) | decide | exact (fun j hj => (hv7 j hj).1)) (by first | assumption | omega | exact Or.inr ⟨_, by omega, rfl⟩ | (unfold zz_sok; decide) | decide | exact (fun j hj => (hv7 j hj).1)) (by first | assumption | omega | exact Or.inr ⟨_, by omega, rfl⟩ | (unfold zz_sok; decide) | decide | exact (fun j hj => (hv7 j hj).1)) (by first | assumption | omega | exact Or.inr ⟨_, by omega, rfl⟩ | (unfold zz_sok; decide) | decide | exact (fun j hj => (hv7 j hj).1)) (by first | assumption | omega | exact Or.inr ⟨_, by omega, rfl⟩ | (unfold zz_sok; decide) | decide | exact (fun j hj => (hv7 j hj).1))) ⟨Nat.le_of_ble_eq_true rfl, Nat.le_of_ble_eq_true rfl⟩ ⟨Nat.le_of_ble_eq_true rfl, Nat.le_of_ble_eq_true rfl⟩ [2, 3, 4, 5, 6, 7, 8, 9, 10, 11, 12, 13, 14, 15, 16, 17, 18, 19, 20, 21, 22] [0, 1] (by decide +kernel) rfl rfl (by decide +kernel) (by decide +kernel) rfl rfl rfl rfl (Nat.le_of_ble_eq_true rfl) dX10_rather_63 ?_
                clear hw
                intro rr u H locs hp hw
                refine hp.elim fun rv_143 zg0 => zg0.elim fun k47_144 zg1 => zg1.elim fun d45_145 zg2 => zg2.elim fun d46_146 zg3 => zg3.elim fun zee1 zg4 => zg4.elim fun zee2 zg5 => zg5.elim fun hq63_0 hq63_1 => ?_
                clear hp zg0 zg1 zg2 zg3 zg4 zg5
                subst zee1
                subst zee2
                replace hw : zz_w G A s [((r 31), .inl (G.2 0, 2, .inl c31)), ((r 48), .inl (G.2 0, 71, .inl c48)), ((r 0), .inr (10, (zz_mo r [(0, j0), (2, j2), (4, j4), (10, j10), (11, j11), (12, j12), (13, j13), (14, j14), (15, j15), (16, j16), (17, j17), (18, (nI lv)), (19, j19), (20, j20), (34, j34), (40, j40), (44, j44), (47, k47_144), (50, k50_4), (51, k51_5), (56, j56), (61, j61)]))), ((r 22), .inl (G.2 0, 2, .inl c22)), ((r 24), .inl (G.2 0, 14, .inl c24)), ((r 25), .inl (G.2 0, 14, .inl c25)), ((r 26), .inl (G.2 0, 2, .inl c26)), ((r 28), .inl (G.2 0, 12, .inl c28)), ((r 29), .inl (G.2 0, 12, .inl c29)), ((r 30), .inl (G.2 0, 2, .inl c30)), ((r 32), .inl (G.2 0, 8, .inl c32)), ((r 33), .inl (G.2 0, 8, .inl c33)), ((r 35), .inl (G.2 2, 260, .inl c35)), ((r 36), .inl (G.2 0, 260, .inl c36)), ((r 37), .inl (G.2 0, 260, .inl c37)), ((r 38), .inl (G.2 0, 260, .inl c38)), ((r 39), .inl (G.2 0, 260, .inl c39)), ((r 41), .inl (G.2 0, 840, .inl c41)), ((r 42), .inl (G.2 0, 840, .inl c42)), ((r 45), .inl (G.2 0, 9, .inl d45_145)), ((r 46), .inl (G.2 0, 400, .inl d46_146)), ((r 49), .inl (G.2 0, 71, .inl d49_6)), ((r 52), .inl (G.2 0, 6, .inl d52_10))] H _ := hw
                refine W.eq (g2 := F0 m 66 ls [.int rv_143]) rfl ?_
                refine lv_if_ne (tgt := 72) hx hb dX10_rather_66 (by decide) (fun c66_147 => ?_) (fun c66_147 => ?_)
                · skip
                  refine lv_iload_n hx hb dX10_rather_72 rfl (lv_at hl 3 rfl) ?_
                  refine lv_if_ne (tgt := 85) hx hb dX10_rather_73 (by decide) (fun c73_148 => ?_) (fun c73_148 => ?_)
                  · skip
                    refine lv_iinc (v := (vy129 + 1)) (lv' := [(2, .int (vy129 + 1)), (5, .int (nI vi119)), (4, .int (nI vi11)), (3, .int vy128), (0, .ref (r 0)), (1, .int (nI vq3))]) hx hb dX10_rather_85 hl (k := 3) rfl (rfl) (by decide) rfl (fun ls hl => ?_)
                    refine lv_iinc (v := (nI (vi119 + 1))) (lv' := [(5, .int (nI (vi119 + 1))), (2, .int (vy129 + 1)), (4, .int (nI vi11)), (3, .int vy128), (0, .ref (r 0)), (1, .int (nI vq3))]) hx hb dX10_rather_88 hl (k := 1) rfl (nI_add _ 1) (by decide) rfl (fun ls hl => ?_)
                    refine lv_goto (tgt := 44) hx hb dX10_rather_91 (by decide) ?_
                    refine W.eq (g2 := F0 m 44 ls []) rfl ?_
                    exact ih44 (vi119 + 1) vy128 (vy129 + 1) k47_144 d45_145 d46_146 _ _ _ (by omega) (by omega) (by first | exact fun Y Λ k h => zRi_n (hv44_140 Y Λ k h) (fun z => absurd (by assumption) ((zR_w hq63_0 (fun y hy => k _ y (by omega) hy) h).mpr z)) | exact fun Y Λ k h => zRi_0 (hv44_140 Y Λ k h) ((zR_w hq63_0 (fun y hy => k _ y (by omega) hy) h).mp (by assumption)) (by assumption) | exact fun Y Λ k h => zRi_1 (hv44_140 Y Λ k h) ((zR_w hq63_0 (fun y hy => k _ y (by omega) hy) h).mp (by assumption)) (by assumption)) hw (lv_sub hl [0, 2, 3, 1, 4, 5] rfl)
                  · skip
                    refine lv_bipush (v := 10) hx hb dX10_rather_76 (by decide) ?_
                    refine lv_iload hx hb dX10_rather_78 (lv_at hl 1 rfl) ?_
                    refine lv_imul hx hb dX10_rather_80 ?_
                    refine zz_topi (y := (nI (10 * vi11))) (pk_mul _ _) ?_
                    refine lv_iload hx hb dX10_rather_81 (lv_at hl 0 rfl) ?_
                    refine lv_iadd hx hb dX10_rather_83 ?_
                    refine zz_topi (y := (nI ((10 * vi11) + vi119))) (nI_add _ _) ?_
                    refine lv_istore_n (lv' := [(3, .int (nI ((10 * vi11) + vi119))), (5, .int (nI vi119)), (4, .int (nI vi11)), (2, .int vy129), (0, .ref (r 0)), (1, .int (nI vq3))]) hx hb dX10_rather_84 rfl hl (by decide) rfl (fun ls hl => ?_)
                    refine lv_iinc (v := (vy129 + 1)) (lv' := [(2, .int (vy129 + 1)), (3, .int (nI ((10 * vi11) + vi119))), (5, .int (nI vi119)), (4, .int (nI vi11)), (0, .ref (r 0)), (1, .int (nI vq3))]) hx hb dX10_rather_85 hl (k := 3) rfl (rfl) (by decide) rfl (fun ls hl => ?_)
                    refine lv_iinc (v := (nI (vi119 + 1))) (lv' := [(5, .int (nI (vi119 + 1))), (2, .int (vy129 + 1)), (3, .int (nI ((10 * vi11) + vi119))), (4, .int (nI vi11)), (0, .ref (r 0)), (1, .int (nI vq3))]) hx hb dX10_rather_88 hl (k := 2) rfl (nI_add _ 1) (by decide) rfl (fun ls hl => ?_)
                    refine lv_goto (tgt := 44) hx hb dX10_rather_91 (by decide) ?_
                    exact ih44 (vi119 + 1) (nI ((10 * vi11) + vi119)) (vy129 + 1) k47_144 d45_145 d46_146 _ _ _ (by omega) (by omega) (by first | exact fun Y Λ k h => zRi_n (hv44_140 Y Λ k h) (fun z => absurd (by assumption) ((zR_w hq63_0 (fun y hy => k _ y (by omega) hy) h).mpr z)) | exact fun Y Λ k h => zRi_0 (hv44_140 Y Λ k h) ((zR_w hq63_0 (fun y hy => k _ y (by omega) hy) h).mp (by assumption)) (by assumption) | exact fun Y Λ k h => zRi_1 (hv44_140 Y Λ k h) ((zR_w hq63_0 (fun y hy => k _ y (by omega) hy) h).mp (by assumption)) (by assumption)) hw (lv_sub hl [0, 3, 2, 1, 4, 5] rfl)
                · skip
                  refine lv_goto (tgt := 88) hx hb dX10_rather_69 (by decide) ?_
                  refine lv_iinc (v := (nI (vi119 + 1))) (lv' := [(5, .int (nI (vi119 + 1))), (4, .int (nI vi11)), (3, .int vy128), (2, .int vy129), (0, .ref (r 0)), (1, .int (nI vq3))]) hx hb dX10_rather_88 hl (k := 0) rfl (nI_add _ 1) (by decide) rfl (fun ls hl => ?_)
                  refine lv_goto (tgt := 44) hx hb dX10_rather_91 (by decide) ?_
                  exact ih44 (vi119 + 1) vy128 vy129 k47_144 d45_145 d46_146 _ _ _ (by omega) (by omega) (by first | exact fun Y Λ k h => zRi_n (hv44_140 Y Λ k h) (fun z => absurd (by assumption) ((zR_w hq63_0 (fun y hy => k _ y (by omega) hy) h).mpr z)) | exact fun Y Λ k h => zRi_0 (hv44_140 Y Λ k h) ((zR_w hq63_0 (fun y hy => k _ y (by omega) hy) h).mp (by assumption)) (by assumption) | exact fun Y Λ k h => zRi_1 (hv44_140 Y Λ k h) ((zR_w hq63_0 (fun y hy => k _ y (by omega) hy) h).mp (by assumption)) (by assumption)) hw (lv_sub hl [0, 1, 2, 3, 4, 5] rfl)
          exact lp44_141 (pq + 1 - 0) 0 vy78 vy79 vy80 vF81 vF82 _ _ _ (by omega) (by omega) hv27_115 hw (lv_sub hl [0, 1, 2, 3, 4, 5] rfl)
    exact lp27_116 (pp + 1 - 0) 0 (-2) 0 k47_7 d45_8 d46_9 _ _ _ (by omega) (by omega) (fun _ _ _ _ => rfl) hw (lv_sub hl [0, 1, 2, 3, 4] rfl)
  · skip
    refine lv_iconst (v := (-1)) hx hb dX10_rather_9 (by decide) ?_
    exact hret _ _ _ _ _ _ ⟨(-1), j47, j50, j51, c45, c46, c49, c52, rfl, rfl, (by first | exact zA0 (zz_innI (n := 1) (by omega) hq3_1 (by assumption)) | exact zA1 ⟨_, by omega, rfl⟩ ⟨_, _, hq12_0, hq16_0, fun Y Λ k h => zP_0 (zRo_e (m := pp) (hdry Y Λ k h) (by omega)) (by assumption)⟩ | exact zA1 ⟨_, by omega, rfl⟩ ⟨_, _, hq12_0, hq16_0, fun Y Λ k h => zP_1 (zRo_e (m := pp) (hdry Y Λ k h) (by omega)) (by assumption)⟩), (by first | assumption | exact Or.inl rfl | exact Or.inr rfl | omega | exact Or.inr (by assumption) | exact zz_oku (by assumption) (by first | exact Or.inl rfl | exact Or.inr ⟨_, by omega, rfl⟩))⟩ hw rfl dX10_rather_10
theorem kd_ncX10_sumCast : kd_ck 3185306426214679950890 9 cX10_sumCast.data.toList 0 = true := by decide +kernel
theorem dX10_sumCast_0 : decode cX10_sumCast 0 = .ok (.aload_n 0, 1) := kd_dk0 kd_o42 kd_ncX10_sumCast rfl
theorem dX10_sumCast_1 : decode cX10_sumCast 1 = .ok (.invokevirtual 351, 3) := kd_dk2 kd_o182 kd_ncX10_sumCast rfl
theorem dX10_sumCast_4 : decode cX10_sumCast 4 = .ok (.aload_n 0, 1) := kd_dk0 kd_o42 kd_ncX10_sumCast rfl
theorem dX10_sumCast_5 : decode cX10_sumCast 5 = .ok (.invokevirtual 429, 3) := kd_dk2 kd_o182 kd_ncX10_sumCast rfl
theorem dX10_sumCast_8 : decode cX10_sumCast 8 = .ok (.ireturn, 1) := kd_dk0 kd_o172 kd_ncX10_sumCast rfl
set_option maxHeartbeats 8000000 in
set_option maxRecDepth 100000 in
theorem c_x_sumCast (l : Launch) (G : zz_G) (r : Nat → Nat) (j0 : Int32) (j2 : Int32) (j4 : Int32) (j10 : Int32) (j11 : Int32) (j12 : Int32) (j13 : Int32) (j14 : Int32) (j15 : Int32) (j16 : Int32) (j17 : Int32) (j19 : Int32) (j20 : Int32) (j34 : Int32) (j40 : Int32) (j44 : Int32) (j47 : Int32) (j50 : Int32) (j51 : Int32) (j56 : Int32) (j61 : Int32) (lv : Nat) (pp : Nat) (pq : Nat) (c22 : Nat → Int32) (c24 : Nat → Int32) (c25 : Nat → Int32) (c26 : Nat → Int32) (c28 : Nat → Int32) (c29 : Nat → Int32) (c30 : Nat → Int32) (c32 : Nat → Int32) (c33 : Nat → Int32) (c35 : Nat → Int32) (c36 : Nat → Int32) (c37 : Nat → Int32) (c38 : Nat → Int32) (c39 : Nat → Int32) (c41 : Nat → Int32) (c42 : Nat → Int32) (c45 : Nat → Int32) (c46 : Nat → Int32) (c49 : Nat → Int32) (c52 : Nat → Int32) (hlv : lv ≤ 1) (hpe : c22 lv = nI pp) (hpp : pp ≤ 7) (hpa : c26 lv = nI pq) (hpq : pq ≤ 6) (hlw : zz_LW 2 0 0 c32 c33 c35 c36 c37 c38 c39 c41 c42) (hca : ∀ j, j < 6 → zz_ok 7 (c52 j)) : zz_M l G mX10_sumCast 5 0 0 [.ref (r 0)] [((r 0), .inr (10, (zz_mo r [(0, j0), (2, j2), (4, j4), (10, j10), (11, j11), (12, j12), (13, j13), (14, j14), (15, j15), (16, j16), (17, j17), (18, (nI lv)), (19, j19), (20, j20), (34, j34), (40, j40), (44, j44), (47, j47), (50, j50), (51, j51), (56, j56), (61, j61)]))), ((r 22), .inl (G.2 0, 2, .inl c22)), ((r 24), .inl (G.2 0, 14, .inl c24)), ((r 25), .inl (G.2 0, 14, .inl c25)), ((r 26), .inl (G.2 0, 2, .inl c26)), ((r 28), .inl (G.2 0, 12, .inl c28)), ((r 29), .inl (G.2 0, 12, .inl c29)), ((r 30), .inl (G.2 0, 2, .inl c30)), ((r 32), .inl (G.2 0, 8, .inl c32)), ((r 33), .inl (G.2 0, 8, .inl c33)), ((r 35), .inl (G.2 2, 260, .inl c35)), ((r 36), .inl (G.2 0, 260, .inl c36)), ((r 37), .inl (G.2 0, 260, .inl c37)), ((r 38), .inl (G.2 0, 260, .inl c38)), ((r 39), .inl (G.2 0, 260, .inl c39)), ((r 41), .inl (G.2 0, 840, .inl c41)), ((r 42), .inl (G.2 0, 840, .inl c42)), ((r 45), .inl (G.2 0, 9, .inl c45)), ((r 46), .inl (G.2 0, 400, .inl c46)), ((r 49), .inl (G.2 0, 71, .inl c49)), ((r 52), .inl (G.2 0, 6, .inl c52))] (fun rr u => ∃ (rv : Int32), ∃ (k47 : Int32), ∃ (d45 : Nat → Int32), ∃ (d46 : Nat → Int32), ∃ (d52 : Nat → Int32), rr = some (.int rv) ∧ u = [((r 0), .inr (10, (zz_mo r [(0, j0), (2, j2), (4, j4), (10, j10), (11, j11), (12, j12), (13, j13), (14, j14), (15, j15), (16, j16), (17, j17), (18, (nI lv)), (19, j19), (20, j20), (34, j34), (40, j40), (44, j44), (47, k47), (50, j50), (51, j51), (56, j56), (61, j61)]))), ((r 22), .inl (G.2 0, 2, .inl c22)), ((r 24), .inl (G.2 0, 14, .inl c24)), ((r 25), .inl (G.2 0, 14, .inl c25)), ((r 26), .inl (G.2 0, 2, .inl c26)), ((r 28), .inl (G.2 0, 12, .inl c28)), ((r 29), .inl (G.2 0, 12, .inl c29)), ((r 30), .inl (G.2 0, 2, .inl c30)), ((r 32), .inl (G.2 0, 8, .inl c32)), ((r 33), .inl (G.2 0, 8, .inl c33)), ((r 35), .inl (G.2 2, 260, .inl c35)), ((r 36), .inl (G.2 0, 260, .inl c36)), ((r 37), .inl (G.2 0, 260, .inl c37)), ((r 38), .inl (G.2 0, 260, .inl c38)), ((r 39), .inl (G.2 0, 260, .inl c39)), ((r 41), .inl (G.2 0, 840, .inl c41)), ((r 42), .inl (G.2 0, 840, .inl c42)), ((r 45), .inl (G.2 0, 9, .inl d45)), ((r 46), .inl (G.2 0, 400, .inl d46)), ((r 49), .inl (G.2 0, 71, .inl c49)), ((r 52), .inl (G.2 0, 6, .inl d52))] ∧ ((∃ C, zr_FX (zr_HD lv c32 c33 c35 c36 c37 c38 c39 c41 c42 (c30 lv)) (fun Λ => zr_Sx 99 lv c49 c24 c28 c25 c29 (Λ 0)) (fun x9 => c49 (14 + x9) = 1) (c30 lv) pp pq C ∧ zE (fun p9 v9 => (C p9 < 0 ∧ v9 = 0) ∨ ∃ a9 : Nat, a9 < 7 ∧ C p9 = nI a9 ∧ zr_MS lv 0 c32 c33 c35 c36 c37 c38 c39 c41 c42 (zm_fc zr_ro zr_of (c49 a9) (c49 (21 + p9)) (c24 (7 * lv + a9)) (c28 (6 * lv + p9)) (c25 (7 * lv + a9)) (c29 (6 * lv + p9)) (c49 69) (c49 (27 + 6 * a9 + p9)) p9) 99 v9) pq rv)) ∧ (∀ j, j < 6 → zz_ok 7 (d52 j))) := by
  refine zz_enteri (by decide +kernel) (Nat.le_of_ble_eq_true rfl) ?_
  intro p e s m args below meth c A Q ls S hnm hret hw hl
  have hl : lv_has ls 1 [(0, .ref (r 0))] := hl
  have hx := S.1
  have hb := S.2.1
  refine lv_aload_n hx hb dX10_sumCast_0 rfl (lv_at hl 0 rfl) ?_
  refine zz_callV (qb := 0) (As := []) (rest := []) (wr := []) S hw hl.1 lX10_351 (c_x_casts l G r j0 j2 j4 j10 j11 j12 j13 j14 j15 j16 j17 j19 j20 j34 j40 j44 j47 j50 j51 j56 j61 lv pp pq c22 c24 c25 c26 c28 c29 c30 c32 c33 c35 c36 c37 c38 c39 c41 c42 c45 c46 c49 c52 (by first | assumption | omega | exact Or.inr ⟨_, by omega, rfl⟩ | (unfold zz_sok; decide) | decide | exact (fun j hj => (hv7 j hj).1)) (by first | assumption | omega | exact Or.inr ⟨_, by omega, rfl⟩ | (unfold zz_sok; decide) | decide | exact (fun j hj => (hv7 j hj).1)) (by first | assumption | omega | exact Or.inr ⟨_, by omega, rfl⟩ | (unfold zz_sok; decide) | decide | exact (fun j hj => (hv7 j hj).1)) (by first | assumption | omega | exact Or.inr ⟨_, by omega, rfl⟩ | (unfold zz_sok; decide) | decide | exact (fun j hj => (hv7 j hj).1)) (by first | assumption | omega | exact Or.inr ⟨_, by omega, rfl⟩ | (unfold zz_sok; decide) | decide | exact (fun j hj => (hv7 j hj).1)) (by first | assumption | omega | exact Or.inr ⟨_, by omega, rfl⟩ | (unfold zz_sok; decide) | decide | exact (fun j hj => (hv7 j hj).1)) (by first | assumption | omega | exact Or.inr ⟨_, by omega, rfl⟩ | (unfold zz_sok; decide) | decide | exact (fun j hj => (hv7 j hj).1))) ⟨Nat.le_of_ble_eq_true rfl, Nat.le_of_ble_eq_true rfl⟩ ⟨Nat.le_of_ble_eq_true rfl, Nat.le_of_ble_eq_true rfl⟩ [0, 1, 2, 3, 4, 5, 6, 7, 8, 9, 10, 11, 12, 13, 14, 15, 16, 17, 18, 19, 20] [] (by decide +kernel) rfl rfl (by decide +kernel) (by decide +kernel) rfl rfl rfl rfl (Nat.le_of_ble_eq_true rfl) dX10_sumCast_1 ?_
  clear hw
  intro rr u H locs hp hw
  refine hp.elim fun k47_1 zg0 => zg0.elim fun d45_2 zg1 => zg1.elim fun d46_3 zg2 => zg2.elim fun d52_4 zg3 => zg3.elim fun zee1 zg4 => zg4.elim fun zee2 zg5 => zg5.elim fun hq1_0 hq1_1 => ?_
  clear hp zg0 zg1 zg2 zg3 zg4 zg5
  subst zee1
  subst zee2
  replace hw : zz_w G A s [((r 0), .inr (10, (zz_mo r [(0, j0), (2, j2), (4, j4), (10, j10), (11, j11), (12, j12), (13, j13), (14, j14), (15, j15), (16, j16), (17, j17), (18, (nI lv)), (19, j19), (20, j20), (34, j34), (40, j40), (44, j44), (47, k47_1), (50, j50), (51, j51), (56, j56), (61, j61)]))), ((r 22), .inl (G.2 0, 2, .inl c22)), ((r 24), .inl (G.2 0, 14, .inl c24)), ((r 25), .inl (G.2 0, 14, .inl c25)), ((r 26), .inl (G.2 0, 2, .inl c26)), ((r 28), .inl (G.2 0, 12, .inl c28)), ((r 29), .inl (G.2 0, 12, .inl c29)), ((r 30), .inl (G.2 0, 2, .inl c30)), ((r 32), .inl (G.2 0, 8, .inl c32)), ((r 33), .inl (G.2 0, 8, .inl c33)), ((r 35), .inl (G.2 2, 260, .inl c35)), ((r 36), .inl (G.2 0, 260, .inl c36)), ((r 37), .inl (G.2 0, 260, .inl c37)), ((r 38), .inl (G.2 0, 260, .inl c38)), ((r 39), .inl (G.2 0, 260, .inl c39)), ((r 41), .inl (G.2 0, 840, .inl c41)), ((r 42), .inl (G.2 0, 840, .inl c42)), ((r 45), .inl (G.2 0, 9, .inl d45_2)), ((r 46), .inl (G.2 0, 400, .inl d46_3)), ((r 49), .inl (G.2 0, 71, .inl c49)), ((r 52), .inl (G.2 0, 6, .inl d52_4))] H _ := hw
  refine W.eq (g2 := F0 m 4 ls []) rfl ?_
  refine lv_aload_n hx hb dX10_sumCast_4 rfl (lv_at hl 0 rfl) ?_
  refine zz_callV (qb := 0) (As := []) (rest := []) (wr := [((r 22), .inl (G.2 0, 2, .inl c22)), ((r 30), .inl (G.2 0, 2, .inl c30))]) S hw hl.1 lX10_429 (c_x_standsAll l G r j0 j2 j4 j10 j11 j12 j13 j14 j15 j16 j17 j19 j20 j34 j40 j44 k47_1 j50 j51 j56 j61 lv pq c24 c25 c26 c28 c29 c32 c33 c35 c36 c37 c38 c39 c41 c42 d45_2 d46_3 c49 d52_4 (by first | assumption | omega | exact Or.inr ⟨_, by omega, rfl⟩ | (unfold zz_sok; decide) | decide | exact (fun j hj => (hv7 j hj).1)) (by first | assumption | omega | exact Or.inr ⟨_, by omega, rfl⟩ | (unfold zz_sok; decide) | decide | exact (fun j hj => (hv7 j hj).1)) (by first | assumption | omega | exact Or.inr ⟨_, by omega, rfl⟩ | (unfold zz_sok; decide) | decide | exact (fun j hj => (hv7 j hj).1)) (by first | assumption | omega | exact Or.inr ⟨_, by omega, rfl⟩ | (unfold zz_sok; decide) | decide | exact (fun j hj => (hv7 j hj).1)) (by first | assumption | omega | exact Or.inr ⟨_, by omega, rfl⟩ | (unfold zz_sok; decide) | decide | exact (fun j hj => (hv7 j hj).1))) ⟨Nat.le_of_ble_eq_true rfl, Nat.le_of_ble_eq_true rfl⟩ ⟨Nat.le_of_ble_eq_true rfl, Nat.le_of_ble_eq_true rfl⟩ [0, 2, 3, 4, 5, 6, 8, 9, 10, 11, 12, 13, 14, 15, 16, 17, 18, 19, 20] [1, 7] (by decide +kernel) rfl rfl (by decide +kernel) (by decide +kernel) rfl rfl rfl rfl (Nat.le_of_ble_eq_true rfl) dX10_sumCast_5 ?_
  clear hw
  intro rr u H locs hp hw
  refine hp.elim fun rv_5 zg0 => zg0.elim fun k47_6 zg1 => zg1.elim fun d45_7 zg2 => zg2.elim fun d46_8 zg3 => zg3.elim fun zee1 zg4 => zg4.elim fun zee2 hq5_0 => ?_
  clear hp zg0 zg1 zg2 zg3 zg4
  subst zee1
  subst zee2
  replace hw : zz_w G A s [((r 22), .inl (G.2 0, 2, .inl c22)), ((r 30), .inl (G.2 0, 2, .inl c30)), ((r 0), .inr (10, (zz_mo r [(0, j0), (2, j2), (4, j4), (10, j10), (11, j11), (12, j12), (13, j13), (14, j14), (15, j15), (16, j16), (17, j17), (18, (nI lv)), (19, j19), (20, j20), (34, j34), (40, j40), (44, j44), (47, k47_6), (50, j50), (51, j51), (56, j56), (61, j61)]))), ((r 24), .inl (G.2 0, 14, .inl c24)), ((r 25), .inl (G.2 0, 14, .inl c25)), ((r 26), .inl (G.2 0, 2, .inl c26)), ((r 28), .inl (G.2 0, 12, .inl c28)), ((r 29), .inl (G.2 0, 12, .inl c29)), ((r 32), .inl (G.2 0, 8, .inl c32)), ((r 33), .inl (G.2 0, 8, .inl c33)), ((r 35), .inl (G.2 2, 260, .inl c35)), ((r 36), .inl (G.2 0, 260, .inl c36)), ((r 37), .inl (G.2 0, 260, .inl c37)), ((r 38), .inl (G.2 0, 260, .inl c38)), ((r 39), .inl (G.2 0, 260, .inl c39)), ((r 41), .inl (G.2 0, 840, .inl c41)), ((r 42), .inl (G.2 0, 840, .inl c42)), ((r 45), .inl (G.2 0, 9, .inl d45_7)), ((r 46), .inl (G.2 0, 400, .inl d46_8)), ((r 49), .inl (G.2 0, 71, .inl c49)), ((r 52), .inl (G.2 0, 6, .inl d52_4))] H _ := hw
  refine W.eq (g2 := F0 m 8 ls [.int rv_5]) rfl ?_
  exact hret _ _ _ _ _ _ ⟨rv_5, k47_6, d45_7, d46_8, d52_4, rfl, rfl, ⟨_, hq1_0, hq5_0⟩, (by first | assumption | exact Or.inl rfl | exact Or.inr rfl | omega | exact Or.inr (by assumption) | exact zz_oku (by assumption) (by first | exact Or.inl rfl | exact Or.inr ⟨_, by omega, rfl⟩))⟩ (hw.sub [2, 0, 3, 4, 5, 6, 7, 1, 8, 9, 10, 11, 12, 13, 14, 15, 16, 17, 18, 19, 20] (by decide +kernel) rfl) rfl dX10_sumCast_8
theorem kd_ncX10_bestHour : kd_ck 1676349406133546847529437886310701145802161923132659483250119287433133515531574605145581232686409047398177373267623979398225829147240592681458769752754305669446726979246061367535708159923725542638307307800426632636661318070352671088639537955446229624680235053498767760482264632781309836925738 121 cX10_bestHour.data.toList 0 = true := by decide +kernel
theorem dX10_bestHour_0 : decode cX10_bestHour 0 = .ok (.aload_n 0, 1) := kd_dk0 kd_o42 kd_ncX10_bestHour rfl
theorem dX10_bestHour_1 : decode cX10_bestHour 1 = .ok (.iload_n 1, 1) := kd_dk0 kd_o27 kd_ncX10_bestHour rfl
theorem dX10_bestHour_2 : decode cX10_bestHour 2 = .ok (.invokevirtual 373, 3) := kd_dk2 kd_o182 kd_ncX10_bestHour rfl
theorem dX10_bestHour_5 : decode cX10_bestHour 5 = .ok (.ifCond .eq 12, 3) := kd_dj2 kd_o153 (w := 12) kd_ncX10_bestHour rfl rfl
theorem dX10_bestHour_8 : decode cX10_bestHour 8 = .ok (.iload_n 2, 1) := kd_dk0 kd_o28 kd_ncX10_bestHour rfl
theorem dX10_bestHour_9 : decode cX10_bestHour 9 = .ok (.iconst 0, 1) := kd_dk0 kd_o3 kd_ncX10_bestHour rfl
theorem dX10_bestHour_10 : decode cX10_bestHour 10 = .ok (.iconst 1, 1) := kd_dk0 kd_o4 kd_ncX10_bestHour rfl
theorem dX10_bestHour_11 : decode cX10_bestHour 11 = .ok (.invokestatic 313, 3) := kd_dk2 kd_o184 kd_ncX10_bestHour rfl
theorem dX10_bestHour_14 : decode cX10_bestHour 14 = .ok (.ifCond .ne 5, 3) := kd_dj2 kd_o154 (w := 5) kd_ncX10_bestHour rfl rfl
theorem dX10_bestHour_17 : decode cX10_bestHour 17 = .ok (.iconst (-1), 1) := kd_dk0 kd_o2 kd_ncX10_bestHour rfl
theorem dX10_bestHour_18 : decode cX10_bestHour 18 = .ok (.ireturn, 1) := kd_dk0 kd_o172 kd_ncX10_bestHour rfl
theorem dX10_bestHour_19 : decode cX10_bestHour 19 = .ok (.aload_n 0, 1) := kd_dk0 kd_o42 kd_ncX10_bestHour rfl
theorem dX10_bestHour_20 : decode cX10_bestHour 20 = .ok (.invokevirtual 323, 3) := kd_dk2 kd_o182 kd_ncX10_bestHour rfl
theorem dX10_bestHour_23 : decode cX10_bestHour 23 = .ok (.iconst (-1), 1) := kd_dk0 kd_o2 kd_ncX10_bestHour rfl
theorem dX10_bestHour_24 : decode cX10_bestHour 24 = .ok (.istore_n 3, 1) := kd_dk0 kd_o62 kd_ncX10_bestHour rfl
theorem dX10_bestHour_25 : decode cX10_bestHour 25 = .ok (.iconst 0, 1) := kd_dk0 kd_o3 kd_ncX10_bestHour rfl
theorem dX10_bestHour_26 : decode cX10_bestHour 26 = .ok (.istore 4, 2) := kd_dk1 kd_o54 kd_ncX10_bestHour rfl
theorem dX10_bestHour_28 : decode cX10_bestHour 28 = .ok (.iconst 0, 1) := kd_dk0 kd_o3 kd_ncX10_bestHour rfl
theorem dX10_bestHour_29 : decode cX10_bestHour 29 = .ok (.istore 5, 2) := kd_dk1 kd_o54 kd_ncX10_bestHour rfl
theorem dX10_bestHour_31 : decode cX10_bestHour 31 = .ok (.iload 5, 2) := kd_dk1 kd_o21 kd_ncX10_bestHour rfl
theorem dX10_bestHour_33 : decode cX10_bestHour 33 = .ok (.bipush 24, 2) := kd_dj1 kd_o16 (w := 24) kd_ncX10_bestHour rfl rfl
theorem dX10_bestHour_35 : decode cX10_bestHour 35 = .ok (.if_icmp .ge 75, 3) := kd_dj2 kd_o162 (w := 75) kd_ncX10_bestHour rfl rfl
theorem dX10_bestHour_38 : decode cX10_bestHour 38 = .ok (.aload_n 0, 1) := kd_dk0 kd_o42 kd_ncX10_bestHour rfl
theorem dX10_bestHour_39 : decode cX10_bestHour 39 = .ok (.getfield 113, 3) := kd_dk2 kd_o180 kd_ncX10_bestHour rfl
theorem dX10_bestHour_42 : decode cX10_bestHour 42 = .ok (.iload_n 1, 1) := kd_dk0 kd_o27 kd_ncX10_bestHour rfl
theorem dX10_bestHour_43 : decode cX10_bestHour 43 = .ok (.iload 5, 2) := kd_dk1 kd_o21 kd_ncX10_bestHour rfl
theorem dX10_bestHour_45 : decode cX10_bestHour 45 = .ok (.iastore, 1) := kd_dk0 kd_o79 kd_ncX10_bestHour rfl
theorem dX10_bestHour_46 : decode cX10_bestHour 46 = .ok (.aload_n 0, 1) := kd_dk0 kd_o42 kd_ncX10_bestHour rfl
theorem dX10_bestHour_47 : decode cX10_bestHour 47 = .ok (.invokevirtual 432, 3) := kd_dk2 kd_o182 kd_ncX10_bestHour rfl
theorem dX10_bestHour_50 : decode cX10_bestHour 50 = .ok (.istore 6, 2) := kd_dk1 kd_o54 kd_ncX10_bestHour rfl
theorem dX10_bestHour_52 : decode cX10_bestHour 52 = .ok (.iload_n 3, 1) := kd_dk0 kd_o29 kd_ncX10_bestHour rfl
theorem dX10_bestHour_53 : decode cX10_bestHour 53 = .ok (.ifCond .lt 44, 3) := kd_dj2 kd_o155 (w := 44) kd_ncX10_bestHour rfl rfl
theorem dX10_bestHour_56 : decode cX10_bestHour 56 = .ok (.iload 6, 2) := kd_dk1 kd_o21 kd_ncX10_bestHour rfl
theorem dX10_bestHour_58 : decode cX10_bestHour 58 = .ok (.iload 4, 2) := kd_dk1 kd_o21 kd_ncX10_bestHour rfl
theorem dX10_bestHour_60 : decode cX10_bestHour 60 = .ok (.if_icmp .lt 44, 3) := kd_dj2 kd_o161 (w := 44) kd_ncX10_bestHour rfl rfl
theorem dX10_bestHour_63 : decode cX10_bestHour 63 = .ok (.iload 6, 2) := kd_dk1 kd_o21 kd_ncX10_bestHour rfl
theorem dX10_bestHour_65 : decode cX10_bestHour 65 = .ok (.iload 4, 2) := kd_dk1 kd_o21 kd_ncX10_bestHour rfl
theorem dX10_bestHour_67 : decode cX10_bestHour 67 = .ok (.if_icmp .ne 30, 3) := kd_dj2 kd_o160 (w := 30) kd_ncX10_bestHour rfl rfl
theorem dX10_bestHour_70 : decode cX10_bestHour 70 = .ok (.iload 5, 2) := kd_dk1 kd_o21 kd_ncX10_bestHour rfl
theorem dX10_bestHour_72 : decode cX10_bestHour 72 = .ok (.aload_n 0, 1) := kd_dk0 kd_o42 kd_ncX10_bestHour rfl
theorem dX10_bestHour_73 : decode cX10_bestHour 73 = .ok (.getfield 110, 3) := kd_dk2 kd_o180 kd_ncX10_bestHour rfl
theorem dX10_bestHour_76 : decode cX10_bestHour 76 = .ok (.iload_n 1, 1) := kd_dk0 kd_o27 kd_ncX10_bestHour rfl
theorem dX10_bestHour_77 : decode cX10_bestHour 77 = .ok (.iaload, 1) := kd_dk0 kd_o46 kd_ncX10_bestHour rfl
theorem dX10_bestHour_78 : decode cX10_bestHour 78 = .ok (.invokestatic 330, 3) := kd_dk2 kd_o184 kd_ncX10_bestHour rfl
theorem dX10_bestHour_81 : decode cX10_bestHour 81 = .ok (.iload_n 3, 1) := kd_dk0 kd_o29 kd_ncX10_bestHour rfl
theorem dX10_bestHour_82 : decode cX10_bestHour 82 = .ok (.aload_n 0, 1) := kd_dk0 kd_o42 kd_ncX10_bestHour rfl
theorem dX10_bestHour_83 : decode cX10_bestHour 83 = .ok (.getfield 110, 3) := kd_dk2 kd_o180 kd_ncX10_bestHour rfl
theorem dX10_bestHour_86 : decode cX10_bestHour 86 = .ok (.iload_n 1, 1) := kd_dk0 kd_o27 kd_ncX10_bestHour rfl
theorem dX10_bestHour_87 : decode cX10_bestHour 87 = .ok (.iaload, 1) := kd_dk0 kd_o46 kd_ncX10_bestHour rfl
theorem dX10_bestHour_88 : decode cX10_bestHour 88 = .ok (.invokestatic 330, 3) := kd_dk2 kd_o184 kd_ncX10_bestHour rfl
theorem dX10_bestHour_91 : decode cX10_bestHour 91 = .ok (.if_icmp .lt 6, 3) := kd_dj2 kd_o161 (w := 6) kd_ncX10_bestHour rfl rfl
theorem dX10_bestHour_94 : decode cX10_bestHour 94 = .ok (.goto 10, 3) := kd_dj2 kd_o167 (w := 10) kd_ncX10_bestHour rfl rfl
theorem dX10_bestHour_97 : decode cX10_bestHour 97 = .ok (.iload 5, 2) := kd_dk1 kd_o21 kd_ncX10_bestHour rfl
theorem dX10_bestHour_99 : decode cX10_bestHour 99 = .ok (.istore_n 3, 1) := kd_dk0 kd_o62 kd_ncX10_bestHour rfl
theorem dX10_bestHour_100 : decode cX10_bestHour 100 = .ok (.iload 6, 2) := kd_dk1 kd_o21 kd_ncX10_bestHour rfl
theorem dX10_bestHour_102 : decode cX10_bestHour 102 = .ok (.istore 4, 2) := kd_dk1 kd_o54 kd_ncX10_bestHour rfl
theorem dX10_bestHour_104 : decode cX10_bestHour 104 = .ok (.iinc 5 1, 3) := kd_dji kd_o132 (w := 1) kd_ncX10_bestHour rfl rfl
theorem dX10_bestHour_107 : decode cX10_bestHour 107 = .ok (.goto (-76), 3) := kd_dj2 kd_o167 (w := 65460) kd_ncX10_bestHour rfl rfl
theorem dX10_bestHour_110 : decode cX10_bestHour 110 = .ok (.iload_n 2, 1) := kd_dk0 kd_o28 kd_ncX10_bestHour rfl
theorem dX10_bestHour_111 : decode cX10_bestHour 111 = .ok (.ifCond .ne 7, 3) := kd_dj2 kd_o154 (w := 7) kd_ncX10_bestHour rfl rfl
theorem dX10_bestHour_114 : decode cX10_bestHour 114 = .ok (.iload_n 3, 1) := kd_dk0 kd_o29 kd_ncX10_bestHour rfl
theorem dX10_bestHour_115 : decode cX10_bestHour 115 = .ok (.goto 5, 3) := kd_dj2 kd_o167 (w := 5) kd_ncX10_bestHour rfl rfl
theorem dX10_bestHour_118 : decode cX10_bestHour 118 = .ok (.iload 4, 2) := kd_dk1 kd_o21 kd_ncX10_bestHour rfl
theorem dX10_bestHour_120 : decode cX10_bestHour 120 = .ok (.ireturn, 1) := kd_dk0 kd_o172 kd_ncX10_bestHour rfl
set_option maxHeartbeats 8000000 in
set_option maxRecDepth 100000 in
theorem c_x_bestHour (l : Launch) (G : zz_G) (r : Nat → Nat) (j0 : Int32) (j2 : Int32) (j4 : Int32) (j10 : Int32) (j11 : Int32) (j12 : Int32) (j13 : Int32) (j14 : Int32) (j15 : Int32) (j16 : Int32) (j17 : Int32) (j19 : Int32) (j20 : Int32) (j34 : Int32) (j40 : Int32) (j44 : Int32) (j47 : Int32) (j50 : Int32) (j51 : Int32) (j56 : Int32) (j61 : Int32) (lv : Nat) (pp : Nat) (pq : Nat) (c22 : Nat → Int32) (c24 : Nat → Int32) (c25 : Nat → Int32) (c26 : Nat → Int32) (c28 : Nat → Int32) (c29 : Nat → Int32) (c30 : Nat → Int32) (c31 : Nat → Int32) (c32 : Nat → Int32) (c33 : Nat → Int32) (c35 : Nat → Int32) (c36 : Nat → Int32) (c37 : Nat → Int32) (c38 : Nat → Int32) (c39 : Nat → Int32) (c41 : Nat → Int32) (c42 : Nat → Int32) (c45 : Nat → Int32) (c46 : Nat → Int32) (c48 : Nat → Int32) (c49 : Nat → Int32) (c52 : Nat → Int32) (ar1 : Int32) (ar2 : Int32) (hlv : lv ≤ 1) (hpe : c22 lv = nI pp) (hpp : pp ≤ 7) (hpa : c26 lv = nI pq) (hpq : pq ≤ 6) (hlw : zz_LW 2 0 0 c32 c33 c35 c36 c37 c38 c39 c41 c42) (hca : ∀ j, j < 6 → zz_ok 7 (c52 j)) : zz_M l G mX10_bestHour 6 0 0 [.ref (r 0), .int ar1, .int ar2] [((r 0), .inr (10, (zz_mo r [(0, j0), (2, j2), (4, j4), (10, j10), (11, j11), (12, j12), (13, j13), (14, j14), (15, j15), (16, j16), (17, j17), (18, (nI lv)), (19, j19), (20, j20), (34, j34), (40, j40), (44, j44), (47, j47), (50, j50), (51, j51), (56, j56), (61, j61)]))), ((r 22), .inl (G.2 0, 2, .inl c22)), ((r 24), .inl (G.2 0, 14, .inl c24)), ((r 25), .inl (G.2 0, 14, .inl c25)), ((r 26), .inl (G.2 0, 2, .inl c26)), ((r 28), .inl (G.2 0, 12, .inl c28)), ((r 29), .inl (G.2 0, 12, .inl c29)), ((r 30), .inl (G.2 0, 2, .inl c30)), ((r 31), .inl (G.2 0, 2, .inl c31)), ((r 32), .inl (G.2 0, 8, .inl c32)), ((r 33), .inl (G.2 0, 8, .inl c33)), ((r 35), .inl (G.2 2, 260, .inl c35)), ((r 36), .inl (G.2 0, 260, .inl c36)), ((r 37), .inl (G.2 0, 260, .inl c37)), ((r 38), .inl (G.2 0, 260, .inl c38)), ((r 39), .inl (G.2 0, 260, .inl c39)), ((r 41), .inl (G.2 0, 840, .inl c41)), ((r 42), .inl (G.2 0, 840, .inl c42)), ((r 45), .inl (G.2 0, 9, .inl c45)), ((r 46), .inl (G.2 0, 400, .inl c46)), ((r 48), .inl (G.2 0, 71, .inl c48)), ((r 49), .inl (G.2 0, 71, .inl c49)), ((r 52), .inl (G.2 0, 6, .inl c52))] (fun rr u => ∃ (rv : Int32), ∃ (k47 : Int32), ∃ (k50 : Int32), ∃ (k51 : Int32), ∃ (d45 : Nat → Int32), ∃ (d46 : Nat → Int32), ∃ (d49 : Nat → Int32), ∃ (d52 : Nat → Int32), rr = some (.int rv) ∧ u = [((r 0), .inr (10, (zz_mo r [(0, j0), (2, j2), (4, j4), (10, j10), (11, j11), (12, j12), (13, j13), (14, j14), (15, j15), (16, j16), (17, j17), (18, (nI lv)), (19, j19), (20, j20), (34, j34), (40, j40), (44, j44), (47, k47), (50, k50), (51, k51), (56, j56), (61, j61)]))), ((r 22), .inl (G.2 0, 2, .inl c22)), ((r 24), .inl (G.2 0, 14, .inl c24)), ((r 25), .inl (G.2 0, 14, .inl c25)), ((r 26), .inl (G.2 0, 2, .inl c26)), ((r 28), .inl (G.2 0, 12, .inl c28)), ((r 29), .inl (G.2 0, 12, .inl c29)), ((r 30), .inl (G.2 0, 2, .inl c30)), ((r 31), .inl (G.2 0, 2, .inl c31)), ((r 32), .inl (G.2 0, 8, .inl c32)), ((r 33), .inl (G.2 0, 8, .inl c33)), ((r 35), .inl (G.2 2, 260, .inl c35)), ((r 36), .inl (G.2 0, 260, .inl c36)), ((r 37), .inl (G.2 0, 260, .inl c37)), ((r 38), .inl (G.2 0, 260, .inl c38)), ((r 39), .inl (G.2 0, 260, .inl c39)), ((r 41), .inl (G.2 0, 840, .inl c41)), ((r 42), .inl (G.2 0, 840, .inl c42)), ((r 45), .inl (G.2 0, 9, .inl d45)), ((r 46), .inl (G.2 0, 400, .inl d46)), ((r 48), .inl (G.2 0, 71, .inl c48)), ((r 49), .inl (G.2 0, 71, .inl d49)), ((r 52), .inl (G.2 0, 6, .inl d52))] ∧ (zA (zz_In pp ar1 ∧ zz_In 2 ar2) (∃ a : Nat, a < pp ∧ ar1 = nI a ∧ ∃ τ, zy_q 71 c48 τ ∧ ∃ q, zTE (zU (fun x => zr_ro x (c48 a))) (fun i v => (∃ C, zr_FX (zr_HD lv c32 c33 c35 c36 c37 c38 c39 c41 c42 (c30 lv)) (fun Λ => zr_Sx 99 lv (upd τ a (nI i)) c24 c28 c25 c29 (Λ 0)) (fun x9 => (upd τ a (nI i)) (14 + x9) = 1) (c30 lv) pp pq C ∧ zE (fun p9 v9 => (C p9 < 0 ∧ v9 = 0) ∨ ∃ a9 : Nat, a9 < 7 ∧ C p9 = nI a9 ∧ zr_MS lv 0 c32 c33 c35 c36 c37 c38 c39 c41 c42 (zm_fc zr_ro zr_of ((upd τ a (nI i)) a9) ((upd τ a (nI i)) (21 + p9)) (c24 (7 * lv + a9)) (c28 (6 * lv + p9)) (c25 (7 * lv + a9)) (c29 (6 * lv + p9)) ((upd τ a (nI i)) 69) ((upd τ a (nI i)) (27 + 6 * a9 + p9)) p9) 99 v9) pq v)) 24 q ∧ rv = zP ar2 q) rv (-1)) ∧ (∀ j, j < 6 → zz_ok 7 (d52 j))) := by
  refine zz_enteri (by decide +kernel) (Nat.le_of_ble_eq_true rfl) ?_
  intro p e s m args below meth c A Q ls S hnm hret hw hl
  have hl : lv_has ls 7 [(0, .ref (r 0)), (1, .int ar1), (2, .int ar2)] := hl
  have hx := S.1
  have hb := S.2.1
  refine lv_aload_n hx hb dX10_bestHour_0 rfl (lv_at hl 0 rfl) ?_
  refine lv_iload_n hx hb dX10_bestHour_1 rfl (lv_at hl 1 rfl) ?_
  refine zz_callV (qb := 0) (As := [.int ar1]) (rest := []) (wr := [((r 24), .inl (G.2 0, 14, .inl c24)), ((r 25), .inl (G.2 0, 14, .inl c25)), ((r 26), .inl (G.2 0, 2, .inl c26)), ((r 28), .inl (G.2 0, 12, .inl c28)), ((r 29), .inl (G.2 0, 12, .inl c29)), ((r 30), .inl (G.2 0, 2, .inl c30)), ((r 31), .inl (G.2 0, 2, .inl c31)), ((r 32), .inl (G.2 0, 8, .inl c32)), ((r 33), .inl (G.2 0, 8, .inl c33)), ((r 35), .inl (G.2 2, 260, .inl c35)), ((r 36), .inl (G.2 0, 260, .inl c36)), ((r 37), .inl (G.2 0, 260, .inl c37)), ((r 38), .inl (G.2 0, 260, .inl c38)), ((r 39), .inl (G.2 0, 260, .inl c39)), ((r 41), .inl (G.2 0, 840, .inl c41)), ((r 42), .inl (G.2 0, 840, .inl c42)), ((r 45), .inl (G.2 0, 9, .inl c45)), ((r 46), .inl (G.2 0, 400, .inl c46)), ((r 48), .inl (G.2 0, 71, .inl c48)), ((r 49), .inl (G.2 0, 71, .inl c49)), ((r 52), .inl (G.2 0, 6, .inl c52))]) S hw hl.1 lX10_373 (c_x_isPerson l G r j0 j2 j4 j10 j11 j12 j13 j14 j15 j16 j17 j19 j20 j34 j40 j44 j47 j50 j51 j56 j61 lv pp c22 ar1 (by first | assumption | omega | exact Or.inr ⟨_, by omega, rfl⟩ | (unfold zz_sok; decide) | decide | exact (fun j hj => (hv7 j hj).1)) (by first | assumption | omega | exact Or.inr ⟨_, by omega, rfl⟩ | (unfold zz_sok; decide) | decide | exact (fun j hj => (hv7 j hj).1)) (by first | assumption | omega | exact Or.inr ⟨_, by omega, rfl⟩ | (unfold zz_sok; decide) | decide | exact (fun j hj => (hv7 j hj).1))) ⟨Nat.le_of_ble_eq_true rfl, Nat.le_of_ble_eq_true rfl⟩ ⟨Nat.le_of_ble_eq_true rfl, Nat.le_of_ble_eq_true rfl⟩ [0, 1] [2, 3, 4, 5, 6, 7, 8, 9, 10, 11, 12, 13, 14, 15, 16, 17, 18, 19, 20, 21, 22] (by decide +kernel) rfl rfl (by decide +kernel) (by decide +kernel) rfl rfl rfl rfl (Nat.le_of_ble_eq_true rfl) dX10_bestHour_2 ?_
  clear hw
  intro rr u H locs hp hw
  refine hp.elim fun rv_1 zg0 => zg0.elim fun zee1 zg1 => zg1.elim fun zee2 zg2 => zg2.elim fun hq2_0 zg3 => zg3.elim fun hq2_1 hq2_2 => ?_
  clear hp zg0 zg1 zg2 zg3
  subst zee1
  subst zee2
  replace hw : zz_w G A s [((r 24), .inl (G.2 0, 14, .inl c24)), ((r 25), .inl (G.2 0, 14, .inl c25)), ((r 26), .inl (G.2 0, 2, .inl c26)), ((r 28), .inl (G.2 0, 12, .inl c28)), ((r 29), .inl (G.2 0, 12, .inl c29)), ((r 30), .inl (G.2 0, 2, .inl c30)), ((r 31), .inl (G.2 0, 2, .inl c31)), ((r 32), .inl (G.2 0, 8, .inl c32)), ((r 33), .inl (G.2 0, 8, .inl c33)), ((r 35), .inl (G.2 2, 260, .inl c35)), ((r 36), .inl (G.2 0, 260, .inl c36)), ((r 37), .inl (G.2 0, 260, .inl c37)), ((r 38), .inl (G.2 0, 260, .inl c38)), ((r 39), .inl (G.2 0, 260, .inl c39)), ((r 41), .inl (G.2 0, 840, .inl c41)), ((r 42), .inl (G.2 0, 840, .inl c42)), ((r 45), .inl (G.2 0, 9, .inl c45)), ((r 46), .inl (G.2 0, 400, .inl c46)), ((r 48), .inl (G.2 0, 71, .inl c48)), ((r 49), .inl (G.2 0, 71, .inl c49)), ((r 52), .inl (G.2 0, 6, .inl c52)), ((r 0), .inr (10, (zz_mo r [(0, j0), (2, j2), (4, j4), (10, j10), (11, j11), (12, j12), (13, j13), (14, j14), (15, j15), (16, j16), (17, j17), (18, (nI lv)), (19, j19), (20, j20), (34, j34), (40, j40), (44, j44), (47, j47), (50, j50), (51, j51), (56, j56), (61, j61)]))), ((r 22), .inl (G.2 0, 2, .inl c22))] H _ := hw
  refine W.eq (g2 := F0 m 5 ls [.int rv_1]) rfl ?_
  refine lv_if_eq (tgt := 17) hx hb dX10_bestHour_5 (by decide) (fun c5_2 => ?_) (fun c5_2 => ?_)
  · skip
    refine lv_iconst (v := (-1)) hx hb dX10_bestHour_17 (by decide) ?_
    exact hret _ _ _ _ _ _ ⟨(-1), j47, j50, j51, c45, c46, c49, c52, rfl, rfl, (by first | exact zA0 (fun z => hq2_1 (by assumption) z.1) | exact zA0 (fun z => zz_innI (n := 1) (by omega) hq11_1 (by assumption) z.2) | exact zA1 ⟨⟨_, by assumption, rfl⟩, ⟨_, by omega, rfl⟩⟩ ⟨_, by assumption, rfl, _, hq20_0, _, (zTE_e hdry (by omega)), zP_0 rfl (by assumption)⟩ | exact zA1 ⟨⟨_, by assumption, rfl⟩, ⟨_, by omega, rfl⟩⟩ ⟨_, by assumption, rfl, _, hq20_0, _, (zTE_e hdry (by omega)), zP_1 rfl (by assumption)⟩), (by first | assumption | exact Or.inl rfl | exact Or.inr rfl | omega | exact Or.inr (by assumption) | exact zz_oku (by assumption) (by first | exact Or.inl rfl | exact Or.inr ⟨_, by omega, rfl⟩))⟩ (hw.sub [21, 22, 0, 1, 2, 3, 4, 5, 6, 7, 8, 9, 10, 11, 12, 13, 14, 15, 16, 17, 18, 19, 20] (by decide +kernel) rfl) rfl dX10_bestHour_18
  · skip
    obtain ⟨vq3, hvq3, rfl⟩ := hq2_0.resolve_left c5_2
    refine lv_iload_n hx hb dX10_bestHour_8 rfl (lv_at hl 2 rfl) ?_
    refine lv_iconst (v := 0) hx hb dX10_bestHour_9 (by decide) ?_
    refine lv_iconst (v := 1) hx hb dX10_bestHour_10 (by decide) ?_
    refine zz_callS (As := [.int ar2, .int 0, .int 1]) (rest := []) (wr := [((r 24), .inl (G.2 0, 14, .inl c24)), ((r 25), .inl (G.2 0, 14, .inl c25)), ((r 26), .inl (G.2 0, 2, .inl c26)), ((r 28), .inl (G.2 0, 12, .inl c28)), ((r 29), .inl (G.2 0, 12, .inl c29)), ((r 30), .inl (G.2 0, 2, .inl c30)), ((r 31), .inl (G.2 0, 2, .inl c31)), ((r 32), .inl (G.2 0, 8, .inl c32)), ((r 33), .inl (G.2 0, 8, .inl c33)), ((r 35), .inl (G.2 2, 260, .inl c35)), ((r 36), .inl (G.2 0, 260, .inl c36)), ((r 37), .inl (G.2 0, 260, .inl c37)), ((r 38), .inl (G.2 0, 260, .inl c38)), ((r 39), .inl (G.2 0, 260, .inl c39)), ((r 41), .inl (G.2 0, 840, .inl c41)), ((r 42), .inl (G.2 0, 840, .inl c42)), ((r 45), .inl (G.2 0, 9, .inl c45)), ((r 46), .inl (G.2 0, 400, .inl c46)), ((r 48), .inl (G.2 0, 71, .inl c48)), ((r 49), .inl (G.2 0, 71, .inl c49)), ((r 52), .inl (G.2 0, 6, .inl c52)), ((r 0), .inr (10, (zz_mo r [(0, j0), (2, j2), (4, j4), (10, j10), (11, j11), (12, j12), (13, j13), (14, j14), (15, j15), (16, j16), (17, j17), (18, (nI lv)), (19, j19), (20, j20), (34, j34), (40, j40), (44, j44), (47, j47), (50, j50), (51, j51), (56, j56), (61, j61)]))), ((r 22), .inl (G.2 0, 2, .inl c22))]) S hw hl.1 lX10_313 (c_x_in l G ar2 0 1) ⟨Nat.le_of_ble_eq_true rfl, Nat.le_of_ble_eq_true rfl⟩ ⟨Nat.le_of_ble_eq_true rfl, Nat.le_of_ble_eq_true rfl⟩ [] [0, 1, 2, 3, 4, 5, 6, 7, 8, 9, 10, 11, 12, 13, 14, 15, 16, 17, 18, 19, 20, 21, 22] (by decide +kernel) rfl rfl (by decide +kernel) (by decide +kernel) rfl rfl (Nat.le_of_ble_eq_true rfl) dX10_bestHour_11 ?_
    clear hw
    intro rr u H locs hp hw
    refine hp.elim fun rv_4 zg0 => zg0.elim fun zee1 zg1 => zg1.elim fun zee2 zg2 => zg2.elim fun hq11_0 zg3 => zg3.elim fun hq11_1 hq11_2 => ?_
    clear hp zg0 zg1 zg2 zg3
    subst zee1
    subst zee2
    replace hw : zz_w G A s [((r 24), .inl (G.2 0, 14, .inl c24)), ((r 25), .inl (G.2 0, 14, .inl c25)), ((r 26), .inl (G.2 0, 2, .inl c26)), ((r 28), .inl (G.2 0, 12, .inl c28)), ((r 29), .inl (G.2 0, 12, .inl c29)), ((r 30), .inl (G.2 0, 2, .inl c30)), ((r 31), .inl (G.2 0, 2, .inl c31)), ((r 32), .inl (G.2 0, 8, .inl c32)), ((r 33), .inl (G.2 0, 8, .inl c33)), ((r 35), .inl (G.2 2, 260, .inl c35)), ((r 36), .inl (G.2 0, 260, .inl c36)), ((r 37), .inl (G.2 0, 260, .inl c37)), ((r 38), .inl (G.2 0, 260, .inl c38)), ((r 39), .inl (G.2 0, 260, .inl c39)), ((r 41), .inl (G.2 0, 840, .inl c41)), ((r 42), .inl (G.2 0, 840, .inl c42)), ((r 45), .inl (G.2 0, 9, .inl c45)), ((r 46), .inl (G.2 0, 400, .inl c46)), ((r 48), .inl (G.2 0, 71, .inl c48)), ((r 49), .inl (G.2 0, 71, .inl c49)), ((r 52), .inl (G.2 0, 6, .inl c52)), ((r 0), .inr (10, (zz_mo r [(0, j0), (2, j2), (4, j4), (10, j10), (11, j11), (12, j12), (13, j13), (14, j14), (15, j15), (16, j16), (17, j17), (18, (nI lv)), (19, j19), (20, j20), (34, j34), (40, j40), (44, j44), (47, j47), (50, j50), (51, j51), (56, j56), (61, j61)]))), ((r 22), .inl (G.2 0, 2, .inl c22))] H _ := hw
    refine W.eq (g2 := F0 m 14 ls [.int rv_4]) rfl ?_
    refine lv_if_ne (tgt := 19) hx hb dX10_bestHour_14 (by decide) (fun c14_5 => ?_) (fun c14_5 => ?_)
    · skip
      have hq11_0i := hq11_0.resolve_left c14_5
      obtain ⟨vq6, hvq6, rfl⟩ : ∃ k : Nat, k ≤ 1 ∧ ar2 = nI k := zz_rng (zz_lo0 hq11_0i.1) hq11_0i.2 (by omega)
      refine lv_aload_n hx hb dX10_bestHour_19 rfl (lv_at hl 0 rfl) ?_
      refine zz_callV (qb := 21) (As := []) (rest := []) (wr := [((r 24), .inl (G.2 0, 14, .inl c24)), ((r 25), .inl (G.2 0, 14, .inl c25)), ((r 26), .inl (G.2 0, 2, .inl c26)), ((r 28), .inl (G.2 0, 12, .inl c28)), ((r 29), .inl (G.2 0, 12, .inl c29)), ((r 30), .inl (G.2 0, 2, .inl c30)), ((r 32), .inl (G.2 0, 8, .inl c32)), ((r 33), .inl (G.2 0, 8, .inl c33)), ((r 35), .inl (G.2 2, 260, .inl c35)), ((r 36), .inl (G.2 0, 260, .inl c36)), ((r 37), .inl (G.2 0, 260, .inl c37)), ((r 38), .inl (G.2 0, 260, .inl c38)), ((r 39), .inl (G.2 0, 260, .inl c39)), ((r 41), .inl (G.2 0, 840, .inl c41)), ((r 42), .inl (G.2 0, 840, .inl c42)), ((r 45), .inl (G.2 0, 9, .inl c45)), ((r 46), .inl (G.2 0, 400, .inl c46)), ((r 52), .inl (G.2 0, 6, .inl c52)), ((r 22), .inl (G.2 0, 2, .inl c22))]) S hw hl.1 lX10_323 (c_x_copies l G r j0 j2 j4 j10 j11 j12 j13 j14 j15 j16 j17 j19 j20 j34 j40 j44 j47 j50 j51 j56 j61 lv c31 c48 c49 (by first | assumption | omega | exact Or.inr ⟨_, by omega, rfl⟩ | (unfold zz_sok; decide) | decide | exact (fun j hj => (hv7 j hj).1))) ⟨Nat.le_of_ble_eq_true rfl, Nat.le_of_ble_eq_true rfl⟩ ⟨Nat.le_of_ble_eq_true rfl, Nat.le_of_ble_eq_true rfl⟩ [21, 6, 18, 19] [0, 1, 2, 3, 4, 5, 7, 8, 9, 10, 11, 12, 13, 14, 15, 16, 17, 20, 22] (by decide +kernel) rfl rfl (by decide +kernel) (by decide +kernel) rfl rfl rfl rfl (Nat.le_of_ble_eq_true rfl) dX10_bestHour_20 ?_
      clear hw
      intro rr u H locs hp hw
      refine hp.elim fun k50_7 zg0 => zg0.elim fun k51_8 zg1 => zg1.elim fun d49_9 zg2 => zg2.elim fun zee1 zg3 => zg3.elim fun zee2 zg4 => zg4.elim fun hq20_0 zg5 => zg5.elim fun hq20_1 hq20_2 => ?_
      clear hp zg0 zg1 zg2 zg3 zg4 zg5
      subst zee1
      subst zee2
      replace hw : zz_w G A s [((r 24), .inl (G.2 0, 14, .inl c24)), ((r 25), .inl (G.2 0, 14, .inl c25)), ((r 26), .inl (G.2 0, 2, .inl c26)), ((r 28), .inl (G.2 0, 12, .inl c28)), ((r 29), .inl (G.2 0, 12, .inl c29)), ((r 30), .inl (G.2 0, 2, .inl c30)), ((r 32), .inl (G.2 0, 8, .inl c32)), ((r 33), .inl (G.2 0, 8, .inl c33)), ((r 35), .inl (G.2 2, 260, .inl c35)), ((r 36), .inl (G.2 0, 260, .inl c36)), ((r 37), .inl (G.2 0, 260, .inl c37)), ((r 38), .inl (G.2 0, 260, .inl c38)), ((r 39), .inl (G.2 0, 260, .inl c39)), ((r 41), .inl (G.2 0, 840, .inl c41)), ((r 42), .inl (G.2 0, 840, .inl c42)), ((r 45), .inl (G.2 0, 9, .inl c45)), ((r 46), .inl (G.2 0, 400, .inl c46)), ((r 52), .inl (G.2 0, 6, .inl c52)), ((r 22), .inl (G.2 0, 2, .inl c22)), ((r 0), .inr (10, (zz_mo r [(0, j0), (2, j2), (4, j4), (10, j10), (11, j11), (12, j12), (13, j13), (14, j14), (15, j15), (16, j16), (17, j17), (18, (nI lv)), (19, j19), (20, j20), (34, j34), (40, j40), (44, j44), (47, j47), (50, k50_7), (51, k51_8), (56, j56), (61, j61)]))), ((r 31), .inl (G.2 0, 2, .inl c31)), ((r 48), .inl (G.2 0, 71, .inl c48)), ((r 49), .inl (G.2 0, 71, .inl d49_9))] H _ := hw
      refine W.eq (g2 := F0 m 23 ls []) rfl ?_
      refine lv_iconst (v := (-1)) hx hb dX10_bestHour_23 (by decide) ?_
      refine lv_istore_n (lv' := [(3, .int (-1)), (0, .ref (r 0)), (1, .int (nI vq3)), (2, .int (nI vq6))]) hx hb dX10_bestHour_24 rfl hl (by decide) rfl (fun ls hl => ?_)
      refine lv_iconst (v := 0) hx hb dX10_bestHour_25 (by decide) ?_
      refine lv_istore (lv' := [(4, .int 0), (3, .int (-1)), (0, .ref (r 0)), (1, .int (nI vq3)), (2, .int (nI vq6))]) hx hb dX10_bestHour_26 hl (by decide) rfl (fun ls hl => ?_)
      refine W.eq (g2 := F0 m 28 ls []) rfl ?_
      refine lv_iconst (v := 0) hx hb dX10_bestHour_28 (by decide) ?_
      refine lv_istore (lv' := [(5, .int 0), (4, .int 0), (3, .int (-1)), (0, .ref (r 0)), (1, .int (nI vq3)), (2, .int (nI vq6))]) hx hb dX10_bestHour_29 hl (by decide) rfl (fun ls hl => ?_)
      have lp31_47 : ∀ (vn11 vi10 : Nat) (vy24 : Int32) (vy25 : Int32) (vF26 : Nat → Int32) (vF27 : Nat → Int32) (vF28 : Nat → Int32) (vy29 : Int32) (vF30 : Nat → Int32) (H : Heap) (locs : List Loc) (ls : Array Slot), vi10 ≤ 24 → 24 < vi10 + vn11 → (∀ j, j < 6 → zz_ok 7 (vF28 j)) → (∀ x, upd vF30 vq3 x = upd d49_9 vq3 x) → zTE (zU (fun x => zr_ro x (c48 vq3))) (fun i v => (∃ C, zr_FX (zr_HD lv c32 c33 c35 c36 c37 c38 c39 c41 c42 (c30 lv)) (fun Λ => zr_Sx 99 lv (upd d49_9 vq3 (nI i)) c24 c28 c25 c29 (Λ 0)) (fun x9 => (upd d49_9 vq3 (nI i)) (14 + x9) = 1) (c30 lv) pp pq C ∧ zE (fun p9 v9 => (C p9 < 0 ∧ v9 = 0) ∨ ∃ a9 : Nat, a9 < 7 ∧ C p9 = nI a9 ∧ zr_MS lv 0 c32 c33 c35 c36 c37 c38 c39 c41 c42 (zm_fc zr_ro zr_of ((upd d49_9 vq3 (nI i)) a9) ((upd d49_9 vq3 (nI i)) (21 + p9)) (c24 (7 * lv + a9)) (c28 (6 * lv + p9)) (c25 (7 * lv + a9)) (c29 (6 * lv + p9)) ((upd d49_9 vq3 (nI i)) 69) ((upd d49_9 vq3 (nI i)) (27 + 6 * a9 + p9)) p9) 99 v9) pq v)) vi10 (vy25, vy24) → zz_w G A s [((r 24), .inl (G.2 0, 14, .inl c24)), ((r 25), .inl (G.2 0, 14, .inl c25)), ((r 26), .inl (G.2 0, 2, .inl c26)), ((r 28), .inl (G.2 0, 12, .inl c28)), ((r 29), .inl (G.2 0, 12, .inl c29)), ((r 30), .inl (G.2 0, 2, .inl c30)), ((r 32), .inl (G.2 0, 8, .inl c32)), ((r 33), .inl (G.2 0, 8, .inl c33)), ((r 35), .inl (G.2 2, 260, .inl c35)), ((r 36), .inl (G.2 0, 260, .inl c36)), ((r 37), .inl (G.2 0, 260, .inl c37)), ((r 38), .inl (G.2 0, 260, .inl c38)), ((r 39), .inl (G.2 0, 260, .inl c39)), ((r 41), .inl (G.2 0, 840, .inl c41)), ((r 42), .inl (G.2 0, 840, .inl c42)), ((r 45), .inl (G.2 0, 9, .inl vF26)), ((r 46), .inl (G.2 0, 400, .inl vF27)), ((r 52), .inl (G.2 0, 6, .inl vF28)), ((r 22), .inl (G.2 0, 2, .inl c22)), ((r 0), .inr (10, (zz_mo r [(0, j0), (2, j2), (4, j4), (10, j10), (11, j11), (12, j12), (13, j13), (14, j14), (15, j15), (16, j16), (17, j17), (18, (nI lv)), (19, j19), (20, j20), (34, j34), (40, j40), (44, j44), (47, vy29), (50, k50_7), (51, k51_8), (56, j56), (61, j61)]))), ((r 31), .inl (G.2 0, 2, .inl c31)), ((r 48), .inl (G.2 0, 71, .inl c48)), ((r 49), .inl (G.2 0, 71, .inl vF30))] H locs → lv_has ls 7 [(5, .int (nI vi10)), (4, .int vy24), (3, .int vy25), (0, .ref (r 0)), (1, .int (nI vq3)), (2, .int (nI vq6))] → W p l e (zz_rm 6 0 0) s m args below meth c H locs (0) (0) Q (F0 m 31 ls []) := by
        intro vn11
        induction vn11 with
        | zero => intro vi10 vy24 vy25 vF26 vF27 vF28 vy29 vF30 H locs ls hi1 hi2; exact absurd hi2 (by omega)
        | succ vn11 ih31 =>
          intro vi10 vy24 vy25 vF26 vF27 vF28 vy29 vF30 H locs ls hi31a hi31b hv31_44 hv31_45 hv31_46 hw hl
          refine lv_iload hx hb dX10_bestHour_31 (lv_at hl 0 rfl) ?_
          refine lv_bipush (v := 24) hx hb dX10_bestHour_33 (by decide) ?_
          refine lv_icmp_ge (tgt := 110) hx hb dX10_bestHour_35 (by decide) (fun c35_48 => ?_) (fun c35_48 => ?_)
          · skip
            have c35_48n : 24 ≤ vi10 := (zz_le (a := 24) (b := vi10) rfl rfl (by omega) (by omega)).mp c35_48
            refine lv_iload_n hx hb dX10_bestHour_110 rfl (lv_at hl 5 rfl) ?_
            refine lv_if_ne (tgt := 118) hx hb dX10_bestHour_111 (by decide) (fun c111_49 => ?_) (fun c111_49 => ?_)
            · skip
              have c111_49n : ¬ (vq6 = 0) := fun z => c111_49 ((zz_eq (a := vq6) (b := 0) rfl rfl (by omega) (by omega)).mpr z)
              refine lv_iload hx hb dX10_bestHour_118 (lv_at hl 1 rfl) ?_
              exact hret _ _ _ _ _ _ ⟨vy24, vy29, k50_7, k51_8, vF26, vF27, vF30, vF28, rfl, rfl, (by first | exact zA0 (fun z => hq2_1 (by assumption) z.1) | exact zA0 (fun z => zz_innI (n := 1) (by omega) hq11_1 (by assumption) z.2) | exact zA1 ⟨⟨_, by assumption, rfl⟩, ⟨_, by omega, rfl⟩⟩ ⟨_, by assumption, rfl, _, hq20_0, _, (zTE_e hv31_46 (by omega)), zP_0 rfl (by assumption)⟩ | exact zA1 ⟨⟨_, by assumption, rfl⟩, ⟨_, by omega, rfl⟩⟩ ⟨_, by assumption, rfl, _, hq20_0, _, (zTE_e hv31_46 (by omega)), zP_1 rfl (by assumption)⟩), (by first | assumption | exact Or.inl rfl | exact Or.inr rfl | omega | exact Or.inr (by assumption) | exact zz_oku (by assumption) (by first | exact Or.inl rfl | exact Or.inr ⟨_, by omega, rfl⟩))⟩ (hw.sub [19, 18, 0, 1, 2, 3, 4, 5, 20, 6, 7, 8, 9, 10, 11, 12, 13, 14, 15, 16, 21, 22, 17] (by decide +kernel) rfl) rfl dX10_bestHour_120
            · skip
              have c111_49n : vq6 = 0 := (zz_eq (a := vq6) (b := 0) rfl rfl (by omega) (by omega)).mp c111_49
              refine lv_iload_n hx hb dX10_bestHour_114 rfl (lv_at hl 2 rfl) ?_
              refine lv_goto (tgt := 120) hx hb dX10_bestHour_115 (by decide) ?_
              exact hret _ _ _ _ _ _ ⟨vy25, vy29, k50_7, k51_8, vF26, vF27, vF30, vF28, rfl, rfl, (by first | exact zA0 (fun z => hq2_1 (by assumption) z.1) | exact zA0 (fun z => zz_innI (n := 1) (by omega) hq11_1 (by assumption) z.2) | exact zA1 ⟨⟨_, by assumption, rfl⟩, ⟨_, by omega, rfl⟩⟩ ⟨_, by assumption, rfl, _, hq20_0, _, (zTE_e hv31_46 (by omega)), zP_0 rfl (by assumption)⟩ | exact zA1 ⟨⟨_, by assumption, rfl⟩, ⟨_, by omega, rfl⟩⟩ ⟨_, by assumption, rfl, _, hq20_0, _, (zTE_e hv31_46 (by omega)), zP_1 rfl (by assumption)⟩), (by first | assumption | exact Or.inl rfl | exact Or.inr rfl | omega | exact Or.inr (by assumption) | exact zz_oku (by assumption) (by first | exact Or.inl rfl | exact Or.inr ⟨_, by omega, rfl⟩))⟩ (hw.sub [19, 18, 0, 1, 2, 3, 4, 5, 20, 6, 7, 8, 9, 10, 11, 12, 13, 14, 15, 16, 21, 22, 17] (by decide +kernel) rfl) rfl dX10_bestHour_120
          · skip
            have c35_48n : ¬ (24 ≤ vi10) := fun z => c35_48 ((zz_le (a := 24) (b := vi10) rfl rfl (by omega) (by omega)).mpr z)
            refine lv_aload_n hx hb dX10_bestHour_38 rfl (lv_at hl 3 rfl) ?_
            refine zz_get (v := .ref (r 49)) S hw fgX10_113 19 rfl rfl dX10_bestHour_39 ?_
            refine lv_iload_n hx hb dX10_bestHour_42 rfl (lv_at hl 4 rfl) ?_
            refine lv_iload hx hb dX10_bestHour_43 (lv_at hl 0 rfl) ?_
            refine zz_iast (ws' := [((r 24), .inl (G.2 0, 14, .inl c24)), ((r 25), .inl (G.2 0, 14, .inl c25)), ((r 26), .inl (G.2 0, 2, .inl c26)), ((r 28), .inl (G.2 0, 12, .inl c28)), ((r 29), .inl (G.2 0, 12, .inl c29)), ((r 30), .inl (G.2 0, 2, .inl c30)), ((r 32), .inl (G.2 0, 8, .inl c32)), ((r 33), .inl (G.2 0, 8, .inl c33)), ((r 35), .inl (G.2 2, 260, .inl c35)), ((r 36), .inl (G.2 0, 260, .inl c36)), ((r 37), .inl (G.2 0, 260, .inl c37)), ((r 38), .inl (G.2 0, 260, .inl c38)), ((r 39), .inl (G.2 0, 260, .inl c39)), ((r 41), .inl (G.2 0, 840, .inl c41)), ((r 42), .inl (G.2 0, 840, .inl c42)), ((r 45), .inl (G.2 0, 9, .inl vF26)), ((r 46), .inl (G.2 0, 400, .inl vF27)), ((r 52), .inl (G.2 0, 6, .inl vF28)), ((r 22), .inl (G.2 0, 2, .inl c22)), ((r 0), .inr (10, (zz_mo r [(0, j0), (2, j2), (4, j4), (10, j10), (11, j11), (12, j12), (13, j13), (14, j14), (15, j15), (16, j16), (17, j17), (18, (nI lv)), (19, j19), (20, j20), (34, j34), (40, j40), (44, j44), (47, vy29), (50, k50_7), (51, k51_8), (56, j56), (61, j61)]))), ((r 31), .inl (G.2 0, 2, .inl c31)), ((r 48), .inl (G.2 0, 71, .inl c48)), ((r 49), .inl (G.2 0, 71, .inl (upd vF30 vq3 (nI vi10))))]) (g := (upd vF30 vq3 (nI vi10))) S hw 22 rfl (vp_in_nI (n := vq3) (by omega) (by decide)) (zz_upn (n := vq3) (by omega)) rfl dX10_bestHour_45 ?_
            clear hw
            intro H locs hw
            refine lv_aload_n hx hb dX10_bestHour_46 rfl (lv_at hl 3 rfl) ?_
            refine W.eq (g2 := F0 m 47 ls [.ref (r 0)]) rfl ?_
            refine zz_callV (qb := 19) (As := []) (rest := []) (wr := [((r 31), .inl (G.2 0, 2, .inl c31)), ((r 48), .inl (G.2 0, 71, .inl c48))]) S hw hl.1 lX10_432 (c_x_sumCast l G r j0 j2 j4 j10 j11 j12 j13 j14 j15 j16 j17 j19 j20 j34 j40 j44 vy29 k50_7 k51_8 j56 j61 lv pp pq c22 c24 c25 c26 c28 c29 c30 c32 c33 c35 c36 c37 c38 c39 c41 c42 vF26 vF27 (upd vF30 vq3 (nI vi10)) vF28 (by first | assumption | omega | exact Or.inr ⟨_, by omega, rfl⟩ | (unfold zz_sok; decide) | decide | exact (fun j hj => (hv7 j hj).1)) (by first | assumption | omega | exact Or.inr ⟨_, by omega, rfl⟩ | (unfold zz_sok; decide) | decide | exact (fun j hj => (hv7 j hj).1)) (by first | assumption | omega | exact Or.inr ⟨_, by omega, rfl⟩ | (unfold zz_sok; decide) | decide | exact (fun j hj => (hv7 j hj).1)) (by first | assumption | omega | exact Or.inr ⟨_, by omega, rfl⟩ | (unfold zz_sok; decide) | decide | exact (fun j hj => (hv7 j hj).1)) (by first | assumption | omega | exact Or.inr ⟨_, by omega, rfl⟩ | (unfold zz_sok; decide) | decide | exact (fun j hj => (hv7 j hj).1)) (by first | assumption | omega | exact Or.inr ⟨_, by omega, rfl⟩ | (unfold zz_sok; decide) | decide | exact (fun j hj => (hv7 j hj).1)) (by first | assumption | omega | exact Or.inr ⟨_, by omega, rfl⟩ | (unfold zz_sok; decide) | decide | exact (fun j hj => (hv7 j hj).1))) ⟨Nat.le_of_ble_eq_true rfl, Nat.le_of_ble_eq_true rfl⟩ ⟨Nat.le_of_ble_eq_true rfl, Nat.le_of_ble_eq_true rfl⟩ [19, 18, 0, 1, 2, 3, 4, 5, 6, 7, 8, 9, 10, 11, 12, 13, 14, 15, 16, 22, 17] [20, 21] (by decide +kernel) rfl rfl (by decide +kernel) (by decide +kernel) rfl rfl rfl rfl (Nat.le_of_ble_eq_true rfl) dX10_bestHour_47 ?_
            clear hw
            intro rr u H locs hp hw
            refine hp.elim fun rv_50 zg0 => zg0.elim fun k47_51 zg1 => zg1.elim fun d45_52 zg2 => zg2.elim fun d46_53 zg3 => zg3.elim fun d52_54 zg4 => zg4.elim fun zee1 zg5 => zg5.elim fun zee2 zg6 => zg6.elim fun hq47_0 hq47_1 => ?_
            clear hp zg0 zg1 zg2 zg3 zg4 zg5 zg6
            subst zee1
            subst zee2
            replace hw : zz_w G A s [((r 31), .inl (G.2 0, 2, .inl c31)), ((r 48), .inl (G.2 0, 71, .inl c48)), ((r 0), .inr (10, (zz_mo r [(0, j0), (2, j2), (4, j4), (10, j10), (11, j11), (12, j12), (13, j13), (14, j14), (15, j15), (16, j16), (17, j17), (18, (nI lv)), (19, j19), (20, j20), (34, j34), (40, j40), (44, j44), (47, k47_51), (50, k50_7), (51, k51_8), (56, j56), (61, j61)]))), ((r 22), .inl (G.2 0, 2, .inl c22)), ((r 24), .inl (G.2 0, 14, .inl c24)), ((r 25), .inl (G.2 0, 14, .inl c25)), ((r 26), .inl (G.2 0, 2, .inl c26)), ((r 28), .inl (G.2 0, 12, .inl c28)), ((r 29), .inl (G.2 0, 12, .inl c29)), ((r 30), .inl (G.2 0, 2, .inl c30)), ((r 32), .inl (G.2 0, 8, .inl c32)), ((r 33), .inl (G.2 0, 8, .inl c33)), ((r 35), .inl (G.2 2, 260, .inl c35)), ((r 36), .inl (G.2 0, 260, .inl c36)), ((r 37), .inl (G.2 0, 260, .inl c37)), ((r 38), .inl (G.2 0, 260, .inl c38)), ((r 39), .inl (G.2 0, 260, .inl c39)), ((r 41), .inl (G.2 0, 840, .inl c41)), ((r 42), .inl (G.2 0, 840, .inl c42)), ((r 45), .inl (G.2 0, 9, .inl d45_52)), ((r 46), .inl (G.2 0, 400, .inl d46_53)), ((r 49), .inl (G.2 0, 71, .inl (upd vF30 vq3 (nI vi10)))), ((r 52), .inl (G.2 0, 6, .inl d52_54))] H _ := hw
            refine W.eq (g2 := F0 m 50 ls [.int rv_50]) rfl ?_
            refine lv_istore (lv' := [(6, .int rv_50), (5, .int (nI vi10)), (4, .int vy24), (3, .int vy25), (0, .ref (r 0)), (1, .int (nI vq3)), (2, .int (nI vq6))]) hx hb dX10_bestHour_50 hl (by decide) rfl (fun ls hl => ?_)
            refine lv_iload_n hx hb dX10_bestHour_52 rfl (lv_at hl 3 rfl) ?_
            refine lv_if_lt (tgt := 97) hx hb dX10_bestHour_53 (by decide) (fun c53_55 => ?_) (fun c53_55 => ?_)
            · skip
              refine lv_iload hx hb dX10_bestHour_97 (lv_at hl 1 rfl) ?_
              refine lv_istore_n (lv' := [(3, .int (nI vi10)), (6, .int rv_50), (5, .int (nI vi10)), (4, .int vy24), (0, .ref (r 0)), (1, .int (nI vq3)), (2, .int (nI vq6))]) hx hb dX10_bestHour_99 rfl hl (by decide) rfl (fun ls hl => ?_)
              refine lv_iload hx hb dX10_bestHour_100 (lv_at hl 1 rfl) ?_
              refine lv_istore (lv' := [(4, .int rv_50), (3, .int (nI vi10)), (6, .int rv_50), (5, .int (nI vi10)), (0, .ref (r 0)), (1, .int (nI vq3)), (2, .int (nI vq6))]) hx hb dX10_bestHour_102 hl (by decide) rfl (fun ls hl => ?_)
              refine lv_iinc (v := (nI (vi10 + 1))) (lv' := [(5, .int (nI (vi10 + 1))), (4, .int rv_50), (3, .int (nI vi10)), (6, .int rv_50), (0, .ref (r 0)), (1, .int (nI vq3)), (2, .int (nI vq6))]) hx hb dX10_bestHour_104 hl (k := 3) rfl (nI_add _ 1) (by decide) rfl (fun ls hl => ?_)
              refine lv_goto (tgt := 31) hx hb dX10_bestHour_107 (by decide) ?_
              exact ih31 (vi10 + 1) rv_50 (nI vi10) d45_52 d46_53 d52_54 k47_51 (upd vF30 vq3 (nI vi10)) _ _ _ (by omega) (by omega) (by first | assumption | omega | exact Or.inl rfl | exact Or.inr ⟨_, by omega, rfl⟩ | exact zz_oku (by assumption) (by first | exact Or.inl rfl | exact Or.inr ⟨_, by omega, rfl⟩)) (zT_uu hv31_45) (by first | exact zUE_y hv31_46 (by rw [← hv31_45]; exact hq47_0) (fun z => z.1 (by assumption)) | exact zUE_y hv31_46 (by rw [← hv31_45]; exact hq47_0) (fun z => z.2.elim (by first | assumption | exact Int32.not_lt.mpr (by assumption)) (fun z => absurd z.1 (by assumption))) | exact zUE_y hv31_46 (by rw [← hv31_45]; exact hq47_0) (fun z => z.2.elim (by first | assumption | exact Int32.not_lt.mpr (by assumption)) (fun z => z.2 (zT_lt hq78_0 hq88_0 (by first | assumption | exact Int32.not_le.mp (by assumption))))) | exact zUE_n hv31_46 (by rw [← hv31_45]; exact hq47_0) ⟨(by first | assumption | exact Int32.not_lt.mpr (by assumption)), Or.inl (by assumption)⟩ | exact zUE_n hv31_46 (by rw [← hv31_45]; exact hq47_0) ⟨(by first | assumption | exact Int32.not_lt.mpr (by assumption)), Or.inr ⟨by assumption, zT_nl hq78_0 hq88_0 (by first | assumption | exact Int32.not_lt.mpr (by assumption))⟩⟩) (hw.sub [4, 5, 6, 7, 8, 9, 10, 11, 12, 13, 14, 15, 16, 17, 18, 19, 20, 22, 3, 2, 0, 1, 21] (by decide +kernel) rfl) (lv_sub hl [0, 1, 2, 4, 5, 6] rfl)
            · skip
              refine lv_iload hx hb dX10_bestHour_56 (lv_at hl 0 rfl) ?_
              refine lv_iload hx hb dX10_bestHour_58 (lv_at hl 2 rfl) ?_
              refine lv_icmp_lt (tgt := 104) hx hb dX10_bestHour_60 (by decide) (fun c60_56 => ?_) (fun c60_56 => ?_)
              · skip
                refine lv_iinc (v := (nI (vi10 + 1))) (lv' := [(5, .int (nI (vi10 + 1))), (6, .int rv_50), (4, .int vy24), (3, .int vy25), (0, .ref (r 0)), (1, .int (nI vq3)), (2, .int (nI vq6))]) hx hb dX10_bestHour_104 hl (k := 1) rfl (nI_add _ 1) (by decide) rfl (fun ls hl => ?_)
                refine lv_goto (tgt := 31) hx hb dX10_bestHour_107 (by decide) ?_
                exact ih31 (vi10 + 1) vy24 vy25 d45_52 d46_53 d52_54 k47_51 (upd vF30 vq3 (nI vi10)) _ _ _ (by omega) (by omega) (by first | assumption | omega | exact Or.inl rfl | exact Or.inr ⟨_, by omega, rfl⟩ | exact zz_oku (by assumption) (by first | exact Or.inl rfl | exact Or.inr ⟨_, by omega, rfl⟩)) (zT_uu hv31_45) (by first | exact zUE_y hv31_46 (by rw [← hv31_45]; exact hq47_0) (fun z => z.1 (by assumption)) | exact zUE_y hv31_46 (by rw [← hv31_45]; exact hq47_0) (fun z => z.2.elim (by first | assumption | exact Int32.not_lt.mpr (by assumption)) (fun z => absurd z.1 (by assumption))) | exact zUE_y hv31_46 (by rw [← hv31_45]; exact hq47_0) (fun z => z.2.elim (by first | assumption | exact Int32.not_lt.mpr (by assumption)) (fun z => z.2 (zT_lt hq78_0 hq88_0 (by first | assumption | exact Int32.not_le.mp (by assumption))))) | exact zUE_n hv31_46 (by rw [← hv31_45]; exact hq47_0) ⟨(by first | assumption | exact Int32.not_lt.mpr (by assumption)), Or.inl (by assumption)⟩ | exact zUE_n hv31_46 (by rw [← hv31_45]; exact hq47_0) ⟨(by first | assumption | exact Int32.not_lt.mpr (by assumption)), Or.inr ⟨by assumption, zT_nl hq78_0 hq88_0 (by first | assumption | exact Int32.not_lt.mpr (by assumption))⟩⟩) (hw.sub [4, 5, 6, 7, 8, 9, 10, 11, 12, 13, 14, 15, 16, 17, 18, 19, 20, 22, 3, 2, 0, 1, 21] (by decide +kernel) rfl) (lv_sub hl [0, 2, 3, 4, 5, 6] rfl)
              · skip
                refine lv_iload hx hb dX10_bestHour_63 (lv_at hl 0 rfl) ?_
                refine W.eq (g2 := F0 m 65 ls [.int rv_50]) rfl ?_
                refine lv_iload hx hb dX10_bestHour_65 (lv_at hl 2 rfl) ?_
                refine lv_icmp_ne (tgt := 97) hx hb dX10_bestHour_67 (by decide) (fun c67_57 => ?_) (fun c67_57 => ?_)
                · skip
                  refine lv_iload hx hb dX10_bestHour_97 (lv_at hl 1 rfl) ?_
                  refine lv_istore_n (lv' := [(3, .int (nI vi10)), (6, .int rv_50), (5, .int (nI vi10)), (4, .int vy24), (0, .ref (r 0)), (1, .int (nI vq3)), (2, .int (nI vq6))]) hx hb dX10_bestHour_99 rfl hl (by decide) rfl (fun ls hl => ?_)
                  refine lv_iload hx hb dX10_bestHour_100 (lv_at hl 1 rfl) ?_
                  refine lv_istore (lv' := [(4, .int rv_50), (3, .int (nI vi10)), (6, .int rv_50), (5, .int (nI vi10)), (0, .ref (r 0)), (1, .int (nI vq3)), (2, .int (nI vq6))]) hx hb dX10_bestHour_102 hl (by decide) rfl (fun ls hl => ?_)
                  refine lv_iinc (v := (nI (vi10 + 1))) (lv' := [(5, .int (nI (vi10 + 1))), (4, .int rv_50), (3, .int (nI vi10)), (6, .int rv_50), (0, .ref (r 0)), (1, .int (nI vq3)), (2, .int (nI vq6))]) hx hb dX10_bestHour_104 hl (k := 3) rfl (nI_add _ 1) (by decide) rfl (fun ls hl => ?_)
                  refine lv_goto (tgt := 31) hx hb dX10_bestHour_107 (by decide) ?_
                  exact ih31 (vi10 + 1) rv_50 (nI vi10) d45_52 d46_53 d52_54 k47_51 (upd vF30 vq3 (nI vi10)) _ _ _ (by omega) (by omega) (by first | assumption | omega | exact Or.inl rfl | exact Or.inr ⟨_, by omega, rfl⟩ | exact zz_oku (by assumption) (by first | exact Or.inl rfl | exact Or.inr ⟨_, by omega, rfl⟩)) (zT_uu hv31_45) (by first | exact zUE_y hv31_46 (by rw [← hv31_45]; exact hq47_0) (fun z => z.1 (by assumption)) | exact zUE_y hv31_46 (by rw [← hv31_45]; exact hq47_0) (fun z => z.2.elim (by first | assumption | exact Int32.not_lt.mpr (by assumption)) (fun z => absurd z.1 (by assumption))) | exact zUE_y hv31_46 (by rw [← hv31_45]; exact hq47_0) (fun z => z.2.elim (by first | assumption | exact Int32.not_lt.mpr (by assumption)) (fun z => z.2 (zT_lt hq78_0 hq88_0 (by first | assumption | exact Int32.not_le.mp (by assumption))))) | exact zUE_n hv31_46 (by rw [← hv31_45]; exact hq47_0) ⟨(by first | assumption | exact Int32.not_lt.mpr (by assumption)), Or.inl (by assumption)⟩ | exact zUE_n hv31_46 (by rw [← hv31_45]; exact hq47_0) ⟨(by first | assumption | exact Int32.not_lt.mpr (by assumption)), Or.inr ⟨by assumption, zT_nl hq78_0 hq88_0 (by first | assumption | exact Int32.not_lt.mpr (by assumption))⟩⟩) (hw.sub [4, 5, 6, 7, 8, 9, 10, 11, 12, 13, 14, 15, 16, 17, 18, 19, 20, 22, 3, 2, 0, 1, 21] (by decide +kernel) rfl) (lv_sub hl [0, 1, 2, 4, 5, 6] rfl)
                · skip
                  refine lv_iload hx hb dX10_bestHour_70 (lv_at hl 1 rfl) ?_
                  refine lv_aload_n hx hb dX10_bestHour_72 rfl (lv_at hl 4 rfl) ?_
                  refine zz_get (v := .ref (r 48)) S hw fgX10_110 2 rfl rfl dX10_bestHour_73 ?_
                  refine lv_iload_n hx hb dX10_bestHour_76 rfl (lv_at hl 5 rfl) ?_
                  refine zz_iald (v := (c48 vq3)) S hw 1 rfl (vp_in_nI (n := vq3) (by omega) (by decide)) (congrArg c48 (nI_clamp (n := vq3) (by omega))) dX10_bestHour_77 ?_
                  refine zz_callS (As := [.int (nI vi10), .int (c48 vq3)]) (rest := []) (wr := [((r 31), .inl (G.2 0, 2, .inl c31)), ((r 48), .inl (G.2 0, 71, .inl c48)), ((r 0), .inr (10, (zz_mo r [(0, j0), (2, j2), (4, j4), (10, j10), (11, j11), (12, j12), (13, j13), (14, j14), (15, j15), (16, j16), (17, j17), (18, (nI lv)), (19, j19), (20, j20), (34, j34), (40, j40), (44, j44), (47, k47_51), (50, k50_7), (51, k51_8), (56, j56), (61, j61)]))), ((r 22), .inl (G.2 0, 2, .inl c22)), ((r 24), .inl (G.2 0, 14, .inl c24)), ((r 25), .inl (G.2 0, 14, .inl c25)), ((r 26), .inl (G.2 0, 2, .inl c26)), ((r 28), .inl (G.2 0, 12, .inl c28)), ((r 29), .inl (G.2 0, 12, .inl c29)), ((r 30), .inl (G.2 0, 2, .inl c30)), ((r 32), .inl (G.2 0, 8, .inl c32)), ((r 33), .inl (G.2 0, 8, .inl c33)), ((r 35), .inl (G.2 2, 260, .inl c35)), ((r 36), .inl (G.2 0, 260, .inl c36)), ((r 37), .inl (G.2 0, 260, .inl c37)), ((r 38), .inl (G.2 0, 260, .inl c38)), ((r 39), .inl (G.2 0, 260, .inl c39)), ((r 41), .inl (G.2 0, 840, .inl c41)), ((r 42), .inl (G.2 0, 840, .inl c42)), ((r 45), .inl (G.2 0, 9, .inl d45_52)), ((r 46), .inl (G.2 0, 400, .inl d46_53)), ((r 49), .inl (G.2 0, 71, .inl (upd vF30 vq3 (nI vi10)))), ((r 52), .inl (G.2 0, 6, .inl d52_54))]) S hw hl.1 lX10_330 (c_x_roundOff l G (nI vi10) (c48 vq3)) ⟨Nat.le_of_ble_eq_true rfl, Nat.le_of_ble_eq_true rfl⟩ ⟨Nat.le_of_ble_eq_true rfl, Nat.le_of_ble_eq_true rfl⟩ [] [0, 1, 2, 3, 4, 5, 6, 7, 8, 9, 10, 11, 12, 13, 14, 15, 16, 17, 18, 19, 20, 21, 22] (by decide +kernel) rfl rfl (by decide +kernel) (by decide +kernel) rfl rfl (Nat.le_of_ble_eq_true rfl) dX10_bestHour_78 ?_
                  clear hw
                  intro rr u H locs hp hw
                  refine hp.elim fun rv_58 zg0 => zg0.elim fun zee1 zg1 => zg1.elim fun zee2 hq78_0 => ?_
                  clear hp zg0 zg1
                  subst zee1
                  subst zee2
                  replace hw : zz_w G A s [((r 31), .inl (G.2 0, 2, .inl c31)), ((r 48), .inl (G.2 0, 71, .inl c48)), ((r 0), .inr (10, (zz_mo r [(0, j0), (2, j2), (4, j4), (10, j10), (11, j11), (12, j12), (13, j13), (14, j14), (15, j15), (16, j16), (17, j17), (18, (nI lv)), (19, j19), (20, j20), (34, j34), (40, j40), (44, j44), (47, k47_51), (50, k50_7), (51, k51_8), (56, j56), (61, j61)]))), ((r 22), .inl (G.2 0, 2, .inl c22)), ((r 24), .inl (G.2 0, 14, .inl c24)), ((r 25), .inl (G.2 0, 14, .inl c25)), ((r 26), .inl (G.2 0, 2, .inl c26)), ((r 28), .inl (G.2 0, 12, .inl c28)), ((r 29), .inl (G.2 0, 12, .inl c29)), ((r 30), .inl (G.2 0, 2, .inl c30)), ((r 32), .inl (G.2 0, 8, .inl c32)), ((r 33), .inl (G.2 0, 8, .inl c33)), ((r 35), .inl (G.2 2, 260, .inl c35)), ((r 36), .inl (G.2 0, 260, .inl c36)), ((r 37), .inl (G.2 0, 260, .inl c37)), ((r 38), .inl (G.2 0, 260, .inl c38)), ((r 39), .inl (G.2 0, 260, .inl c39)), ((r 41), .inl (G.2 0, 840, .inl c41)), ((r 42), .inl (G.2 0, 840, .inl c42)), ((r 45), .inl (G.2 0, 9, .inl d45_52)), ((r 46), .inl (G.2 0, 400, .inl d46_53)), ((r 49), .inl (G.2 0, 71, .inl (upd vF30 vq3 (nI vi10)))), ((r 52), .inl (G.2 0, 6, .inl d52_54))] H _ := hw
                  refine W.eq (g2 := F0 m 81 ls [.int rv_58]) rfl ?_
                  refine lv_iload_n hx hb dX10_bestHour_81 rfl (lv_at hl 3 rfl) ?_
                  refine W.eq (g2 := F0 m 82 ls [.int vy25, .int rv_58]) rfl ?_
                  refine lv_aload_n hx hb dX10_bestHour_82 rfl (lv_at hl 4 rfl) ?_
                  refine zz_get (v := .ref (r 48)) S hw fgX10_110 2 rfl rfl dX10_bestHour_83 ?_
                  refine lv_iload_n hx hb dX10_bestHour_86 rfl (lv_at hl 5 rfl) ?_
                  refine zz_iald (v := (c48 vq3)) S hw 1 rfl (vp_in_nI (n := vq3) (by omega) (by decide)) (congrArg c48 (nI_clamp (n := vq3) (by omega))) dX10_bestHour_87 ?_
                  refine zz_callS (As := [.int vy25, .int (c48 vq3)]) (rest := [.int rv_58]) (wr := [((r 31), .inl (G.2 0, 2, .inl c31)), ((r 48), .inl (G.2 0, 71, .inl c48)), ((r 0), .inr (10, (zz_mo r [(0, j0), (2, j2), (4, j4), (10, j10), (11, j11), (12, j12), (13, j13), (14, j14), (15, j15), (16, j16), (17, j17), (18, (nI lv)), (19, j19), (20, j20), (34, j34), (40, j40), (44, j44), (47, k47_51), (50, k50_7), (51, k51_8), (56, j56), (61, j61)]))), ((r 22), .inl (G.2 0, 2, .inl c22)), ((r 24), .inl (G.2 0, 14, .inl c24)), ((r 25), .inl (G.2 0, 14, .inl c25)), ((r 26), .inl (G.2 0, 2, .inl c26)), ((r 28), .inl (G.2 0, 12, .inl c28)), ((r 29), .inl (G.2 0, 12, .inl c29)), ((r 30), .inl (G.2 0, 2, .inl c30)), ((r 32), .inl (G.2 0, 8, .inl c32)), ((r 33), .inl (G.2 0, 8, .inl c33)), ((r 35), .inl (G.2 2, 260, .inl c35)), ((r 36), .inl (G.2 0, 260, .inl c36)), ((r 37), .inl (G.2 0, 260, .inl c37)), ((r 38), .inl (G.2 0, 260, .inl c38)), ((r 39), .inl (G.2 0, 260, .inl c39)), ((r 41), .inl (G.2 0, 840, .inl c41)), ((r 42), .inl (G.2 0, 840, .inl c42)), ((r 45), .inl (G.2 0, 9, .inl d45_52)), ((r 46), .inl (G.2 0, 400, .inl d46_53)), ((r 49), .inl (G.2 0, 71, .inl (upd vF30 vq3 (nI vi10)))), ((r 52), .inl (G.2 0, 6, .inl d52_54))]) S hw hl.1 lX10_330 (c_x_roundOff l G vy25 (c48 vq3)) ⟨Nat.le_of_ble_eq_true rfl, Nat.le_of_ble_eq_true rfl⟩ ⟨Nat.le_of_ble_eq_true rfl, Nat.le_of_ble_eq_true rfl⟩ [] [0, 1, 2, 3, 4, 5, 6, 7, 8, 9, 10, 11, 12, 13, 14, 15, 16, 17, 18, 19, 20, 21, 22] (by decide +kernel) rfl rfl (by decide +kernel) (by decide +kernel) rfl rfl (Nat.le_of_ble_eq_true rfl) dX10_bestHour_88 ?_
                  clear hw
                  intro rr u H locs hp hw
                  refine hp.elim fun rv_59 zg0 => zg0.elim fun zee1 zg1 => zg1.elim fun zee2 hq88_0 => ?_
                  clear hp zg0 zg1
                  subst zee1
                  subst zee2
                  replace hw : zz_w G A s [((r 31), .inl (G.2 0, 2, .inl c31)), ((r 48), .inl (G.2 0, 71, .inl c48)), ((r 0), .inr (10, (zz_mo r [(0, j0), (2, j2), (4, j4), (10, j10), (11, j11), (12, j12), (13, j13), (14, j14), (15, j15), (16, j16), (17, j17), (18, (nI lv)), (19, j19), (20, j20), (34, j34), (40, j40), (44, j44), (47, k47_51), (50, k50_7), (51, k51_8), (56, j56), (61, j61)]))), ((r 22), .inl (G.2 0, 2, .inl c22)), ((r 24), .inl (G.2 0, 14, .inl c24)), ((r 25), .inl (G.2 0, 14, .inl c25)), ((r 26), .inl (G.2 0, 2, .inl c26)), ((r 28), .inl (G.2 0, 12, .inl c28)), ((r 29), .inl (G.2 0, 12, .inl c29)), ((r 30), .inl (G.2 0, 2, .inl c30)), ((r 32), .inl (G.2 0, 8, .inl c32)), ((r 33), .inl (G.2 0, 8, .inl c33)), ((r 35), .inl (G.2 2, 260, .inl c35)), ((r 36), .inl (G.2 0, 260, .inl c36)), ((r 37), .inl (G.2 0, 260, .inl c37)), ((r 38), .inl (G.2 0, 260, .inl c38)), ((r 39), .inl (G.2 0, 260, .inl c39)), ((r 41), .inl (G.2 0, 840, .inl c41)), ((r 42), .inl (G.2 0, 840, .inl c42)), ((r 45), .inl (G.2 0, 9, .inl d45_52)), ((r 46), .inl (G.2 0, 400, .inl d46_53)), ((r 49), .inl (G.2 0, 71, .inl (upd vF30 vq3 (nI vi10)))), ((r 52), .inl (G.2 0, 6, .inl d52_54))] H _ := hw
                  refine W.eq (g2 := F0 m 91 ls [.int rv_59, .int rv_58]) rfl ?_
                  refine lv_icmp_lt (tgt := 97) hx hb dX10_bestHour_91 (by decide) (fun c91_60 => ?_) (fun c91_60 => ?_)
                  · skip
                    refine lv_iload hx hb dX10_bestHour_97 (lv_at hl 1 rfl) ?_
                    refine lv_istore_n (lv' := [(3, .int (nI vi10)), (6, .int rv_50), (5, .int (nI vi10)), (4, .int vy24), (0, .ref (r 0)), (1, .int (nI vq3)), (2, .int (nI vq6))]) hx hb dX10_bestHour_99 rfl hl (by decide) rfl (fun ls hl => ?_)
                    refine lv_iload hx hb dX10_bestHour_100 (lv_at hl 1 rfl) ?_
                    refine lv_istore (lv' := [(4, .int rv_50), (3, .int (nI vi10)), (6, .int rv_50), (5, .int (nI vi10)), (0, .ref (r 0)), (1, .int (nI vq3)), (2, .int (nI vq6))]) hx hb dX10_bestHour_102 hl (by decide) rfl (fun ls hl => ?_)
                    refine lv_iinc (v := (nI (vi10 + 1))) (lv' := [(5, .int (nI (vi10 + 1))), (4, .int rv_50), (3, .int (nI vi10)), (6, .int rv_50), (0, .ref (r 0)), (1, .int (nI vq3)), (2, .int (nI vq6))]) hx hb dX10_bestHour_104 hl (k := 3) rfl (nI_add _ 1) (by decide) rfl (fun ls hl => ?_)
                    refine lv_goto (tgt := 31) hx hb dX10_bestHour_107 (by decide) ?_
                    exact ih31 (vi10 + 1) rv_50 (nI vi10) d45_52 d46_53 d52_54 k47_51 (upd vF30 vq3 (nI vi10)) _ _ _ (by omega) (by omega) (by first | assumption | omega | exact Or.inl rfl | exact Or.inr ⟨_, by omega, rfl⟩ | exact zz_oku (by assumption) (by first | exact Or.inl rfl | exact Or.inr ⟨_, by omega, rfl⟩)) (zT_uu hv31_45) (by first | exact zUE_y hv31_46 (by rw [← hv31_45]; exact hq47_0) (fun z => z.1 (by assumption)) | exact zUE_y hv31_46 (by rw [← hv31_45]; exact hq47_0) (fun z => z.2.elim (by first | assumption | exact Int32.not_lt.mpr (by assumption)) (fun z => absurd z.1 (by assumption))) | exact zUE_y hv31_46 (by rw [← hv31_45]; exact hq47_0) (fun z => z.2.elim (by first | assumption | exact Int32.not_lt.mpr (by assumption)) (fun z => z.2 (zT_lt hq78_0 hq88_0 (by first | assumption | exact Int32.not_le.mp (by assumption))))) | exact zUE_n hv31_46 (by rw [← hv31_45]; exact hq47_0) ⟨(by first | assumption | exact Int32.not_lt.mpr (by assumption)), Or.inl (by assumption)⟩ | exact zUE_n hv31_46 (by rw [← hv31_45]; exact hq47_0) ⟨(by first | assumption | exact Int32.not_lt.mpr (by assumption)), Or.inr ⟨by assumption, zT_nl hq78_0 hq88_0 (by first | assumption | exact Int32.not_lt.mpr (by assumption))⟩⟩) (hw.sub [4, 5, 6, 7, 8, 9, 10, 11, 12, 13, 14, 15, 16, 17, 18, 19, 20, 22, 3, 2, 0, 1, 21] (by decide +kernel) rfl) (lv_sub hl [0, 1, 2, 4, 5, 6] rfl)
                  · skip
                    refine lv_goto (tgt := 104) hx hb dX10_bestHour_94 (by decide) ?_
                    refine lv_iinc (v := (nI (vi10 + 1))) (lv' := [(5, .int (nI (vi10 + 1))), (6, .int rv_50), (4, .int vy24), (3, .int vy25), (0, .ref (r 0)), (1, .int (nI vq3)), (2, .int (nI vq6))]) hx hb dX10_bestHour_104 hl (k := 1) rfl (nI_add _ 1) (by decide) rfl (fun ls hl => ?_)
                    refine lv_goto (tgt := 31) hx hb dX10_bestHour_107 (by decide) ?_
                    refine W.eq (g2 := F0 m 31 ls []) rfl ?_
                    exact ih31 (vi10 + 1) vy24 vy25 d45_52 d46_53 d52_54 k47_51 (upd vF30 vq3 (nI vi10)) _ _ _ (by omega) (by omega) (by first | assumption | omega | exact Or.inl rfl | exact Or.inr ⟨_, by omega, rfl⟩ | exact zz_oku (by assumption) (by first | exact Or.inl rfl | exact Or.inr ⟨_, by omega, rfl⟩)) (zT_uu hv31_45) (by first | exact zUE_y hv31_46 (by rw [← hv31_45]; exact hq47_0) (fun z => z.1 (by assumption)) | exact zUE_y hv31_46 (by rw [← hv31_45]; exact hq47_0) (fun z => z.2.elim (by first | assumption | exact Int32.not_lt.mpr (by assumption)) (fun z => absurd z.1 (by assumption))) | exact zUE_y hv31_46 (by rw [← hv31_45]; exact hq47_0) (fun z => z.2.elim (by first | assumption | exact Int32.not_lt.mpr (by assumption)) (fun z => z.2 (zT_lt hq78_0 hq88_0 (by first | assumption | exact Int32.not_le.mp (by assumption))))) | exact zUE_n hv31_46 (by rw [← hv31_45]; exact hq47_0) ⟨(by first | assumption | exact Int32.not_lt.mpr (by assumption)), Or.inl (by assumption)⟩ | exact zUE_n hv31_46 (by rw [← hv31_45]; exact hq47_0) ⟨(by first | assumption | exact Int32.not_lt.mpr (by assumption)), Or.inr ⟨by assumption, zT_nl hq78_0 hq88_0 (by first | assumption | exact Int32.not_lt.mpr (by assumption))⟩⟩) (hw.sub [4, 5, 6, 7, 8, 9, 10, 11, 12, 13, 14, 15, 16, 17, 18, 19, 20, 22, 3, 2, 0, 1, 21] (by decide +kernel) rfl) (lv_sub hl [0, 2, 3, 4, 5, 6] rfl)
      exact lp31_47 (24 + 1 - 0) 0 0 (-1) c45 c46 c52 j47 d49_9 _ _ _ (by omega) (by omega) (by first | assumption | omega | exact Or.inl rfl | exact Or.inr ⟨_, by omega, rfl⟩ | exact zz_oku (by assumption) (by first | exact Or.inl rfl | exact Or.inr ⟨_, by omega, rfl⟩)) (fun _ => rfl) zUE_0 hw (lv_sub hl [0, 1, 2, 3, 4, 5] rfl)
    · skip
      refine lv_iconst (v := (-1)) hx hb dX10_bestHour_17 (by decide) ?_
      exact hret _ _ _ _ _ _ ⟨(-1), j47, j50, j51, c45, c46, c49, c52, rfl, rfl, (by first | exact zA0 (fun z => hq2_1 (by assumption) z.1) | exact zA0 (fun z => zz_innI (n := 1) (by omega) hq11_1 (by assumption) z.2) | exact zA1 ⟨⟨_, by assumption, rfl⟩, ⟨_, by omega, rfl⟩⟩ ⟨_, by assumption, rfl, _, hq20_0, _, (zTE_e hdry (by omega)), zP_0 rfl (by assumption)⟩ | exact zA1 ⟨⟨_, by assumption, rfl⟩, ⟨_, by omega, rfl⟩⟩ ⟨_, by assumption, rfl, _, hq20_0, _, (zTE_e hdry (by omega)), zP_1 rfl (by assumption)⟩), (by first | assumption | exact Or.inl rfl | exact Or.inr rfl | omega | exact Or.inr (by assumption) | exact zz_oku (by assumption) (by first | exact Or.inl rfl | exact Or.inr ⟨_, by omega, rfl⟩))⟩ (hw.sub [21, 22, 0, 1, 2, 3, 4, 5, 6, 7, 8, 9, 10, 11, 12, 13, 14, 15, 16, 17, 18, 19, 20] (by decide +kernel) rfl) rfl dX10_bestHour_18
theorem kd_ncX10_trade : kd_ck 2311386462602083154938954555798602383083043177715636480124507066365359293385008709487825329968106986925061982353168521367729034065109348775589209519489948458 65 cX10_trade.data.toList 0 = true := by decide +kernel
theorem dX10_trade_0 : decode cX10_trade 0 = .ok (.aload_n 0, 1) := kd_dk0 kd_o42 kd_ncX10_trade rfl
theorem dX10_trade_1 : decode cX10_trade 1 = .ok (.iload_n 1, 1) := kd_dk0 kd_o27 kd_ncX10_trade rfl
theorem dX10_trade_2 : decode cX10_trade 2 = .ok (.invokevirtual 373, 3) := kd_dk2 kd_o182 kd_ncX10_trade rfl
theorem dX10_trade_5 : decode cX10_trade 5 = .ok (.ifCond .eq 16, 3) := kd_dj2 kd_o153 (w := 16) kd_ncX10_trade rfl rfl
theorem dX10_trade_8 : decode cX10_trade 8 = .ok (.aload_n 0, 1) := kd_dk0 kd_o42 kd_ncX10_trade rfl
theorem dX10_trade_9 : decode cX10_trade 9 = .ok (.iload_n 2, 1) := kd_dk0 kd_o28 kd_ncX10_trade rfl
theorem dX10_trade_10 : decode cX10_trade 10 = .ok (.invokevirtual 373, 3) := kd_dk2 kd_o182 kd_ncX10_trade rfl
theorem dX10_trade_13 : decode cX10_trade 13 = .ok (.ifCond .eq 8, 3) := kd_dj2 kd_o153 (w := 8) kd_ncX10_trade rfl rfl
theorem dX10_trade_16 : decode cX10_trade 16 = .ok (.iload_n 1, 1) := kd_dk0 kd_o27 kd_ncX10_trade rfl
theorem dX10_trade_17 : decode cX10_trade 17 = .ok (.iload_n 2, 1) := kd_dk0 kd_o28 kd_ncX10_trade rfl
theorem dX10_trade_18 : decode cX10_trade 18 = .ok (.if_icmp .ne 7, 3) := kd_dj2 kd_o160 (w := 7) kd_ncX10_trade rfl rfl
theorem dX10_trade_21 : decode cX10_trade 21 = .ok (.ldc_w 435, 3) := kd_dk2 kd_o19 kd_ncX10_trade rfl
theorem dX10_trade_24 : decode cX10_trade 24 = .ok (.ireturn, 1) := kd_dk0 kd_o172 kd_ncX10_trade rfl
theorem dX10_trade_25 : decode cX10_trade 25 = .ok (.aload_n 0, 1) := kd_dk0 kd_o42 kd_ncX10_trade rfl
theorem dX10_trade_26 : decode cX10_trade 26 = .ok (.invokevirtual 323, 3) := kd_dk2 kd_o182 kd_ncX10_trade rfl
theorem dX10_trade_29 : decode cX10_trade 29 = .ok (.aload_n 0, 1) := kd_dk0 kd_o42 kd_ncX10_trade rfl
theorem dX10_trade_30 : decode cX10_trade 30 = .ok (.invokevirtual 432, 3) := kd_dk2 kd_o182 kd_ncX10_trade rfl
theorem dX10_trade_33 : decode cX10_trade 33 = .ok (.istore_n 3, 1) := kd_dk0 kd_o62 kd_ncX10_trade rfl
theorem dX10_trade_34 : decode cX10_trade 34 = .ok (.aload_n 0, 1) := kd_dk0 kd_o42 kd_ncX10_trade rfl
theorem dX10_trade_35 : decode cX10_trade 35 = .ok (.getfield 113, 3) := kd_dk2 kd_o180 kd_ncX10_trade rfl
theorem dX10_trade_38 : decode cX10_trade 38 = .ok (.iload_n 1, 1) := kd_dk0 kd_o27 kd_ncX10_trade rfl
theorem dX10_trade_39 : decode cX10_trade 39 = .ok (.aload_n 0, 1) := kd_dk0 kd_o42 kd_ncX10_trade rfl
theorem dX10_trade_40 : decode cX10_trade 40 = .ok (.getfield 110, 3) := kd_dk2 kd_o180 kd_ncX10_trade rfl
theorem dX10_trade_43 : decode cX10_trade 43 = .ok (.iload_n 2, 1) := kd_dk0 kd_o28 kd_ncX10_trade rfl
theorem dX10_trade_44 : decode cX10_trade 44 = .ok (.iaload, 1) := kd_dk0 kd_o46 kd_ncX10_trade rfl
theorem dX10_trade_45 : decode cX10_trade 45 = .ok (.iastore, 1) := kd_dk0 kd_o79 kd_ncX10_trade rfl
theorem dX10_trade_46 : decode cX10_trade 46 = .ok (.aload_n 0, 1) := kd_dk0 kd_o42 kd_ncX10_trade rfl
theorem dX10_trade_47 : decode cX10_trade 47 = .ok (.getfield 113, 3) := kd_dk2 kd_o180 kd_ncX10_trade rfl
theorem dX10_trade_50 : decode cX10_trade 50 = .ok (.iload_n 2, 1) := kd_dk0 kd_o28 kd_ncX10_trade rfl
theorem dX10_trade_51 : decode cX10_trade 51 = .ok (.aload_n 0, 1) := kd_dk0 kd_o42 kd_ncX10_trade rfl
theorem dX10_trade_52 : decode cX10_trade 52 = .ok (.getfield 110, 3) := kd_dk2 kd_o180 kd_ncX10_trade rfl
theorem dX10_trade_55 : decode cX10_trade 55 = .ok (.iload_n 1, 1) := kd_dk0 kd_o27 kd_ncX10_trade rfl
theorem dX10_trade_56 : decode cX10_trade 56 = .ok (.iaload, 1) := kd_dk0 kd_o46 kd_ncX10_trade rfl
theorem dX10_trade_57 : decode cX10_trade 57 = .ok (.iastore, 1) := kd_dk0 kd_o79 kd_ncX10_trade rfl
theorem dX10_trade_58 : decode cX10_trade 58 = .ok (.aload_n 0, 1) := kd_dk0 kd_o42 kd_ncX10_trade rfl
theorem dX10_trade_59 : decode cX10_trade 59 = .ok (.invokevirtual 432, 3) := kd_dk2 kd_o182 kd_ncX10_trade rfl
theorem dX10_trade_62 : decode cX10_trade 62 = .ok (.iload_n 3, 1) := kd_dk0 kd_o29 kd_ncX10_trade rfl
theorem dX10_trade_63 : decode cX10_trade 63 = .ok (.isub, 1) := kd_dk0 kd_o100 kd_ncX10_trade rfl
theorem dX10_trade_64 : decode cX10_trade 64 = .ok (.ireturn, 1) := kd_dk0 kd_o172 kd_ncX10_trade rfl
set_option maxHeartbeats 8000000 in
set_option maxRecDepth 100000 in
theorem c_x_trade (l : Launch) (G : zz_G) (r : Nat → Nat) (j0 : Int32) (j2 : Int32) (j4 : Int32) (j10 : Int32) (j11 : Int32) (j12 : Int32) (j13 : Int32) (j14 : Int32) (j15 : Int32) (j16 : Int32) (j17 : Int32) (j19 : Int32) (j20 : Int32) (j34 : Int32) (j40 : Int32) (j44 : Int32) (j47 : Int32) (j50 : Int32) (j51 : Int32) (j56 : Int32) (j61 : Int32) (lv : Nat) (pp : Nat) (pq : Nat) (c22 : Nat → Int32) (c24 : Nat → Int32) (c25 : Nat → Int32) (c26 : Nat → Int32) (c28 : Nat → Int32) (c29 : Nat → Int32) (c30 : Nat → Int32) (c31 : Nat → Int32) (c32 : Nat → Int32) (c33 : Nat → Int32) (c35 : Nat → Int32) (c36 : Nat → Int32) (c37 : Nat → Int32) (c38 : Nat → Int32) (c39 : Nat → Int32) (c41 : Nat → Int32) (c42 : Nat → Int32) (c45 : Nat → Int32) (c46 : Nat → Int32) (c48 : Nat → Int32) (c49 : Nat → Int32) (c52 : Nat → Int32) (ar1 : Int32) (ar2 : Int32) (hlv : lv ≤ 1) (hpe : c22 lv = nI pp) (hpp : pp ≤ 7) (hpa : c26 lv = nI pq) (hpq : pq ≤ 6) (hlw : zz_LW 2 0 0 c32 c33 c35 c36 c37 c38 c39 c41 c42) (hca : ∀ j, j < 6 → zz_ok 7 (c52 j)) : zz_M l G mX10_trade 6 0 0 [.ref (r 0), .int ar1, .int ar2] [((r 0), .inr (10, (zz_mo r [(0, j0), (2, j2), (4, j4), (10, j10), (11, j11), (12, j12), (13, j13), (14, j14), (15, j15), (16, j16), (17, j17), (18, (nI lv)), (19, j19), (20, j20), (34, j34), (40, j40), (44, j44), (47, j47), (50, j50), (51, j51), (56, j56), (61, j61)]))), ((r 22), .inl (G.2 0, 2, .inl c22)), ((r 24), .inl (G.2 0, 14, .inl c24)), ((r 25), .inl (G.2 0, 14, .inl c25)), ((r 26), .inl (G.2 0, 2, .inl c26)), ((r 28), .inl (G.2 0, 12, .inl c28)), ((r 29), .inl (G.2 0, 12, .inl c29)), ((r 30), .inl (G.2 0, 2, .inl c30)), ((r 31), .inl (G.2 0, 2, .inl c31)), ((r 32), .inl (G.2 0, 8, .inl c32)), ((r 33), .inl (G.2 0, 8, .inl c33)), ((r 35), .inl (G.2 2, 260, .inl c35)), ((r 36), .inl (G.2 0, 260, .inl c36)), ((r 37), .inl (G.2 0, 260, .inl c37)), ((r 38), .inl (G.2 0, 260, .inl c38)), ((r 39), .inl (G.2 0, 260, .inl c39)), ((r 41), .inl (G.2 0, 840, .inl c41)), ((r 42), .inl (G.2 0, 840, .inl c42)), ((r 45), .inl (G.2 0, 9, .inl c45)), ((r 46), .inl (G.2 0, 400, .inl c46)), ((r 48), .inl (G.2 0, 71, .inl c48)), ((r 49), .inl (G.2 0, 71, .inl c49)), ((r 52), .inl (G.2 0, 6, .inl c52))] (fun rr u => ∃ (rv : Int32), ∃ (k47 : Int32), ∃ (k50 : Int32), ∃ (k51 : Int32), ∃ (d45 : Nat → Int32), ∃ (d46 : Nat → Int32), ∃ (d49 : Nat → Int32), ∃ (d52 : Nat → Int32), rr = some (.int rv) ∧ u = [((r 0), .inr (10, (zz_mo r [(0, j0), (2, j2), (4, j4), (10, j10), (11, j11), (12, j12), (13, j13), (14, j14), (15, j15), (16, j16), (17, j17), (18, (nI lv)), (19, j19), (20, j20), (34, j34), (40, j40), (44, j44), (47, k47), (50, k50), (51, k51), (56, j56), (61, j61)]))), ((r 22), .inl (G.2 0, 2, .inl c22)), ((r 24), .inl (G.2 0, 14, .inl c24)), ((r 25), .inl (G.2 0, 14, .inl c25)), ((r 26), .inl (G.2 0, 2, .inl c26)), ((r 28), .inl (G.2 0, 12, .inl c28)), ((r 29), .inl (G.2 0, 12, .inl c29)), ((r 30), .inl (G.2 0, 2, .inl c30)), ((r 31), .inl (G.2 0, 2, .inl c31)), ((r 32), .inl (G.2 0, 8, .inl c32)), ((r 33), .inl (G.2 0, 8, .inl c33)), ((r 35), .inl (G.2 2, 260, .inl c35)), ((r 36), .inl (G.2 0, 260, .inl c36)), ((r 37), .inl (G.2 0, 260, .inl c37)), ((r 38), .inl (G.2 0, 260, .inl c38)), ((r 39), .inl (G.2 0, 260, .inl c39)), ((r 41), .inl (G.2 0, 840, .inl c41)), ((r 42), .inl (G.2 0, 840, .inl c42)), ((r 45), .inl (G.2 0, 9, .inl d45)), ((r 46), .inl (G.2 0, 400, .inl d46)), ((r 48), .inl (G.2 0, 71, .inl c48)), ((r 49), .inl (G.2 0, 71, .inl d49)), ((r 52), .inl (G.2 0, 6, .inl d52))] ∧ (zA (zz_In pp ar1 ∧ zz_In pp ar2 ∧ ¬ ar1 = ar2) (∃ a b : Nat, a < pp ∧ b < pp ∧ ar1 = nI a ∧ ar2 = nI b ∧ ∃ τ y y2, zy_q 71 c48 τ ∧ (∃ C, zr_FX (zr_HD lv c32 c33 c35 c36 c37 c38 c39 c41 c42 (c30 lv)) (fun Λ => zr_Sx 99 lv (upd (upd τ a (c48 b)) b (c48 a)) c24 c28 c25 c29 (Λ 0)) (fun x9 => (upd (upd τ a (c48 b)) b (c48 a)) (14 + x9) = 1) (c30 lv) pp pq C ∧ zE (fun p9 v9 => (C p9 < 0 ∧ v9 = 0) ∨ ∃ a9 : Nat, a9 < 7 ∧ C p9 = nI a9 ∧ zr_MS lv 0 c32 c33 c35 c36 c37 c38 c39 c41 c42 (zm_fc zr_ro zr_of ((upd (upd τ a (c48 b)) b (c48 a)) a9) ((upd (upd τ a (c48 b)) b (c48 a)) (21 + p9)) (c24 (7 * lv + a9)) (c28 (6 * lv + p9)) (c25 (7 * lv + a9)) (c29 (6 * lv + p9)) ((upd (upd τ a (c48 b)) b (c48 a)) 69) ((upd (upd τ a (c48 b)) b (c48 a)) (27 + 6 * a9 + p9)) p9) 99 v9) pq y) ∧ (∃ C, zr_FX (zr_HD lv c32 c33 c35 c36 c37 c38 c39 c41 c42 (c30 lv)) (fun Λ => zr_Sx 99 lv τ c24 c28 c25 c29 (Λ 0)) (fun x9 => τ (14 + x9) = 1) (c30 lv) pp pq C ∧ zE (fun p9 v9 => (C p9 < 0 ∧ v9 = 0) ∨ ∃ a9 : Nat, a9 < 7 ∧ C p9 = nI a9 ∧ zr_MS lv 0 c32 c33 c35 c36 c37 c38 c39 c41 c42 (zm_fc zr_ro zr_of (τ a9) (τ (21 + p9)) (c24 (7 * lv + a9)) (c28 (6 * lv + p9)) (c25 (7 * lv + a9)) (c29 (6 * lv + p9)) (τ 69) (τ (27 + 6 * a9 + p9)) p9) 99 v9) pq y2) ∧ rv = y - y2) rv (-100000)) ∧ (∀ j, j < 6 → zz_ok 7 (d52 j))) := by
  refine zz_enteri (by decide +kernel) (Nat.le_of_ble_eq_true rfl) ?_
  intro p e s m args below meth c A Q ls S hnm hret hw hl
  have hl : lv_has ls 4 [(0, .ref (r 0)), (1, .int ar1), (2, .int ar2)] := hl
  have hx := S.1
  have hb := S.2.1
  refine lv_aload_n hx hb dX10_trade_0 rfl (lv_at hl 0 rfl) ?_
  refine lv_iload_n hx hb dX10_trade_1 rfl (lv_at hl 1 rfl) ?_
  refine zz_callV (qb := 0) (As := [.int ar1]) (rest := []) (wr := [((r 24), .inl (G.2 0, 14, .inl c24)), ((r 25), .inl (G.2 0, 14, .inl c25)), ((r 26), .inl (G.2 0, 2, .inl c26)), ((r 28), .inl (G.2 0, 12, .inl c28)), ((r 29), .inl (G.2 0, 12, .inl c29)), ((r 30), .inl (G.2 0, 2, .inl c30)), ((r 31), .inl (G.2 0, 2, .inl c31)), ((r 32), .inl (G.2 0, 8, .inl c32)), ((r 33), .inl (G.2 0, 8, .inl c33)), ((r 35), .inl (G.2 2, 260, .inl c35)), ((r 36), .inl (G.2 0, 260, .inl c36)), ((r 37), .inl (G.2 0, 260, .inl c37)), ((r 38), .inl (G.2 0, 260, .inl c38)), ((r 39), .inl (G.2 0, 260, .inl c39)), ((r 41), .inl (G.2 0, 840, .inl c41)), ((r 42), .inl (G.2 0, 840, .inl c42)), ((r 45), .inl (G.2 0, 9, .inl c45)), ((r 46), .inl (G.2 0, 400, .inl c46)), ((r 48), .inl (G.2 0, 71, .inl c48)), ((r 49), .inl (G.2 0, 71, .inl c49)), ((r 52), .inl (G.2 0, 6, .inl c52))]) S hw hl.1 lX10_373 (c_x_isPerson l G r j0 j2 j4 j10 j11 j12 j13 j14 j15 j16 j17 j19 j20 j34 j40 j44 j47 j50 j51 j56 j61 lv pp c22 ar1 (by first | assumption | omega | exact Or.inr ⟨_, by omega, rfl⟩ | (unfold zz_sok; decide) | decide | exact (fun j hj => (hv7 j hj).1)) (by first | assumption | omega | exact Or.inr ⟨_, by omega, rfl⟩ | (unfold zz_sok; decide) | decide | exact (fun j hj => (hv7 j hj).1)) (by first | assumption | omega | exact Or.inr ⟨_, by omega, rfl⟩ | (unfold zz_sok; decide) | decide | exact (fun j hj => (hv7 j hj).1))) ⟨Nat.le_of_ble_eq_true rfl, Nat.le_of_ble_eq_true rfl⟩ ⟨Nat.le_of_ble_eq_true rfl, Nat.le_of_ble_eq_true rfl⟩ [0, 1] [2, 3, 4, 5, 6, 7, 8, 9, 10, 11, 12, 13, 14, 15, 16, 17, 18, 19, 20, 21, 22] (by decide +kernel) rfl rfl (by decide +kernel) (by decide +kernel) rfl rfl rfl rfl (Nat.le_of_ble_eq_true rfl) dX10_trade_2 ?_
  clear hw
  intro rr u H locs hp hw
  refine hp.elim fun rv_1 zg0 => zg0.elim fun zee1 zg1 => zg1.elim fun zee2 zg2 => zg2.elim fun hq2_0 zg3 => zg3.elim fun hq2_1 hq2_2 => ?_
  clear hp zg0 zg1 zg2 zg3
  subst zee1
  subst zee2
  replace hw : zz_w G A s [((r 24), .inl (G.2 0, 14, .inl c24)), ((r 25), .inl (G.2 0, 14, .inl c25)), ((r 26), .inl (G.2 0, 2, .inl c26)), ((r 28), .inl (G.2 0, 12, .inl c28)), ((r 29), .inl (G.2 0, 12, .inl c29)), ((r 30), .inl (G.2 0, 2, .inl c30)), ((r 31), .inl (G.2 0, 2, .inl c31)), ((r 32), .inl (G.2 0, 8, .inl c32)), ((r 33), .inl (G.2 0, 8, .inl c33)), ((r 35), .inl (G.2 2, 260, .inl c35)), ((r 36), .inl (G.2 0, 260, .inl c36)), ((r 37), .inl (G.2 0, 260, .inl c37)), ((r 38), .inl (G.2 0, 260, .inl c38)), ((r 39), .inl (G.2 0, 260, .inl c39)), ((r 41), .inl (G.2 0, 840, .inl c41)), ((r 42), .inl (G.2 0, 840, .inl c42)), ((r 45), .inl (G.2 0, 9, .inl c45)), ((r 46), .inl (G.2 0, 400, .inl c46)), ((r 48), .inl (G.2 0, 71, .inl c48)), ((r 49), .inl (G.2 0, 71, .inl c49)), ((r 52), .inl (G.2 0, 6, .inl c52)), ((r 0), .inr (10, (zz_mo r [(0, j0), (2, j2), (4, j4), (10, j10), (11, j11), (12, j12), (13, j13), (14, j14), (15, j15), (16, j16), (17, j17), (18, (nI lv)), (19, j19), (20, j20), (34, j34), (40, j40), (44, j44), (47, j47), (50, j50), (51, j51), (56, j56), (61, j61)]))), ((r 22), .inl (G.2 0, 2, .inl c22))] H _ := hw
  refine W.eq (g2 := F0 m 5 ls [.int rv_1]) rfl ?_
  refine lv_if_eq (tgt := 21) hx hb dX10_trade_5 (by decide) (fun c5_2 => ?_) (fun c5_2 => ?_)
  · skip
    refine lv_ldcw (v := (-100000)) hx hb S.2.2.2.1 (S.2.2.2.2 _ (zz_c7 184 rfl rfl)) dX10_trade_21 ?_
    exact hret _ _ _ _ _ _ ⟨(-100000), j47, j50, j51, c45, c46, c49, c52, rfl, rfl, (by first | exact zA0 (fun z => hq2_1 (by assumption) z.1) | exact zA0 (fun z => hq10_1 (by assumption) z.2.1) | exact zA0 (fun z => z.2.2 (by assumption)) | exact zA1 ⟨⟨_, by assumption, rfl⟩, ⟨_, by assumption, rfl⟩, by assumption⟩ ⟨_, _, by assumption, by assumption, rfl, rfl, _, _, _, hq26_0, hq59_0, hq30_0, by assumption⟩), (by first | assumption | exact Or.inl rfl | exact Or.inr rfl | omega | exact Or.inr (by assumption) | exact zz_oku (by assumption) (by first | exact Or.inl rfl | exact Or.inr ⟨_, by omega, rfl⟩))⟩ (hw.sub [21, 22, 0, 1, 2, 3, 4, 5, 6, 7, 8, 9, 10, 11, 12, 13, 14, 15, 16, 17, 18, 19, 20] (by decide +kernel) rfl) rfl dX10_trade_24
  · skip
    obtain ⟨vq3, hvq3, rfl⟩ := hq2_0.resolve_left c5_2
    refine lv_aload_n hx hb dX10_trade_8 rfl (lv_at hl 0 rfl) ?_
    refine lv_iload_n hx hb dX10_trade_9 rfl (lv_at hl 2 rfl) ?_
    refine zz_callV (qb := 21) (As := [.int ar2]) (rest := []) (wr := [((r 24), .inl (G.2 0, 14, .inl c24)), ((r 25), .inl (G.2 0, 14, .inl c25)), ((r 26), .inl (G.2 0, 2, .inl c26)), ((r 28), .inl (G.2 0, 12, .inl c28)), ((r 29), .inl (G.2 0, 12, .inl c29)), ((r 30), .inl (G.2 0, 2, .inl c30)), ((r 31), .inl (G.2 0, 2, .inl c31)), ((r 32), .inl (G.2 0, 8, .inl c32)), ((r 33), .inl (G.2 0, 8, .inl c33)), ((r 35), .inl (G.2 2, 260, .inl c35)), ((r 36), .inl (G.2 0, 260, .inl c36)), ((r 37), .inl (G.2 0, 260, .inl c37)), ((r 38), .inl (G.2 0, 260, .inl c38)), ((r 39), .inl (G.2 0, 260, .inl c39)), ((r 41), .inl (G.2 0, 840, .inl c41)), ((r 42), .inl (G.2 0, 840, .inl c42)), ((r 45), .inl (G.2 0, 9, .inl c45)), ((r 46), .inl (G.2 0, 400, .inl c46)), ((r 48), .inl (G.2 0, 71, .inl c48)), ((r 49), .inl (G.2 0, 71, .inl c49)), ((r 52), .inl (G.2 0, 6, .inl c52))]) S hw hl.1 lX10_373 (c_x_isPerson l G r j0 j2 j4 j10 j11 j12 j13 j14 j15 j16 j17 j19 j20 j34 j40 j44 j47 j50 j51 j56 j61 lv pp c22 ar2 (by first | assumption | omega | exact Or.inr ⟨_, by omega, rfl⟩ | (unfold zz_sok; decide) | decide | exact (fun j hj => (hv7 j hj).1)) (by first | assumption | omega | exact Or.inr ⟨_, by omega, rfl⟩ | (unfold zz_sok; decide) | decide | exact (fun j hj => (hv7 j hj).1)) (by first | assumption | omega | exact Or.inr ⟨_, by omega, rfl⟩ | (unfold zz_sok; decide) | decide | exact (fun j hj => (hv7 j hj).1))) ⟨Nat.le_of_ble_eq_true rfl, Nat.le_of_ble_eq_true rfl⟩ ⟨Nat.le_of_ble_eq_true rfl, Nat.le_of_ble_eq_true rfl⟩ [21, 22] [0, 1, 2, 3, 4, 5, 6, 7, 8, 9, 10, 11, 12, 13, 14, 15, 16, 17, 18, 19, 20] (by decide +kernel) rfl rfl (by decide +kernel) (by decide +kernel) rfl rfl rfl rfl (Nat.le_of_ble_eq_true rfl) dX10_trade_10 ?_
    clear hw
    intro rr u H locs hp hw
    refine hp.elim fun rv_4 zg0 => zg0.elim fun zee1 zg1 => zg1.elim fun zee2 zg2 => zg2.elim fun hq10_0 zg3 => zg3.elim fun hq10_1 hq10_2 => ?_
    clear hp zg0 zg1 zg2 zg3
    subst zee1
    subst zee2
    replace hw : zz_w G A s [((r 24), .inl (G.2 0, 14, .inl c24)), ((r 25), .inl (G.2 0, 14, .inl c25)), ((r 26), .inl (G.2 0, 2, .inl c26)), ((r 28), .inl (G.2 0, 12, .inl c28)), ((r 29), .inl (G.2 0, 12, .inl c29)), ((r 30), .inl (G.2 0, 2, .inl c30)), ((r 31), .inl (G.2 0, 2, .inl c31)), ((r 32), .inl (G.2 0, 8, .inl c32)), ((r 33), .inl (G.2 0, 8, .inl c33)), ((r 35), .inl (G.2 2, 260, .inl c35)), ((r 36), .inl (G.2 0, 260, .inl c36)), ((r 37), .inl (G.2 0, 260, .inl c37)), ((r 38), .inl (G.2 0, 260, .inl c38)), ((r 39), .inl (G.2 0, 260, .inl c39)), ((r 41), .inl (G.2 0, 840, .inl c41)), ((r 42), .inl (G.2 0, 840, .inl c42)), ((r 45), .inl (G.2 0, 9, .inl c45)), ((r 46), .inl (G.2 0, 400, .inl c46)), ((r 48), .inl (G.2 0, 71, .inl c48)), ((r 49), .inl (G.2 0, 71, .inl c49)), ((r 52), .inl (G.2 0, 6, .inl c52)), ((r 0), .inr (10, (zz_mo r [(0, j0), (2, j2), (4, j4), (10, j10), (11, j11), (12, j12), (13, j13), (14, j14), (15, j15), (16, j16), (17, j17), (18, (nI lv)), (19, j19), (20, j20), (34, j34), (40, j40), (44, j44), (47, j47), (50, j50), (51, j51), (56, j56), (61, j61)]))), ((r 22), .inl (G.2 0, 2, .inl c22))] H _ := hw
    refine W.eq (g2 := F0 m 13 ls [.int rv_4]) rfl ?_
    refine lv_if_eq (tgt := 21) hx hb dX10_trade_13 (by decide) (fun c13_5 => ?_) (fun c13_5 => ?_)
    · skip
      refine lv_ldcw (v := (-100000)) hx hb S.2.2.2.1 (S.2.2.2.2 _ (zz_c7 184 rfl rfl)) dX10_trade_21 ?_
      exact hret _ _ _ _ _ _ ⟨(-100000), j47, j50, j51, c45, c46, c49, c52, rfl, rfl, (by first | exact zA0 (fun z => hq2_1 (by assumption) z.1) | exact zA0 (fun z => hq10_1 (by assumption) z.2.1) | exact zA0 (fun z => z.2.2 (by assumption)) | exact zA1 ⟨⟨_, by assumption, rfl⟩, ⟨_, by assumption, rfl⟩, by assumption⟩ ⟨_, _, by assumption, by assumption, rfl, rfl, _, _, _, hq26_0, hq59_0, hq30_0, by assumption⟩), (by first | assumption | exact Or.inl rfl | exact Or.inr rfl | omega | exact Or.inr (by assumption) | exact zz_oku (by assumption) (by first | exact Or.inl rfl | exact Or.inr ⟨_, by omega, rfl⟩))⟩ (hw.sub [21, 22, 0, 1, 2, 3, 4, 5, 6, 7, 8, 9, 10, 11, 12, 13, 14, 15, 16, 17, 18, 19, 20] (by decide +kernel) rfl) rfl dX10_trade_24
    · skip
      obtain ⟨vq6, hvq6, rfl⟩ := hq10_0.resolve_left c13_5
      refine lv_iload_n hx hb dX10_trade_16 rfl (lv_at hl 1 rfl) ?_
      refine lv_iload_n hx hb dX10_trade_17 rfl (lv_at hl 2 rfl) ?_
      refine lv_icmp_ne (tgt := 25) hx hb dX10_trade_18 (by decide) (fun c18_7 => ?_) (fun c18_7 => ?_)
      · skip
        have c18_7n : ¬ (vq3 = vq6) := fun z => c18_7 ((zz_eq (a := vq3) (b := vq6) rfl rfl (by omega) (by omega)).mpr z)
        refine lv_aload_n hx hb dX10_trade_25 rfl (lv_at hl 0 rfl) ?_
        refine zz_callV (qb := 21) (As := []) (rest := []) (wr := [((r 24), .inl (G.2 0, 14, .inl c24)), ((r 25), .inl (G.2 0, 14, .inl c25)), ((r 26), .inl (G.2 0, 2, .inl c26)), ((r 28), .inl (G.2 0, 12, .inl c28)), ((r 29), .inl (G.2 0, 12, .inl c29)), ((r 30), .inl (G.2 0, 2, .inl c30)), ((r 32), .inl (G.2 0, 8, .inl c32)), ((r 33), .inl (G.2 0, 8, .inl c33)), ((r 35), .inl (G.2 2, 260, .inl c35)), ((r 36), .inl (G.2 0, 260, .inl c36)), ((r 37), .inl (G.2 0, 260, .inl c37)), ((r 38), .inl (G.2 0, 260, .inl c38)), ((r 39), .inl (G.2 0, 260, .inl c39)), ((r 41), .inl (G.2 0, 840, .inl c41)), ((r 42), .inl (G.2 0, 840, .inl c42)), ((r 45), .inl (G.2 0, 9, .inl c45)), ((r 46), .inl (G.2 0, 400, .inl c46)), ((r 52), .inl (G.2 0, 6, .inl c52)), ((r 22), .inl (G.2 0, 2, .inl c22))]) S hw hl.1 lX10_323 (c_x_copies l G r j0 j2 j4 j10 j11 j12 j13 j14 j15 j16 j17 j19 j20 j34 j40 j44 j47 j50 j51 j56 j61 lv c31 c48 c49 (by first | assumption | omega | exact Or.inr ⟨_, by omega, rfl⟩ | (unfold zz_sok; decide) | decide | exact (fun j hj => (hv7 j hj).1))) ⟨Nat.le_of_ble_eq_true rfl, Nat.le_of_ble_eq_true rfl⟩ ⟨Nat.le_of_ble_eq_true rfl, Nat.le_of_ble_eq_true rfl⟩ [21, 6, 18, 19] [0, 1, 2, 3, 4, 5, 7, 8, 9, 10, 11, 12, 13, 14, 15, 16, 17, 20, 22] (by decide +kernel) rfl rfl (by decide +kernel) (by decide +kernel) rfl rfl rfl rfl (Nat.le_of_ble_eq_true rfl) dX10_trade_26 ?_
        clear hw
        intro rr u H locs hp hw
        refine hp.elim fun k50_8 zg0 => zg0.elim fun k51_9 zg1 => zg1.elim fun d49_10 zg2 => zg2.elim fun zee1 zg3 => zg3.elim fun zee2 zg4 => zg4.elim fun hq26_0 zg5 => zg5.elim fun hq26_1 hq26_2 => ?_
        clear hp zg0 zg1 zg2 zg3 zg4 zg5
        subst zee1
        subst zee2
        replace hw : zz_w G A s [((r 24), .inl (G.2 0, 14, .inl c24)), ((r 25), .inl (G.2 0, 14, .inl c25)), ((r 26), .inl (G.2 0, 2, .inl c26)), ((r 28), .inl (G.2 0, 12, .inl c28)), ((r 29), .inl (G.2 0, 12, .inl c29)), ((r 30), .inl (G.2 0, 2, .inl c30)), ((r 32), .inl (G.2 0, 8, .inl c32)), ((r 33), .inl (G.2 0, 8, .inl c33)), ((r 35), .inl (G.2 2, 260, .inl c35)), ((r 36), .inl (G.2 0, 260, .inl c36)), ((r 37), .inl (G.2 0, 260, .inl c37)), ((r 38), .inl (G.2 0, 260, .inl c38)), ((r 39), .inl (G.2 0, 260, .inl c39)), ((r 41), .inl (G.2 0, 840, .inl c41)), ((r 42), .inl (G.2 0, 840, .inl c42)), ((r 45), .inl (G.2 0, 9, .inl c45)), ((r 46), .inl (G.2 0, 400, .inl c46)), ((r 52), .inl (G.2 0, 6, .inl c52)), ((r 22), .inl (G.2 0, 2, .inl c22)), ((r 0), .inr (10, (zz_mo r [(0, j0), (2, j2), (4, j4), (10, j10), (11, j11), (12, j12), (13, j13), (14, j14), (15, j15), (16, j16), (17, j17), (18, (nI lv)), (19, j19), (20, j20), (34, j34), (40, j40), (44, j44), (47, j47), (50, k50_8), (51, k51_9), (56, j56), (61, j61)]))), ((r 31), .inl (G.2 0, 2, .inl c31)), ((r 48), .inl (G.2 0, 71, .inl c48)), ((r 49), .inl (G.2 0, 71, .inl d49_10))] H _ := hw
        refine W.eq (g2 := F0 m 29 ls []) rfl ?_
        refine lv_aload_n hx hb dX10_trade_29 rfl (lv_at hl 0 rfl) ?_
        refine zz_callV (qb := 19) (As := []) (rest := []) (wr := [((r 31), .inl (G.2 0, 2, .inl c31)), ((r 48), .inl (G.2 0, 71, .inl c48))]) S hw hl.1 lX10_432 (c_x_sumCast l G r j0 j2 j4 j10 j11 j12 j13 j14 j15 j16 j17 j19 j20 j34 j40 j44 j47 k50_8 k51_9 j56 j61 lv pp pq c22 c24 c25 c26 c28 c29 c30 c32 c33 c35 c36 c37 c38 c39 c41 c42 c45 c46 d49_10 c52 (by first | assumption | omega | exact Or.inr ⟨_, by omega, rfl⟩ | (unfold zz_sok; decide) | decide | exact (fun j hj => (hv7 j hj).1)) (by first | assumption | omega | exact Or.inr ⟨_, by omega, rfl⟩ | (unfold zz_sok; decide) | decide | exact (fun j hj => (hv7 j hj).1)) (by first | assumption | omega | exact Or.inr ⟨_, by omega, rfl⟩ | (unfold zz_sok; decide) | decide | exact (fun j hj => (hv7 j hj).1)) (by first | assumption | omega | exact Or.inr ⟨_, by omega, rfl⟩ | (unfold zz_sok; decide) | decide | exact (fun j hj => (hv7 j hj).1)) (by first | assumption | omega | exact Or.inr ⟨_, by omega, rfl⟩ | (unfold zz_sok; decide) | decide | exact (fun j hj => (hv7 j hj).1)) (by first | assumption | omega | exact Or.inr ⟨_, by omega, rfl⟩ | (unfold zz_sok; decide) | decide | exact (fun j hj => (hv7 j hj).1)) (by first | assumption | omega | exact Or.inr ⟨_, by omega, rfl⟩ | (unfold zz_sok; decide) | decide | exact (fun j hj => (hv7 j hj).1))) ⟨Nat.le_of_ble_eq_true rfl, Nat.le_of_ble_eq_true rfl⟩ ⟨Nat.le_of_ble_eq_true rfl, Nat.le_of_ble_eq_true rfl⟩ [19, 18, 0, 1, 2, 3, 4, 5, 6, 7, 8, 9, 10, 11, 12, 13, 14, 15, 16, 22, 17] [20, 21] (by decide +kernel) rfl rfl (by decide +kernel) (by decide +kernel) rfl rfl rfl rfl (Nat.le_of_ble_eq_true rfl) dX10_trade_30 ?_
        clear hw
        intro rr u H locs hp hw
        refine hp.elim fun rv_11 zg0 => zg0.elim fun k47_12 zg1 => zg1.elim fun d45_13 zg2 => zg2.elim fun d46_14 zg3 => zg3.elim fun d52_15 zg4 => zg4.elim fun zee1 zg5 => zg5.elim fun zee2 zg6 => zg6.elim fun hq30_0 hq30_1 => ?_
        clear hp zg0 zg1 zg2 zg3 zg4 zg5 zg6
        subst zee1
        subst zee2
        replace hw : zz_w G A s [((r 31), .inl (G.2 0, 2, .inl c31)), ((r 48), .inl (G.2 0, 71, .inl c48)), ((r 0), .inr (10, (zz_mo r [(0, j0), (2, j2), (4, j4), (10, j10), (11, j11), (12, j12), (13, j13), (14, j14), (15, j15), (16, j16), (17, j17), (18, (nI lv)), (19, j19), (20, j20), (34, j34), (40, j40), (44, j44), (47, k47_12), (50, k50_8), (51, k51_9), (56, j56), (61, j61)]))), ((r 22), .inl (G.2 0, 2, .inl c22)), ((r 24), .inl (G.2 0, 14, .inl c24)), ((r 25), .inl (G.2 0, 14, .inl c25)), ((r 26), .inl (G.2 0, 2, .inl c26)), ((r 28), .inl (G.2 0, 12, .inl c28)), ((r 29), .inl (G.2 0, 12, .inl c29)), ((r 30), .inl (G.2 0, 2, .inl c30)), ((r 32), .inl (G.2 0, 8, .inl c32)), ((r 33), .inl (G.2 0, 8, .inl c33)), ((r 35), .inl (G.2 2, 260, .inl c35)), ((r 36), .inl (G.2 0, 260, .inl c36)), ((r 37), .inl (G.2 0, 260, .inl c37)), ((r 38), .inl (G.2 0, 260, .inl c38)), ((r 39), .inl (G.2 0, 260, .inl c39)), ((r 41), .inl (G.2 0, 840, .inl c41)), ((r 42), .inl (G.2 0, 840, .inl c42)), ((r 45), .inl (G.2 0, 9, .inl d45_13)), ((r 46), .inl (G.2 0, 400, .inl d46_14)), ((r 49), .inl (G.2 0, 71, .inl d49_10)), ((r 52), .inl (G.2 0, 6, .inl d52_15))] H _ := hw
        refine W.eq (g2 := F0 m 33 ls [.int rv_11]) rfl ?_
        refine W.eq (g2 := F0 m 33 ls [.int rv_11]) rfl ?_
        refine lv_istore_n (lv' := [(3, .int rv_11), (0, .ref (r 0)), (1, .int (nI vq3)), (2, .int (nI vq6))]) hx hb dX10_trade_33 rfl hl (by decide) rfl (fun ls hl => ?_)
        refine lv_aload_n hx hb dX10_trade_34 rfl (lv_at hl 1 rfl) ?_
        refine zz_get (v := .ref (r 49)) S hw fgX10_113 2 rfl rfl dX10_trade_35 ?_
        refine lv_iload_n hx hb dX10_trade_38 rfl (lv_at hl 2 rfl) ?_
        refine lv_aload_n hx hb dX10_trade_39 rfl (lv_at hl 1 rfl) ?_
        refine zz_get (v := .ref (r 48)) S hw fgX10_110 2 rfl rfl dX10_trade_40 ?_
        refine lv_iload_n hx hb dX10_trade_43 rfl (lv_at hl 3 rfl) ?_
        refine zz_iald (v := (c48 vq6)) S hw 1 rfl (vp_in_nI (n := vq6) (by omega) (by decide)) (congrArg c48 (nI_clamp (n := vq6) (by omega))) dX10_trade_44 ?_
        refine zz_iast (ws' := [((r 31), .inl (G.2 0, 2, .inl c31)), ((r 48), .inl (G.2 0, 71, .inl c48)), ((r 0), .inr (10, (zz_mo r [(0, j0), (2, j2), (4, j4), (10, j10), (11, j11), (12, j12), (13, j13), (14, j14), (15, j15), (16, j16), (17, j17), (18, (nI lv)), (19, j19), (20, j20), (34, j34), (40, j40), (44, j44), (47, k47_12), (50, k50_8), (51, k51_9), (56, j56), (61, j61)]))), ((r 22), .inl (G.2 0, 2, .inl c22)), ((r 24), .inl (G.2 0, 14, .inl c24)), ((r 25), .inl (G.2 0, 14, .inl c25)), ((r 26), .inl (G.2 0, 2, .inl c26)), ((r 28), .inl (G.2 0, 12, .inl c28)), ((r 29), .inl (G.2 0, 12, .inl c29)), ((r 30), .inl (G.2 0, 2, .inl c30)), ((r 32), .inl (G.2 0, 8, .inl c32)), ((r 33), .inl (G.2 0, 8, .inl c33)), ((r 35), .inl (G.2 2, 260, .inl c35)), ((r 36), .inl (G.2 0, 260, .inl c36)), ((r 37), .inl (G.2 0, 260, .inl c37)), ((r 38), .inl (G.2 0, 260, .inl c38)), ((r 39), .inl (G.2 0, 260, .inl c39)), ((r 41), .inl (G.2 0, 840, .inl c41)), ((r 42), .inl (G.2 0, 840, .inl c42)), ((r 45), .inl (G.2 0, 9, .inl d45_13)), ((r 46), .inl (G.2 0, 400, .inl d46_14)), ((r 49), .inl (G.2 0, 71, .inl (upd d49_10 vq3 (c48 vq6)))), ((r 52), .inl (G.2 0, 6, .inl d52_15))]) (g := (upd d49_10 vq3 (c48 vq6))) S hw 21 rfl (vp_in_nI (n := vq3) (by omega) (by decide)) (zz_upn (n := vq3) (by omega)) rfl dX10_trade_45 ?_
        clear hw
        intro H locs hw
        refine lv_aload_n hx hb dX10_trade_46 rfl (lv_at hl 1 rfl) ?_
        refine zz_get (v := .ref (r 49)) S hw fgX10_113 2 rfl rfl dX10_trade_47 ?_
        refine lv_iload_n hx hb dX10_trade_50 rfl (lv_at hl 3 rfl) ?_
        refine lv_aload_n hx hb dX10_trade_51 rfl (lv_at hl 1 rfl) ?_
        refine zz_get (v := .ref (r 48)) S hw fgX10_110 2 rfl rfl dX10_trade_52 ?_
        refine W.eq (g2 := F0 m 55 ls [.ref (r 48), .int (nI vq6), .ref (r 49)]) rfl ?_
        refine lv_iload_n hx hb dX10_trade_55 rfl (lv_at hl 2 rfl) ?_
        refine zz_iald (v := (c48 vq3)) S hw 1 rfl (vp_in_nI (n := vq3) (by omega) (by decide)) (congrArg c48 (nI_clamp (n := vq3) (by omega))) dX10_trade_56 ?_
        refine zz_iast (ws' := [((r 31), .inl (G.2 0, 2, .inl c31)), ((r 48), .inl (G.2 0, 71, .inl c48)), ((r 0), .inr (10, (zz_mo r [(0, j0), (2, j2), (4, j4), (10, j10), (11, j11), (12, j12), (13, j13), (14, j14), (15, j15), (16, j16), (17, j17), (18, (nI lv)), (19, j19), (20, j20), (34, j34), (40, j40), (44, j44), (47, k47_12), (50, k50_8), (51, k51_9), (56, j56), (61, j61)]))), ((r 22), .inl (G.2 0, 2, .inl c22)), ((r 24), .inl (G.2 0, 14, .inl c24)), ((r 25), .inl (G.2 0, 14, .inl c25)), ((r 26), .inl (G.2 0, 2, .inl c26)), ((r 28), .inl (G.2 0, 12, .inl c28)), ((r 29), .inl (G.2 0, 12, .inl c29)), ((r 30), .inl (G.2 0, 2, .inl c30)), ((r 32), .inl (G.2 0, 8, .inl c32)), ((r 33), .inl (G.2 0, 8, .inl c33)), ((r 35), .inl (G.2 2, 260, .inl c35)), ((r 36), .inl (G.2 0, 260, .inl c36)), ((r 37), .inl (G.2 0, 260, .inl c37)), ((r 38), .inl (G.2 0, 260, .inl c38)), ((r 39), .inl (G.2 0, 260, .inl c39)), ((r 41), .inl (G.2 0, 840, .inl c41)), ((r 42), .inl (G.2 0, 840, .inl c42)), ((r 45), .inl (G.2 0, 9, .inl d45_13)), ((r 46), .inl (G.2 0, 400, .inl d46_14)), ((r 49), .inl (G.2 0, 71, .inl (upd (upd d49_10 vq3 (c48 vq6)) vq6 (c48 vq3)))), ((r 52), .inl (G.2 0, 6, .inl d52_15))]) (g := (upd (upd d49_10 vq3 (c48 vq6)) vq6 (c48 vq3))) S hw 21 rfl (vp_in_nI (n := vq6) (by omega) (by decide)) (zz_upn (n := vq6) (by omega)) rfl dX10_trade_57 ?_
        clear hw
        intro H locs hw
        refine lv_aload_n hx hb dX10_trade_58 rfl (lv_at hl 1 rfl) ?_
        refine zz_callV (qb := 2) (As := []) (rest := []) (wr := [((r 31), .inl (G.2 0, 2, .inl c31)), ((r 48), .inl (G.2 0, 71, .inl c48))]) S hw hl.1 lX10_432 (c_x_sumCast l G r j0 j2 j4 j10 j11 j12 j13 j14 j15 j16 j17 j19 j20 j34 j40 j44 k47_12 k50_8 k51_9 j56 j61 lv pp pq c22 c24 c25 c26 c28 c29 c30 c32 c33 c35 c36 c37 c38 c39 c41 c42 d45_13 d46_14 (upd (upd d49_10 vq3 (c48 vq6)) vq6 (c48 vq3)) d52_15 (by first | assumption | omega | exact Or.inr ⟨_, by omega, rfl⟩ | (unfold zz_sok; decide) | decide | exact (fun j hj => (hv7 j hj).1)) (by first | assumption | omega | exact Or.inr ⟨_, by omega, rfl⟩ | (unfold zz_sok; decide) | decide | exact (fun j hj => (hv7 j hj).1)) (by first | assumption | omega | exact Or.inr ⟨_, by omega, rfl⟩ | (unfold zz_sok; decide) | decide | exact (fun j hj => (hv7 j hj).1)) (by first | assumption | omega | exact Or.inr ⟨_, by omega, rfl⟩ | (unfold zz_sok; decide) | decide | exact (fun j hj => (hv7 j hj).1)) (by first | assumption | omega | exact Or.inr ⟨_, by omega, rfl⟩ | (unfold zz_sok; decide) | decide | exact (fun j hj => (hv7 j hj).1)) (by first | assumption | omega | exact Or.inr ⟨_, by omega, rfl⟩ | (unfold zz_sok; decide) | decide | exact (fun j hj => (hv7 j hj).1)) (by first | assumption | omega | exact Or.inr ⟨_, by omega, rfl⟩ | (unfold zz_sok; decide) | decide | exact (fun j hj => (hv7 j hj).1))) ⟨Nat.le_of_ble_eq_true rfl, Nat.le_of_ble_eq_true rfl⟩ ⟨Nat.le_of_ble_eq_true rfl, Nat.le_of_ble_eq_true rfl⟩ [2, 3, 4, 5, 6, 7, 8, 9, 10, 11, 12, 13, 14, 15, 16, 17, 18, 19, 20, 21, 22] [0, 1] (by decide +kernel) rfl rfl (by decide +kernel) (by decide +kernel) rfl rfl rfl rfl (Nat.le_of_ble_eq_true rfl) dX10_trade_59 ?_
        clear hw
        intro rr u H locs hp hw
        refine hp.elim fun rv_16 zg0 => zg0.elim fun k47_17 zg1 => zg1.elim fun d45_18 zg2 => zg2.elim fun d46_19 zg3 => zg3.elim fun d52_20 zg4 => zg4.elim fun zee1 zg5 => zg5.elim fun zee2 zg6 => zg6.elim fun hq59_0 hq59_1 => ?_
        clear hp zg0 zg1 zg2 zg3 zg4 zg5 zg6
        subst zee1
        subst zee2
        replace hw : zz_w G A s [((r 31), .inl (G.2 0, 2, .inl c31)), ((r 48), .inl (G.2 0, 71, .inl c48)), ((r 0), .inr (10, (zz_mo r [(0, j0), (2, j2), (4, j4), (10, j10), (11, j11), (12, j12), (13, j13), (14, j14), (15, j15), (16, j16), (17, j17), (18, (nI lv)), (19, j19), (20, j20), (34, j34), (40, j40), (44, j44), (47, k47_17), (50, k50_8), (51, k51_9), (56, j56), (61, j61)]))), ((r 22), .inl (G.2 0, 2, .inl c22)), ((r 24), .inl (G.2 0, 14, .inl c24)), ((r 25), .inl (G.2 0, 14, .inl c25)), ((r 26), .inl (G.2 0, 2, .inl c26)), ((r 28), .inl (G.2 0, 12, .inl c28)), ((r 29), .inl (G.2 0, 12, .inl c29)), ((r 30), .inl (G.2 0, 2, .inl c30)), ((r 32), .inl (G.2 0, 8, .inl c32)), ((r 33), .inl (G.2 0, 8, .inl c33)), ((r 35), .inl (G.2 2, 260, .inl c35)), ((r 36), .inl (G.2 0, 260, .inl c36)), ((r 37), .inl (G.2 0, 260, .inl c37)), ((r 38), .inl (G.2 0, 260, .inl c38)), ((r 39), .inl (G.2 0, 260, .inl c39)), ((r 41), .inl (G.2 0, 840, .inl c41)), ((r 42), .inl (G.2 0, 840, .inl c42)), ((r 45), .inl (G.2 0, 9, .inl d45_18)), ((r 46), .inl (G.2 0, 400, .inl d46_19)), ((r 49), .inl (G.2 0, 71, .inl (upd (upd d49_10 vq3 (c48 vq6)) vq6 (c48 vq3)))), ((r 52), .inl (G.2 0, 6, .inl d52_20))] H _ := hw
        refine W.eq (g2 := F0 m 62 ls [.int rv_16]) rfl ?_
        refine lv_iload_n hx hb dX10_trade_62 rfl (lv_at hl 0 rfl) ?_
        refine lv_isub hx hb dX10_trade_63 ?_
        refine lv_topi (fun z21 ez21 => ?_)
        exact hret _ _ _ _ _ _ ⟨z21, k47_17, k50_8, k51_9, d45_18, d46_19, (upd (upd d49_10 vq3 (c48 vq6)) vq6 (c48 vq3)), d52_20, rfl, rfl, (by first | exact zA0 (fun z => hq2_1 (by assumption) z.1) | exact zA0 (fun z => hq10_1 (by assumption) z.2.1) | exact zA0 (fun z => z.2.2 (by assumption)) | exact zA1 ⟨⟨_, by assumption, rfl⟩, ⟨_, by assumption, rfl⟩, by assumption⟩ ⟨_, _, by assumption, by assumption, rfl, rfl, _, _, _, hq26_0, hq59_0, hq30_0, by assumption⟩), (by first | assumption | exact Or.inl rfl | exact Or.inr rfl | omega | exact Or.inr (by assumption) | exact zz_oku (by assumption) (by first | exact Or.inl rfl | exact Or.inr ⟨_, by omega, rfl⟩))⟩ (hw.sub [2, 3, 4, 5, 6, 7, 8, 9, 0, 10, 11, 12, 13, 14, 15, 16, 17, 18, 19, 20, 1, 21, 22] (by decide +kernel) rfl) rfl dX10_trade_64
      · skip
        have c18_7n : vq3 = vq6 := (zz_eq (a := vq3) (b := vq6) rfl rfl (by omega) (by omega)).mp c18_7
        refine lv_ldcw (v := (-100000)) hx hb S.2.2.2.1 (S.2.2.2.2 _ (zz_c7 184 rfl rfl)) dX10_trade_21 ?_
        exact hret _ _ _ _ _ _ ⟨(-100000), j47, j50, j51, c45, c46, c49, c52, rfl, rfl, (by first | exact zA0 (fun z => hq2_1 (by assumption) z.1) | exact zA0 (fun z => hq10_1 (by assumption) z.2.1) | exact zA0 (fun z => z.2.2 (by assumption)) | exact zA1 ⟨⟨_, by assumption, rfl⟩, ⟨_, by assumption, rfl⟩, by assumption⟩ ⟨_, _, by assumption, by assumption, rfl, rfl, _, _, _, hq26_0, hq59_0, hq30_0, by assumption⟩), (by first | assumption | exact Or.inl rfl | exact Or.inr rfl | omega | exact Or.inr (by assumption) | exact zz_oku (by assumption) (by first | exact Or.inl rfl | exact Or.inr ⟨_, by omega, rfl⟩))⟩ (hw.sub [21, 22, 0, 1, 2, 3, 4, 5, 6, 7, 8, 9, 10, 11, 12, 13, 14, 15, 16, 17, 18, 19, 20] (by decide +kernel) rfl) rfl dX10_trade_24
theorem kd_ncX10_key : kd_ck 243023732331179377289377380710047653642494881565613794296110926688529303503780030601101571785319130911503598667927957840102327558478301317803233754138719409006313398247579722326367442140689195372610738099715019494951859754 92 cX10_key.data.toList 0 = true := by decide +kernel
theorem dX10_key_0 : decode cX10_key 0 = .ok (.aload_n 0, 1) := kd_dk0 kd_o42 kd_ncX10_key rfl
theorem dX10_key_1 : decode cX10_key 1 = .ok (.invokevirtual 323, 3) := kd_dk2 kd_o182 kd_ncX10_key rfl
theorem dX10_key_4 : decode cX10_key 4 = .ok (.aload_n 0, 1) := kd_dk0 kd_o42 kd_ncX10_key rfl
theorem dX10_key_5 : decode cX10_key 5 = .ok (.invokevirtual 351, 3) := kd_dk2 kd_o182 kd_ncX10_key rfl
theorem dX10_key_8 : decode cX10_key 8 = .ok (.aload_n 0, 1) := kd_dk0 kd_o42 kd_ncX10_key rfl
theorem dX10_key_9 : decode cX10_key 9 = .ok (.invokevirtual 400, 3) := kd_dk2 kd_o182 kd_ncX10_key rfl
theorem dX10_key_12 : decode cX10_key 12 = .ok (.invokestatic 436, 3) := kd_dk2 kd_o184 kd_ncX10_key rfl
theorem dX10_key_15 : decode cX10_key 15 = .ok (.istore_n 1, 1) := kd_dk0 kd_o60 kd_ncX10_key rfl
theorem dX10_key_16 : decode cX10_key 16 = .ok (.iconst 0, 1) := kd_dk0 kd_o3 kd_ncX10_key rfl
theorem dX10_key_17 : decode cX10_key 17 = .ok (.istore_n 2, 1) := kd_dk0 kd_o61 kd_ncX10_key rfl
theorem dX10_key_18 : decode cX10_key 18 = .ok (.iconst 0, 1) := kd_dk0 kd_o3 kd_ncX10_key rfl
theorem dX10_key_19 : decode cX10_key 19 = .ok (.istore_n 3, 1) := kd_dk0 kd_o62 kd_ncX10_key rfl
theorem dX10_key_20 : decode cX10_key 20 = .ok (.iload_n 3, 1) := kd_dk0 kd_o29 kd_ncX10_key rfl
theorem dX10_key_21 : decode cX10_key 21 = .ok (.aload_n 0, 1) := kd_dk0 kd_o42 kd_ncX10_key rfl
theorem dX10_key_22 : decode cX10_key 22 = .ok (.getfield 43, 3) := kd_dk2 kd_o180 kd_ncX10_key rfl
theorem dX10_key_25 : decode cX10_key 25 = .ok (.aload_n 0, 1) := kd_dk0 kd_o42 kd_ncX10_key rfl
theorem dX10_key_26 : decode cX10_key 26 = .ok (.getfield 236, 3) := kd_dk2 kd_o180 kd_ncX10_key rfl
theorem dX10_key_29 : decode cX10_key 29 = .ok (.iaload, 1) := kd_dk0 kd_o46 kd_ncX10_key rfl
theorem dX10_key_30 : decode cX10_key 30 = .ok (.if_icmp .ge 60, 3) := kd_dj2 kd_o162 (w := 60) kd_ncX10_key rfl rfl
theorem dX10_key_33 : decode cX10_key 33 = .ok (.aload_n 0, 1) := kd_dk0 kd_o42 kd_ncX10_key rfl
theorem dX10_key_34 : decode cX10_key 34 = .ok (.getfield 110, 3) := kd_dk2 kd_o180 kd_ncX10_key rfl
theorem dX10_key_37 : decode cX10_key 37 = .ok (.bipush 14, 2) := kd_dj1 kd_o16 (w := 14) kd_ncX10_key rfl rfl
theorem dX10_key_39 : decode cX10_key 39 = .ok (.iload_n 3, 1) := kd_dk0 kd_o29 kd_ncX10_key rfl
theorem dX10_key_40 : decode cX10_key 40 = .ok (.iadd, 1) := kd_dk0 kd_o96 kd_ncX10_key rfl
theorem dX10_key_41 : decode cX10_key 41 = .ok (.iaload, 1) := kd_dk0 kd_o46 kd_ncX10_key rfl
theorem dX10_key_42 : decode cX10_key 42 = .ok (.iconst 1, 1) := kd_dk0 kd_o4 kd_ncX10_key rfl
theorem dX10_key_43 : decode cX10_key 43 = .ok (.if_icmp .ne 6, 3) := kd_dj2 kd_o160 (w := 6) kd_ncX10_key rfl rfl
theorem dX10_key_46 : decode cX10_key 46 = .ok (.goto 38, 3) := kd_dj2 kd_o167 (w := 38) kd_ncX10_key rfl rfl
theorem dX10_key_49 : decode cX10_key 49 = .ok (.aload_n 0, 1) := kd_dk0 kd_o42 kd_ncX10_key rfl
theorem dX10_key_50 : decode cX10_key 50 = .ok (.invokevirtual 323, 3) := kd_dk2 kd_o182 kd_ncX10_key rfl
theorem dX10_key_53 : decode cX10_key 53 = .ok (.aload_n 0, 1) := kd_dk0 kd_o42 kd_ncX10_key rfl
theorem dX10_key_54 : decode cX10_key 54 = .ok (.getfield 113, 3) := kd_dk2 kd_o180 kd_ncX10_key rfl
theorem dX10_key_57 : decode cX10_key 57 = .ok (.bipush 14, 2) := kd_dj1 kd_o16 (w := 14) kd_ncX10_key rfl rfl
theorem dX10_key_59 : decode cX10_key 59 = .ok (.iload_n 3, 1) := kd_dk0 kd_o29 kd_ncX10_key rfl
theorem dX10_key_60 : decode cX10_key 60 = .ok (.iadd, 1) := kd_dk0 kd_o96 kd_ncX10_key rfl
theorem dX10_key_61 : decode cX10_key 61 = .ok (.iconst 1, 1) := kd_dk0 kd_o4 kd_ncX10_key rfl
theorem dX10_key_62 : decode cX10_key 62 = .ok (.iastore, 1) := kd_dk0 kd_o79 kd_ncX10_key rfl
theorem dX10_key_63 : decode cX10_key 63 = .ok (.aload_n 0, 1) := kd_dk0 kd_o42 kd_ncX10_key rfl
theorem dX10_key_64 : decode cX10_key 64 = .ok (.invokevirtual 351, 3) := kd_dk2 kd_o182 kd_ncX10_key rfl
theorem dX10_key_67 : decode cX10_key 67 = .ok (.aload_n 0, 1) := kd_dk0 kd_o42 kd_ncX10_key rfl
theorem dX10_key_68 : decode cX10_key 68 = .ok (.invokevirtual 400, 3) := kd_dk2 kd_o182 kd_ncX10_key rfl
theorem dX10_key_71 : decode cX10_key 71 = .ok (.invokestatic 436, 3) := kd_dk2 kd_o184 kd_ncX10_key rfl
theorem dX10_key_74 : decode cX10_key 74 = .ok (.iload_n 1, 1) := kd_dk0 kd_o27 kd_ncX10_key rfl
theorem dX10_key_75 : decode cX10_key 75 = .ok (.if_icmp .le 9, 3) := kd_dj2 kd_o164 (w := 9) kd_ncX10_key rfl rfl
theorem dX10_key_78 : decode cX10_key 78 = .ok (.iload_n 2, 1) := kd_dk0 kd_o28 kd_ncX10_key rfl
theorem dX10_key_79 : decode cX10_key 79 = .ok (.iconst 1, 1) := kd_dk0 kd_o4 kd_ncX10_key rfl
theorem dX10_key_80 : decode cX10_key 80 = .ok (.iload_n 3, 1) := kd_dk0 kd_o29 kd_ncX10_key rfl
theorem dX10_key_81 : decode cX10_key 81 = .ok (.ishl, 1) := kd_dk0 kd_o120 kd_ncX10_key rfl
theorem dX10_key_82 : decode cX10_key 82 = .ok (.ior, 1) := kd_dk0 kd_o128 kd_ncX10_key rfl
theorem dX10_key_83 : decode cX10_key 83 = .ok (.istore_n 2, 1) := kd_dk0 kd_o61 kd_ncX10_key rfl
theorem dX10_key_84 : decode cX10_key 84 = .ok (.iinc 3 1, 3) := kd_dji kd_o132 (w := 1) kd_ncX10_key rfl rfl
theorem dX10_key_87 : decode cX10_key 87 = .ok (.goto (-67), 3) := kd_dj2 kd_o167 (w := 65469) kd_ncX10_key rfl rfl
theorem dX10_key_90 : decode cX10_key 90 = .ok (.iload_n 2, 1) := kd_dk0 kd_o28 kd_ncX10_key rfl
theorem dX10_key_91 : decode cX10_key 91 = .ok (.ireturn, 1) := kd_dk0 kd_o172 kd_ncX10_key rfl
set_option maxHeartbeats 8000000 in
set_option maxRecDepth 100000 in
theorem c_x_key (l : Launch) (G : zz_G) (r : Nat → Nat) (j0 : Int32) (j2 : Int32) (j4 : Int32) (j10 : Int32) (j11 : Int32) (j12 : Int32) (j13 : Int32) (j14 : Int32) (j15 : Int32) (j16 : Int32) (j17 : Int32) (j19 : Int32) (j20 : Int32) (j34 : Int32) (j40 : Int32) (j44 : Int32) (j47 : Int32) (j50 : Int32) (j51 : Int32) (j56 : Int32) (j61 : Int32) (lv : Nat) (pp : Nat) (pq : Nat) (c22 : Nat → Int32) (c24 : Nat → Int32) (c25 : Nat → Int32) (c26 : Nat → Int32) (c28 : Nat → Int32) (c29 : Nat → Int32) (c30 : Nat → Int32) (c31 : Nat → Int32) (c32 : Nat → Int32) (c33 : Nat → Int32) (c35 : Nat → Int32) (c36 : Nat → Int32) (c37 : Nat → Int32) (c38 : Nat → Int32) (c39 : Nat → Int32) (c41 : Nat → Int32) (c42 : Nat → Int32) (c45 : Nat → Int32) (c46 : Nat → Int32) (c48 : Nat → Int32) (c49 : Nat → Int32) (c52 : Nat → Int32) (hlv : lv ≤ 1) (hpe : c22 lv = nI pp) (hpp : pp ≤ 7) (hpa : c26 lv = nI pq) (hpq : pq ≤ 6) (hlw : zz_LW 2 0 0 c32 c33 c35 c36 c37 c38 c39 c41 c42) (hca : ∀ j, j < 6 → zz_ok 7 (c52 j)) : zz_M l G mX10_key 5 0 0 [.ref (r 0)] [((r 0), .inr (10, (zz_mo r [(0, j0), (2, j2), (4, j4), (10, j10), (11, j11), (12, j12), (13, j13), (14, j14), (15, j15), (16, j16), (17, j17), (18, (nI lv)), (19, j19), (20, j20), (34, j34), (40, j40), (44, j44), (47, j47), (50, j50), (51, j51), (56, j56), (61, j61)]))), ((r 22), .inl (G.2 0, 2, .inl c22)), ((r 24), .inl (G.2 0, 14, .inl c24)), ((r 25), .inl (G.2 0, 14, .inl c25)), ((r 26), .inl (G.2 0, 2, .inl c26)), ((r 28), .inl (G.2 0, 12, .inl c28)), ((r 29), .inl (G.2 0, 12, .inl c29)), ((r 30), .inl (G.2 0, 2, .inl c30)), ((r 31), .inl (G.2 0, 2, .inl c31)), ((r 32), .inl (G.2 0, 8, .inl c32)), ((r 33), .inl (G.2 0, 8, .inl c33)), ((r 35), .inl (G.2 2, 260, .inl c35)), ((r 36), .inl (G.2 0, 260, .inl c36)), ((r 37), .inl (G.2 0, 260, .inl c37)), ((r 38), .inl (G.2 0, 260, .inl c38)), ((r 39), .inl (G.2 0, 260, .inl c39)), ((r 41), .inl (G.2 0, 840, .inl c41)), ((r 42), .inl (G.2 0, 840, .inl c42)), ((r 45), .inl (G.2 0, 9, .inl c45)), ((r 46), .inl (G.2 0, 400, .inl c46)), ((r 48), .inl (G.2 0, 71, .inl c48)), ((r 49), .inl (G.2 0, 71, .inl c49)), ((r 52), .inl (G.2 0, 6, .inl c52))] (fun rr u => ∃ (rv : Int32), ∃ (k47 : Int32), ∃ (k50 : Int32), ∃ (k51 : Int32), ∃ (d45 : Nat → Int32), ∃ (d46 : Nat → Int32), ∃ (d49 : Nat → Int32), ∃ (d52 : Nat → Int32), rr = some (.int rv) ∧ u = [((r 0), .inr (10, (zz_mo r [(0, j0), (2, j2), (4, j4), (10, j10), (11, j11), (12, j12), (13, j13), (14, j14), (15, j15), (16, j16), (17, j17), (18, (nI lv)), (19, j19), (20, j20), (34, j34), (40, j40), (44, j44), (47, k47), (50, k50), (51, k51), (56, j56), (61, j61)]))), ((r 22), .inl (G.2 0, 2, .inl c22)), ((r 24), .inl (G.2 0, 14, .inl c24)), ((r 25), .inl (G.2 0, 14, .inl c25)), ((r 26), .inl (G.2 0, 2, .inl c26)), ((r 28), .inl (G.2 0, 12, .inl c28)), ((r 29), .inl (G.2 0, 12, .inl c29)), ((r 30), .inl (G.2 0, 2, .inl c30)), ((r 31), .inl (G.2 0, 2, .inl c31)), ((r 32), .inl (G.2 0, 8, .inl c32)), ((r 33), .inl (G.2 0, 8, .inl c33)), ((r 35), .inl (G.2 2, 260, .inl c35)), ((r 36), .inl (G.2 0, 260, .inl c36)), ((r 37), .inl (G.2 0, 260, .inl c37)), ((r 38), .inl (G.2 0, 260, .inl c38)), ((r 39), .inl (G.2 0, 260, .inl c39)), ((r 41), .inl (G.2 0, 840, .inl c41)), ((r 42), .inl (G.2 0, 840, .inl c42)), ((r 45), .inl (G.2 0, 9, .inl d45)), ((r 46), .inl (G.2 0, 400, .inl d46)), ((r 48), .inl (G.2 0, 71, .inl c48)), ((r 49), .inl (G.2 0, 71, .inl d49)), ((r 52), .inl (G.2 0, 6, .inl d52))] ∧ (∃ τ C x, zy_q 71 c48 τ ∧ zr_FX (zr_HD lv c32 c33 c35 c36 c37 c38 c39 c41 c42 (c30 lv)) (fun Λ => zr_Sx 99 lv τ c24 c28 c25 c29 (Λ 0)) (fun x9 => τ (14 + x9) = 1) (c30 lv) pp pq C ∧ x = zS (fun j => zm_bit (zO (fun p => C p < 0) pq) (nI j)) 7 ∧ zKE (fun a v => ∃ τ C, zy_q 71 c48 τ ∧ zr_FX (zr_HD lv c32 c33 c35 c36 c37 c38 c39 c41 c42 (c30 lv)) (fun Λ => zr_Sx 99 lv (upd τ (14 + a) 1) c24 c28 c25 c29 (Λ 0)) (fun x9 => (upd τ (14 + a) 1) (14 + x9) = 1) (c30 lv) pp pq C ∧ v = zS (fun j => zm_bit (zO (fun p => C p < 0) pq) (nI j)) 7) (fun a => c48 (14 + a) = 1) (fun v => x < v) pp rv) ∧ (∀ j, j < 6 → zz_ok 7 (d52 j))) := by
  refine zz_enteri (by decide +kernel) (Nat.le_of_ble_eq_true rfl) ?_
  intro p e s m args below meth c A Q ls S hnm hret hw hl
  have hl : lv_has ls 4 [(0, .ref (r 0))] := hl
  have hx := S.1
  have hb := S.2.1
  refine lv_aload_n hx hb dX10_key_0 rfl (lv_at hl 0 rfl) ?_
  refine zz_callV (qb := 0) (As := []) (rest := []) (wr := [((r 22), .inl (G.2 0, 2, .inl c22)), ((r 24), .inl (G.2 0, 14, .inl c24)), ((r 25), .inl (G.2 0, 14, .inl c25)), ((r 26), .inl (G.2 0, 2, .inl c26)), ((r 28), .inl (G.2 0, 12, .inl c28)), ((r 29), .inl (G.2 0, 12, .inl c29)), ((r 30), .inl (G.2 0, 2, .inl c30)), ((r 32), .inl (G.2 0, 8, .inl c32)), ((r 33), .inl (G.2 0, 8, .inl c33)), ((r 35), .inl (G.2 2, 260, .inl c35)), ((r 36), .inl (G.2 0, 260, .inl c36)), ((r 37), .inl (G.2 0, 260, .inl c37)), ((r 38), .inl (G.2 0, 260, .inl c38)), ((r 39), .inl (G.2 0, 260, .inl c39)), ((r 41), .inl (G.2 0, 840, .inl c41)), ((r 42), .inl (G.2 0, 840, .inl c42)), ((r 45), .inl (G.2 0, 9, .inl c45)), ((r 46), .inl (G.2 0, 400, .inl c46)), ((r 52), .inl (G.2 0, 6, .inl c52))]) S hw hl.1 lX10_323 (c_x_copies l G r j0 j2 j4 j10 j11 j12 j13 j14 j15 j16 j17 j19 j20 j34 j40 j44 j47 j50 j51 j56 j61 lv c31 c48 c49 (by first | assumption | omega | exact Or.inr ⟨_, by omega, rfl⟩ | (unfold zz_sok; decide) | decide | exact (fun j hj => (hv7 j hj).1))) ⟨Nat.le_of_ble_eq_true rfl, Nat.le_of_ble_eq_true rfl⟩ ⟨Nat.le_of_ble_eq_true rfl, Nat.le_of_ble_eq_true rfl⟩ [0, 8, 20, 21] [1, 2, 3, 4, 5, 6, 7, 9, 10, 11, 12, 13, 14, 15, 16, 17, 18, 19, 22] (by decide +kernel) rfl rfl (by decide +kernel) (by decide +kernel) rfl rfl rfl rfl (Nat.le_of_ble_eq_true rfl) dX10_key_1 ?_
  clear hw
  intro rr u H locs hp hw
  refine hp.elim fun k50_1 zg0 => zg0.elim fun k51_2 zg1 => zg1.elim fun d49_3 zg2 => zg2.elim fun zee1 zg3 => zg3.elim fun zee2 zg4 => zg4.elim fun hq1_0 zg5 => zg5.elim fun hq1_1 hq1_2 => ?_
  clear hp zg0 zg1 zg2 zg3 zg4 zg5
  subst zee1
  subst zee2
  replace hw : zz_w G A s [((r 22), .inl (G.2 0, 2, .inl c22)), ((r 24), .inl (G.2 0, 14, .inl c24)), ((r 25), .inl (G.2 0, 14, .inl c25)), ((r 26), .inl (G.2 0, 2, .inl c26)), ((r 28), .inl (G.2 0, 12, .inl c28)), ((r 29), .inl (G.2 0, 12, .inl c29)), ((r 30), .inl (G.2 0, 2, .inl c30)), ((r 32), .inl (G.2 0, 8, .inl c32)), ((r 33), .inl (G.2 0, 8, .inl c33)), ((r 35), .inl (G.2 2, 260, .inl c35)), ((r 36), .inl (G.2 0, 260, .inl c36)), ((r 37), .inl (G.2 0, 260, .inl c37)), ((r 38), .inl (G.2 0, 260, .inl c38)), ((r 39), .inl (G.2 0, 260, .inl c39)), ((r 41), .inl (G.2 0, 840, .inl c41)), ((r 42), .inl (G.2 0, 840, .inl c42)), ((r 45), .inl (G.2 0, 9, .inl c45)), ((r 46), .inl (G.2 0, 400, .inl c46)), ((r 52), .inl (G.2 0, 6, .inl c52)), ((r 0), .inr (10, (zz_mo r [(0, j0), (2, j2), (4, j4), (10, j10), (11, j11), (12, j12), (13, j13), (14, j14), (15, j15), (16, j16), (17, j17), (18, (nI lv)), (19, j19), (20, j20), (34, j34), (40, j40), (44, j44), (47, j47), (50, k50_1), (51, k51_2), (56, j56), (61, j61)]))), ((r 31), .inl (G.2 0, 2, .inl c31)), ((r 48), .inl (G.2 0, 71, .inl c48)), ((r 49), .inl (G.2 0, 71, .inl d49_3))] H _ := hw
  refine W.eq (g2 := F0 m 4 ls []) rfl ?_
  refine lv_aload_n hx hb dX10_key_4 rfl (lv_at hl 0 rfl) ?_
  refine zz_callV (qb := 19) (As := []) (rest := []) (wr := [((r 31), .inl (G.2 0, 2, .inl c31)), ((r 48), .inl (G.2 0, 71, .inl c48))]) S hw hl.1 lX10_351 (c_x_casts l G r j0 j2 j4 j10 j11 j12 j13 j14 j15 j16 j17 j19 j20 j34 j40 j44 j47 k50_1 k51_2 j56 j61 lv pp pq c22 c24 c25 c26 c28 c29 c30 c32 c33 c35 c36 c37 c38 c39 c41 c42 c45 c46 d49_3 c52 (by first | assumption | omega | exact Or.inr ⟨_, by omega, rfl⟩ | (unfold zz_sok; decide) | decide | exact (fun j hj => (hv7 j hj).1)) (by first | assumption | omega | exact Or.inr ⟨_, by omega, rfl⟩ | (unfold zz_sok; decide) | decide | exact (fun j hj => (hv7 j hj).1)) (by first | assumption | omega | exact Or.inr ⟨_, by omega, rfl⟩ | (unfold zz_sok; decide) | decide | exact (fun j hj => (hv7 j hj).1)) (by first | assumption | omega | exact Or.inr ⟨_, by omega, rfl⟩ | (unfold zz_sok; decide) | decide | exact (fun j hj => (hv7 j hj).1)) (by first | assumption | omega | exact Or.inr ⟨_, by omega, rfl⟩ | (unfold zz_sok; decide) | decide | exact (fun j hj => (hv7 j hj).1)) (by first | assumption | omega | exact Or.inr ⟨_, by omega, rfl⟩ | (unfold zz_sok; decide) | decide | exact (fun j hj => (hv7 j hj).1)) (by first | assumption | omega | exact Or.inr ⟨_, by omega, rfl⟩ | (unfold zz_sok; decide) | decide | exact (fun j hj => (hv7 j hj).1))) ⟨Nat.le_of_ble_eq_true rfl, Nat.le_of_ble_eq_true rfl⟩ ⟨Nat.le_of_ble_eq_true rfl, Nat.le_of_ble_eq_true rfl⟩ [19, 0, 1, 2, 3, 4, 5, 6, 7, 8, 9, 10, 11, 12, 13, 14, 15, 16, 17, 22, 18] [20, 21] (by decide +kernel) rfl rfl (by decide +kernel) (by decide +kernel) rfl rfl rfl rfl (Nat.le_of_ble_eq_true rfl) dX10_key_5 ?_
  clear hw
  intro rr u H locs hp hw
  refine hp.elim fun k47_4 zg0 => zg0.elim fun d45_5 zg1 => zg1.elim fun d46_6 zg2 => zg2.elim fun d52_7 zg3 => zg3.elim fun zee1 zg4 => zg4.elim fun zee2 zg5 => zg5.elim fun hq5_0 hq5_1 => ?_
  clear hp zg0 zg1 zg2 zg3 zg4 zg5
  subst zee1
  subst zee2
  replace hw : zz_w G A s [((r 31), .inl (G.2 0, 2, .inl c31)), ((r 48), .inl (G.2 0, 71, .inl c48)), ((r 0), .inr (10, (zz_mo r [(0, j0), (2, j2), (4, j4), (10, j10), (11, j11), (12, j12), (13, j13), (14, j14), (15, j15), (16, j16), (17, j17), (18, (nI lv)), (19, j19), (20, j20), (34, j34), (40, j40), (44, j44), (47, k47_4), (50, k50_1), (51, k51_2), (56, j56), (61, j61)]))), ((r 22), .inl (G.2 0, 2, .inl c22)), ((r 24), .inl (G.2 0, 14, .inl c24)), ((r 25), .inl (G.2 0, 14, .inl c25)), ((r 26), .inl (G.2 0, 2, .inl c26)), ((r 28), .inl (G.2 0, 12, .inl c28)), ((r 29), .inl (G.2 0, 12, .inl c29)), ((r 30), .inl (G.2 0, 2, .inl c30)), ((r 32), .inl (G.2 0, 8, .inl c32)), ((r 33), .inl (G.2 0, 8, .inl c33)), ((r 35), .inl (G.2 2, 260, .inl c35)), ((r 36), .inl (G.2 0, 260, .inl c36)), ((r 37), .inl (G.2 0, 260, .inl c37)), ((r 38), .inl (G.2 0, 260, .inl c38)), ((r 39), .inl (G.2 0, 260, .inl c39)), ((r 41), .inl (G.2 0, 840, .inl c41)), ((r 42), .inl (G.2 0, 840, .inl c42)), ((r 45), .inl (G.2 0, 9, .inl d45_5)), ((r 46), .inl (G.2 0, 400, .inl d46_6)), ((r 49), .inl (G.2 0, 71, .inl d49_3)), ((r 52), .inl (G.2 0, 6, .inl d52_7))] H _ := hw
  refine W.eq (g2 := F0 m 8 ls []) rfl ?_
  refine lv_aload_n hx hb dX10_key_8 rfl (lv_at hl 0 rfl) ?_
  refine zz_callV (qb := 2) (As := []) (rest := []) (wr := [((r 31), .inl (G.2 0, 2, .inl c31)), ((r 48), .inl (G.2 0, 71, .inl c48)), ((r 22), .inl (G.2 0, 2, .inl c22)), ((r 24), .inl (G.2 0, 14, .inl c24)), ((r 25), .inl (G.2 0, 14, .inl c25)), ((r 28), .inl (G.2 0, 12, .inl c28)), ((r 29), .inl (G.2 0, 12, .inl c29)), ((r 30), .inl (G.2 0, 2, .inl c30)), ((r 32), .inl (G.2 0, 8, .inl c32)), ((r 33), .inl (G.2 0, 8, .inl c33)), ((r 35), .inl (G.2 2, 260, .inl c35)), ((r 36), .inl (G.2 0, 260, .inl c36)), ((r 37), .inl (G.2 0, 260, .inl c37)), ((r 38), .inl (G.2 0, 260, .inl c38)), ((r 39), .inl (G.2 0, 260, .inl c39)), ((r 41), .inl (G.2 0, 840, .inl c41)), ((r 42), .inl (G.2 0, 840, .inl c42)), ((r 45), .inl (G.2 0, 9, .inl d45_5)), ((r 46), .inl (G.2 0, 400, .inl d46_6)), ((r 49), .inl (G.2 0, 71, .inl d49_3))]) S hw hl.1 lX10_400 (c_x_emptyBits l G r j0 j2 j4 j10 j11 j12 j13 j14 j15 j16 j17 j19 j20 j34 j40 j44 k47_4 k50_1 k51_2 j56 j61 lv pq c26 d52_7 (by first | assumption | omega | exact Or.inr ⟨_, by omega, rfl⟩ | (unfold zz_sok; decide) | decide | exact (fun j hj => (hv7 j hj).1)) (by first | assumption | omega | exact Or.inr ⟨_, by omega, rfl⟩ | (unfold zz_sok; decide) | decide | exact (fun j hj => (hv7 j hj).1)) (by first | assumption | omega | exact Or.inr ⟨_, by omega, rfl⟩ | (unfold zz_sok; decide) | decide | exact (fun j hj => (hv7 j hj).1)) (by first | assumption | omega | exact Or.inr ⟨_, by omega, rfl⟩ | (unfold zz_sok; decide) | decide | exact (fun j hj => (hv7 j hj).1))) ⟨Nat.le_of_ble_eq_true rfl, Nat.le_of_ble_eq_true rfl⟩ ⟨Nat.le_of_ble_eq_true rfl, Nat.le_of_ble_eq_true rfl⟩ [2, 6, 22] [0, 1, 3, 4, 5, 7, 8, 9, 10, 11, 12, 13, 14, 15, 16, 17, 18, 19, 20, 21] (by decide +kernel) rfl rfl (by decide +kernel) (by decide +kernel) rfl rfl rfl rfl (Nat.le_of_ble_eq_true rfl) dX10_key_9 ?_
  clear hw
  intro rr u H locs hp hw
  refine hp.elim fun rv_8 zg0 => zg0.elim fun zee1 zg1 => zg1.elim fun zee2 hq9_0 => ?_
  clear hp zg0 zg1
  subst zee1
  subst zee2
  replace hw : zz_w G A s [((r 31), .inl (G.2 0, 2, .inl c31)), ((r 48), .inl (G.2 0, 71, .inl c48)), ((r 22), .inl (G.2 0, 2, .inl c22)), ((r 24), .inl (G.2 0, 14, .inl c24)), ((r 25), .inl (G.2 0, 14, .inl c25)), ((r 28), .inl (G.2 0, 12, .inl c28)), ((r 29), .inl (G.2 0, 12, .inl c29)), ((r 30), .inl (G.2 0, 2, .inl c30)), ((r 32), .inl (G.2 0, 8, .inl c32)), ((r 33), .inl (G.2 0, 8, .inl c33)), ((r 35), .inl (G.2 2, 260, .inl c35)), ((r 36), .inl (G.2 0, 260, .inl c36)), ((r 37), .inl (G.2 0, 260, .inl c37)), ((r 38), .inl (G.2 0, 260, .inl c38)), ((r 39), .inl (G.2 0, 260, .inl c39)), ((r 41), .inl (G.2 0, 840, .inl c41)), ((r 42), .inl (G.2 0, 840, .inl c42)), ((r 45), .inl (G.2 0, 9, .inl d45_5)), ((r 46), .inl (G.2 0, 400, .inl d46_6)), ((r 49), .inl (G.2 0, 71, .inl d49_3)), ((r 0), .inr (10, (zz_mo r [(0, j0), (2, j2), (4, j4), (10, j10), (11, j11), (12, j12), (13, j13), (14, j14), (15, j15), (16, j16), (17, j17), (18, (nI lv)), (19, j19), (20, j20), (34, j34), (40, j40), (44, j44), (47, k47_4), (50, k50_1), (51, k51_2), (56, j56), (61, j61)]))), ((r 26), .inl (G.2 0, 2, .inl c26)), ((r 52), .inl (G.2 0, 6, .inl d52_7))] H _ := hw
  refine W.eq (g2 := F0 m 12 ls [.int rv_8]) rfl ?_
  refine zz_callS (As := [.int rv_8]) (rest := []) (wr := [((r 31), .inl (G.2 0, 2, .inl c31)), ((r 48), .inl (G.2 0, 71, .inl c48)), ((r 22), .inl (G.2 0, 2, .inl c22)), ((r 24), .inl (G.2 0, 14, .inl c24)), ((r 25), .inl (G.2 0, 14, .inl c25)), ((r 28), .inl (G.2 0, 12, .inl c28)), ((r 29), .inl (G.2 0, 12, .inl c29)), ((r 30), .inl (G.2 0, 2, .inl c30)), ((r 32), .inl (G.2 0, 8, .inl c32)), ((r 33), .inl (G.2 0, 8, .inl c33)), ((r 35), .inl (G.2 2, 260, .inl c35)), ((r 36), .inl (G.2 0, 260, .inl c36)), ((r 37), .inl (G.2 0, 260, .inl c37)), ((r 38), .inl (G.2 0, 260, .inl c38)), ((r 39), .inl (G.2 0, 260, .inl c39)), ((r 41), .inl (G.2 0, 840, .inl c41)), ((r 42), .inl (G.2 0, 840, .inl c42)), ((r 45), .inl (G.2 0, 9, .inl d45_5)), ((r 46), .inl (G.2 0, 400, .inl d46_6)), ((r 49), .inl (G.2 0, 71, .inl d49_3)), ((r 0), .inr (10, (zz_mo r [(0, j0), (2, j2), (4, j4), (10, j10), (11, j11), (12, j12), (13, j13), (14, j14), (15, j15), (16, j16), (17, j17), (18, (nI lv)), (19, j19), (20, j20), (34, j34), (40, j40), (44, j44), (47, k47_4), (50, k50_1), (51, k51_2), (56, j56), (61, j61)]))), ((r 26), .inl (G.2 0, 2, .inl c26)), ((r 52), .inl (G.2 0, 6, .inl d52_7))]) S hw hl.1 lX10_436 (c_x_bits l G rv_8) ⟨Nat.le_of_ble_eq_true rfl, Nat.le_of_ble_eq_true rfl⟩ ⟨Nat.le_of_ble_eq_true rfl, Nat.le_of_ble_eq_true rfl⟩ [] [0, 1, 2, 3, 4, 5, 6, 7, 8, 9, 10, 11, 12, 13, 14, 15, 16, 17, 18, 19, 20, 21, 22] (by decide +kernel) rfl rfl (by decide +kernel) (by decide +kernel) rfl rfl (Nat.le_of_ble_eq_true rfl) dX10_key_12 ?_
  clear hw
  intro rr u H locs hp hw
  refine hp.elim fun rv_9 zg0 => zg0.elim fun zee1 zg1 => zg1.elim fun zee2 hq12_0 => ?_
  clear hp zg0 zg1
  subst zee1
  subst zee2
  replace hw : zz_w G A s [((r 31), .inl (G.2 0, 2, .inl c31)), ((r 48), .inl (G.2 0, 71, .inl c48)), ((r 22), .inl (G.2 0, 2, .inl c22)), ((r 24), .inl (G.2 0, 14, .inl c24)), ((r 25), .inl (G.2 0, 14, .inl c25)), ((r 28), .inl (G.2 0, 12, .inl c28)), ((r 29), .inl (G.2 0, 12, .inl c29)), ((r 30), .inl (G.2 0, 2, .inl c30)), ((r 32), .inl (G.2 0, 8, .inl c32)), ((r 33), .inl (G.2 0, 8, .inl c33)), ((r 35), .inl (G.2 2, 260, .inl c35)), ((r 36), .inl (G.2 0, 260, .inl c36)), ((r 37), .inl (G.2 0, 260, .inl c37)), ((r 38), .inl (G.2 0, 260, .inl c38)), ((r 39), .inl (G.2 0, 260, .inl c39)), ((r 41), .inl (G.2 0, 840, .inl c41)), ((r 42), .inl (G.2 0, 840, .inl c42)), ((r 45), .inl (G.2 0, 9, .inl d45_5)), ((r 46), .inl (G.2 0, 400, .inl d46_6)), ((r 49), .inl (G.2 0, 71, .inl d49_3)), ((r 0), .inr (10, (zz_mo r [(0, j0), (2, j2), (4, j4), (10, j10), (11, j11), (12, j12), (13, j13), (14, j14), (15, j15), (16, j16), (17, j17), (18, (nI lv)), (19, j19), (20, j20), (34, j34), (40, j40), (44, j44), (47, k47_4), (50, k50_1), (51, k51_2), (56, j56), (61, j61)]))), ((r 26), .inl (G.2 0, 2, .inl c26)), ((r 52), .inl (G.2 0, 6, .inl d52_7))] H _ := hw
  refine W.eq (g2 := F0 m 15 ls [.int rv_9]) rfl ?_
  refine lv_istore_n (lv' := [(1, .int rv_9), (0, .ref (r 0))]) hx hb dX10_key_15 rfl hl (by decide) rfl (fun ls hl => ?_)
  refine lv_iconst (v := 0) hx hb dX10_key_16 (by decide) ?_
  refine lv_istore_n (lv' := [(2, .int 0), (1, .int rv_9), (0, .ref (r 0))]) hx hb dX10_key_17 rfl hl (by decide) rfl (fun ls hl => ?_)
  refine lv_iconst (v := 0) hx hb dX10_key_18 (by decide) ?_
  refine lv_istore_n (lv' := [(3, .int 0), (2, .int 0), (1, .int rv_9), (0, .ref (r 0))]) hx hb dX10_key_19 rfl hl (by decide) rfl (fun ls hl => ?_)
  have lp20_63 : ∀ (vn11 vi10 : Nat) (vy39 : Int32) (vF40 : Nat → Int32) (vF41 : Nat → Int32) (vF42 : Nat → Int32) (vy43 : Int32) (vy44 : Int32) (vy45 : Int32) (vF46 : Nat → Int32) (H : Heap) (locs : List Loc) (ls : Array Slot), vi10 ≤ pp → pp < vi10 + vn11 → (∀ j, j < 6 → zz_ok 7 (vF46 j)) → zKE (fun a v => ∃ τ C, zy_q 71 c48 τ ∧ zr_FX (zr_HD lv c32 c33 c35 c36 c37 c38 c39 c41 c42 (c30 lv)) (fun Λ => zr_Sx 99 lv (upd τ (14 + a) 1) c24 c28 c25 c29 (Λ 0)) (fun x9 => (upd τ (14 + a) 1) (14 + x9) = 1) (c30 lv) pp pq C ∧ v = zS (fun j => zm_bit (zO (fun p => C p < 0) pq) (nI j)) 7) (fun a => c48 (14 + a) = 1) (fun v => rv_9 < v) vi10 vy39 → zz_w G A s [((r 31), .inl (G.2 0, 2, .inl c31)), ((r 48), .inl (G.2 0, 71, .inl c48)), ((r 22), .inl (G.2 0, 2, .inl c22)), ((r 24), .inl (G.2 0, 14, .inl c24)), ((r 25), .inl (G.2 0, 14, .inl c25)), ((r 28), .inl (G.2 0, 12, .inl c28)), ((r 29), .inl (G.2 0, 12, .inl c29)), ((r 30), .inl (G.2 0, 2, .inl c30)), ((r 32), .inl (G.2 0, 8, .inl c32)), ((r 33), .inl (G.2 0, 8, .inl c33)), ((r 35), .inl (G.2 2, 260, .inl c35)), ((r 36), .inl (G.2 0, 260, .inl c36)), ((r 37), .inl (G.2 0, 260, .inl c37)), ((r 38), .inl (G.2 0, 260, .inl c38)), ((r 39), .inl (G.2 0, 260, .inl c39)), ((r 41), .inl (G.2 0, 840, .inl c41)), ((r 42), .inl (G.2 0, 840, .inl c42)), ((r 45), .inl (G.2 0, 9, .inl vF40)), ((r 46), .inl (G.2 0, 400, .inl vF41)), ((r 49), .inl (G.2 0, 71, .inl vF42)), ((r 0), .inr (10, (zz_mo r [(0, j0), (2, j2), (4, j4), (10, j10), (11, j11), (12, j12), (13, j13), (14, j14), (15, j15), (16, j16), (17, j17), (18, (nI lv)), (19, j19), (20, j20), (34, j34), (40, j40), (44, j44), (47, vy43), (50, vy44), (51, vy45), (56, j56), (61, j61)]))), ((r 26), .inl (G.2 0, 2, .inl c26)), ((r 52), .inl (G.2 0, 6, .inl vF46))] H locs → lv_has ls 4 [(3, .int (nI vi10)), (2, .int vy39), (1, .int rv_9), (0, .ref (r 0))] → W p l e (zz_rm 5 0 0) s m args below meth c H locs (0) (0) Q (F0 m 20 ls []) := by
    intro vn11
    induction vn11 with
    | zero => intro vi10 vy39 vF40 vF41 vF42 vy43 vy44 vy45 vF46 H locs ls hi1 hi2; exact absurd hi2 (by omega)
    | succ vn11 ih20 =>
      intro vi10 vy39 vF40 vF41 vF42 vy43 vy44 vy45 vF46 H locs ls hi20a hi20b hv20_61 hv20_62 hw hl
      refine lv_iload_n hx hb dX10_key_20 rfl (lv_at hl 0 rfl) ?_
      refine lv_aload_n hx hb dX10_key_21 rfl (lv_at hl 3 rfl) ?_
      refine W.eq (g2 := F0 m 22 ls [.ref (r 0), .int (nI vi10)]) rfl ?_
      refine zz_get (v := .ref (r 22)) S hw fgX10_43 20 rfl rfl dX10_key_22 ?_
      refine lv_aload_n hx hb dX10_key_25 rfl (lv_at hl 3 rfl) ?_
      refine zz_get (v := .int (nI lv)) S hw fgX10_236 20 rfl rfl dX10_key_26 ?_
      refine zz_iald (v := (nI pp)) S hw 2 rfl (vp_in_nI (n := lv) (by omega) (by decide)) (by rw [show ((nI lv) : Int32).toNatClampNeg = lv from nI_clamp (n := lv) (by omega)]; exact hpe) dX10_key_29 ?_
      refine lv_icmp_ge (tgt := 90) hx hb dX10_key_30 (by decide) (fun c30_64 => ?_) (fun c30_64 => ?_)
      · skip
        have c30_64n : pp ≤ vi10 := (zz_le (a := pp) (b := vi10) rfl rfl (by omega) (by omega)).mp c30_64
        refine lv_iload_n hx hb dX10_key_90 rfl (lv_at hl 1 rfl) ?_
        exact hret _ _ _ _ _ _ ⟨vy39, vy43, vy44, vy45, vF40, vF41, vF42, vF46, rfl, rfl, ⟨_, _, _, hq1_0, hq5_0, zA_bt hq9_0 hq12_0, zKE_e hv20_62 (by omega)⟩, (by first | assumption | exact Or.inl rfl | exact Or.inr rfl | omega | exact Or.inr (by assumption) | exact zz_oku (by assumption) (by first | exact Or.inl rfl | exact Or.inr ⟨_, by omega, rfl⟩))⟩ (hw.sub [20, 2, 3, 4, 21, 5, 6, 7, 0, 8, 9, 10, 11, 12, 13, 14, 15, 16, 17, 18, 1, 19, 22] (by decide +kernel) rfl) rfl dX10_key_91
      · skip
        have c30_64n : ¬ (pp ≤ vi10) := fun z => c30_64 ((zz_le (a := pp) (b := vi10) rfl rfl (by omega) (by omega)).mpr z)
        refine lv_aload_n hx hb dX10_key_33 rfl (lv_at hl 3 rfl) ?_
        refine zz_get (v := .ref (r 48)) S hw fgX10_110 20 rfl rfl dX10_key_34 ?_
        refine lv_bipush (v := 14) hx hb dX10_key_37 (by decide) ?_
        refine lv_iload_n hx hb dX10_key_39 rfl (lv_at hl 0 rfl) ?_
        refine lv_iadd hx hb dX10_key_40 ?_
        refine zz_topi (y := (nI (14 + vi10))) (nI_add _ _) ?_
        refine zz_iald (v := (c48 (14 + vi10))) S hw 1 rfl (vp_in_nI (n := (14 + vi10)) (by omega) (by decide)) (congrArg c48 (nI_clamp (n := (14 + vi10)) (by omega))) dX10_key_41 ?_
        refine lv_iconst (v := 1) hx hb dX10_key_42 (by decide) ?_
        refine lv_icmp_ne (tgt := 49) hx hb dX10_key_43 (by decide) (fun c43_65 => ?_) (fun c43_65 => ?_)
        · skip
          refine lv_aload_n hx hb dX10_key_49 rfl (lv_at hl 3 rfl) ?_
          refine zz_callV (qb := 20) (As := []) (rest := []) (wr := [((r 22), .inl (G.2 0, 2, .inl c22)), ((r 24), .inl (G.2 0, 14, .inl c24)), ((r 25), .inl (G.2 0, 14, .inl c25)), ((r 28), .inl (G.2 0, 12, .inl c28)), ((r 29), .inl (G.2 0, 12, .inl c29)), ((r 30), .inl (G.2 0, 2, .inl c30)), ((r 32), .inl (G.2 0, 8, .inl c32)), ((r 33), .inl (G.2 0, 8, .inl c33)), ((r 35), .inl (G.2 2, 260, .inl c35)), ((r 36), .inl (G.2 0, 260, .inl c36)), ((r 37), .inl (G.2 0, 260, .inl c37)), ((r 38), .inl (G.2 0, 260, .inl c38)), ((r 39), .inl (G.2 0, 260, .inl c39)), ((r 41), .inl (G.2 0, 840, .inl c41)), ((r 42), .inl (G.2 0, 840, .inl c42)), ((r 45), .inl (G.2 0, 9, .inl vF40)), ((r 46), .inl (G.2 0, 400, .inl vF41)), ((r 26), .inl (G.2 0, 2, .inl c26)), ((r 52), .inl (G.2 0, 6, .inl vF46))]) S hw hl.1 lX10_323 (c_x_copies l G r j0 j2 j4 j10 j11 j12 j13 j14 j15 j16 j17 j19 j20 j34 j40 j44 vy43 vy44 vy45 j56 j61 lv c31 c48 vF42 (by first | assumption | omega | exact Or.inr ⟨_, by omega, rfl⟩ | (unfold zz_sok; decide) | decide | exact (fun j hj => (hv7 j hj).1))) ⟨Nat.le_of_ble_eq_true rfl, Nat.le_of_ble_eq_true rfl⟩ ⟨Nat.le_of_ble_eq_true rfl, Nat.le_of_ble_eq_true rfl⟩ [20, 0, 1, 19] [2, 3, 4, 5, 6, 7, 8, 9, 10, 11, 12, 13, 14, 15, 16, 17, 18, 21, 22] (by decide +kernel) rfl rfl (by decide +kernel) (by decide +kernel) rfl rfl rfl rfl (Nat.le_of_ble_eq_true rfl) dX10_key_50 ?_
          clear hw
          intro rr u H locs hp hw
          refine hp.elim fun k50_66 zg0 => zg0.elim fun k51_67 zg1 => zg1.elim fun d49_68 zg2 => zg2.elim fun zee1 zg3 => zg3.elim fun zee2 zg4 => zg4.elim fun hq50_0 zg5 => zg5.elim fun hq50_1 hq50_2 => ?_
          clear hp zg0 zg1 zg2 zg3 zg4 zg5
          subst zee1
          subst zee2
          replace hw : zz_w G A s [((r 22), .inl (G.2 0, 2, .inl c22)), ((r 24), .inl (G.2 0, 14, .inl c24)), ((r 25), .inl (G.2 0, 14, .inl c25)), ((r 28), .inl (G.2 0, 12, .inl c28)), ((r 29), .inl (G.2 0, 12, .inl c29)), ((r 30), .inl (G.2 0, 2, .inl c30)), ((r 32), .inl (G.2 0, 8, .inl c32)), ((r 33), .inl (G.2 0, 8, .inl c33)), ((r 35), .inl (G.2 2, 260, .inl c35)), ((r 36), .inl (G.2 0, 260, .inl c36)), ((r 37), .inl (G.2 0, 260, .inl c37)), ((r 38), .inl (G.2 0, 260, .inl c38)), ((r 39), .inl (G.2 0, 260, .inl c39)), ((r 41), .inl (G.2 0, 840, .inl c41)), ((r 42), .inl (G.2 0, 840, .inl c42)), ((r 45), .inl (G.2 0, 9, .inl vF40)), ((r 46), .inl (G.2 0, 400, .inl vF41)), ((r 26), .inl (G.2 0, 2, .inl c26)), ((r 52), .inl (G.2 0, 6, .inl vF46)), ((r 0), .inr (10, (zz_mo r [(0, j0), (2, j2), (4, j4), (10, j10), (11, j11), (12, j12), (13, j13), (14, j14), (15, j15), (16, j16), (17, j17), (18, (nI lv)), (19, j19), (20, j20), (34, j34), (40, j40), (44, j44), (47, vy43), (50, k50_66), (51, k51_67), (56, j56), (61, j61)]))), ((r 31), .inl (G.2 0, 2, .inl c31)), ((r 48), .inl (G.2 0, 71, .inl c48)), ((r 49), .inl (G.2 0, 71, .inl d49_68))] H _ := hw
          refine W.eq (g2 := F0 m 53 ls []) rfl ?_
          refine W.eq (g2 := F0 m 53 ls []) rfl ?_
          refine lv_aload_n hx hb dX10_key_53 rfl (lv_at hl 3 rfl) ?_
          refine zz_get (v := .ref (r 49)) S hw fgX10_113 19 rfl rfl dX10_key_54 ?_
          refine lv_bipush (v := 14) hx hb dX10_key_57 (by decide) ?_
          refine lv_iload_n hx hb dX10_key_59 rfl (lv_at hl 0 rfl) ?_
          refine lv_iadd hx hb dX10_key_60 ?_
          refine zz_topi (y := (nI (14 + vi10))) (nI_add _ _) ?_
          refine lv_iconst (v := 1) hx hb dX10_key_61 (by decide) ?_
          refine zz_iast (ws' := [((r 22), .inl (G.2 0, 2, .inl c22)), ((r 24), .inl (G.2 0, 14, .inl c24)), ((r 25), .inl (G.2 0, 14, .inl c25)), ((r 28), .inl (G.2 0, 12, .inl c28)), ((r 29), .inl (G.2 0, 12, .inl c29)), ((r 30), .inl (G.2 0, 2, .inl c30)), ((r 32), .inl (G.2 0, 8, .inl c32)), ((r 33), .inl (G.2 0, 8, .inl c33)), ((r 35), .inl (G.2 2, 260, .inl c35)), ((r 36), .inl (G.2 0, 260, .inl c36)), ((r 37), .inl (G.2 0, 260, .inl c37)), ((r 38), .inl (G.2 0, 260, .inl c38)), ((r 39), .inl (G.2 0, 260, .inl c39)), ((r 41), .inl (G.2 0, 840, .inl c41)), ((r 42), .inl (G.2 0, 840, .inl c42)), ((r 45), .inl (G.2 0, 9, .inl vF40)), ((r 46), .inl (G.2 0, 400, .inl vF41)), ((r 26), .inl (G.2 0, 2, .inl c26)), ((r 52), .inl (G.2 0, 6, .inl vF46)), ((r 0), .inr (10, (zz_mo r [(0, j0), (2, j2), (4, j4), (10, j10), (11, j11), (12, j12), (13, j13), (14, j14), (15, j15), (16, j16), (17, j17), (18, (nI lv)), (19, j19), (20, j20), (34, j34), (40, j40), (44, j44), (47, vy43), (50, k50_66), (51, k51_67), (56, j56), (61, j61)]))), ((r 31), .inl (G.2 0, 2, .inl c31)), ((r 48), .inl (G.2 0, 71, .inl c48)), ((r 49), .inl (G.2 0, 71, .inl (upd d49_68 (14 + vi10) 1)))]) (g := (upd d49_68 (14 + vi10) 1)) S hw 22 rfl (vp_in_nI (n := (14 + vi10)) (by omega) (by decide)) (zz_upn (n := (14 + vi10)) (by omega)) rfl dX10_key_62 ?_
          clear hw
          intro H locs hw
          refine lv_aload_n hx hb dX10_key_63 rfl (lv_at hl 3 rfl) ?_
          refine zz_callV (qb := 19) (As := []) (rest := []) (wr := [((r 31), .inl (G.2 0, 2, .inl c31)), ((r 48), .inl (G.2 0, 71, .inl c48))]) S hw hl.1 lX10_351 (c_x_casts l G r j0 j2 j4 j10 j11 j12 j13 j14 j15 j16 j17 j19 j20 j34 j40 j44 vy43 k50_66 k51_67 j56 j61 lv pp pq c22 c24 c25 c26 c28 c29 c30 c32 c33 c35 c36 c37 c38 c39 c41 c42 vF40 vF41 (upd d49_68 (14 + vi10) 1) vF46 (by first | assumption | omega | exact Or.inr ⟨_, by omega, rfl⟩ | (unfold zz_sok; decide) | decide | exact (fun j hj => (hv7 j hj).1)) (by first | assumption | omega | exact Or.inr ⟨_, by omega, rfl⟩ | (unfold zz_sok; decide) | decide | exact (fun j hj => (hv7 j hj).1)) (by first | assumption | omega | exact Or.inr ⟨_, by omega, rfl⟩ | (unfold zz_sok; decide) | decide | exact (fun j hj => (hv7 j hj).1)) (by first | assumption | omega | exact Or.inr ⟨_, by omega, rfl⟩ | (unfold zz_sok; decide) | decide | exact (fun j hj => (hv7 j hj).1)) (by first | assumption | omega | exact Or.inr ⟨_, by omega, rfl⟩ | (unfold zz_sok; decide) | decide | exact (fun j hj => (hv7 j hj).1)) (by first | assumption | omega | exact Or.inr ⟨_, by omega, rfl⟩ | (unfold zz_sok; decide) | decide | exact (fun j hj => (hv7 j hj).1)) (by first | assumption | omega | exact Or.inr ⟨_, by omega, rfl⟩ | (unfold zz_sok; decide) | decide | exact (fun j hj => (hv7 j hj).1))) ⟨Nat.le_of_ble_eq_true rfl, Nat.le_of_ble_eq_true rfl⟩ ⟨Nat.le_of_ble_eq_true rfl, Nat.le_of_ble_eq_true rfl⟩ [19, 0, 1, 2, 17, 3, 4, 5, 6, 7, 8, 9, 10, 11, 12, 13, 14, 15, 16, 22, 18] [20, 21] (by decide +kernel) rfl rfl (by decide +kernel) (by decide +kernel) rfl rfl rfl rfl (Nat.le_of_ble_eq_true rfl) dX10_key_64 ?_
          clear hw
          intro rr u H locs hp hw
          refine hp.elim fun k47_69 zg0 => zg0.elim fun d45_70 zg1 => zg1.elim fun d46_71 zg2 => zg2.elim fun d52_72 zg3 => zg3.elim fun zee1 zg4 => zg4.elim fun zee2 zg5 => zg5.elim fun hq64_0 hq64_1 => ?_
          clear hp zg0 zg1 zg2 zg3 zg4 zg5
          subst zee1
          subst zee2
          replace hw : zz_w G A s [((r 31), .inl (G.2 0, 2, .inl c31)), ((r 48), .inl (G.2 0, 71, .inl c48)), ((r 0), .inr (10, (zz_mo r [(0, j0), (2, j2), (4, j4), (10, j10), (11, j11), (12, j12), (13, j13), (14, j14), (15, j15), (16, j16), (17, j17), (18, (nI lv)), (19, j19), (20, j20), (34, j34), (40, j40), (44, j44), (47, k47_69), (50, k50_66), (51, k51_67), (56, j56), (61, j61)]))), ((r 22), .inl (G.2 0, 2, .inl c22)), ((r 24), .inl (G.2 0, 14, .inl c24)), ((r 25), .inl (G.2 0, 14, .inl c25)), ((r 26), .inl (G.2 0, 2, .inl c26)), ((r 28), .inl (G.2 0, 12, .inl c28)), ((r 29), .inl (G.2 0, 12, .inl c29)), ((r 30), .inl (G.2 0, 2, .inl c30)), ((r 32), .inl (G.2 0, 8, .inl c32)), ((r 33), .inl (G.2 0, 8, .inl c33)), ((r 35), .inl (G.2 2, 260, .inl c35)), ((r 36), .inl (G.2 0, 260, .inl c36)), ((r 37), .inl (G.2 0, 260, .inl c37)), ((r 38), .inl (G.2 0, 260, .inl c38)), ((r 39), .inl (G.2 0, 260, .inl c39)), ((r 41), .inl (G.2 0, 840, .inl c41)), ((r 42), .inl (G.2 0, 840, .inl c42)), ((r 45), .inl (G.2 0, 9, .inl d45_70)), ((r 46), .inl (G.2 0, 400, .inl d46_71)), ((r 49), .inl (G.2 0, 71, .inl (upd d49_68 (14 + vi10) 1))), ((r 52), .inl (G.2 0, 6, .inl d52_72))] H _ := hw
          refine W.eq (g2 := F0 m 67 ls []) rfl ?_
          refine lv_aload_n hx hb dX10_key_67 rfl (lv_at hl 3 rfl) ?_
          refine zz_callV (qb := 2) (As := []) (rest := []) (wr := [((r 31), .inl (G.2 0, 2, .inl c31)), ((r 48), .inl (G.2 0, 71, .inl c48)), ((r 22), .inl (G.2 0, 2, .inl c22)), ((r 24), .inl (G.2 0, 14, .inl c24)), ((r 25), .inl (G.2 0, 14, .inl c25)), ((r 28), .inl (G.2 0, 12, .inl c28)), ((r 29), .inl (G.2 0, 12, .inl c29)), ((r 30), .inl (G.2 0, 2, .inl c30)), ((r 32), .inl (G.2 0, 8, .inl c32)), ((r 33), .inl (G.2 0, 8, .inl c33)), ((r 35), .inl (G.2 2, 260, .inl c35)), ((r 36), .inl (G.2 0, 260, .inl c36)), ((r 37), .inl (G.2 0, 260, .inl c37)), ((r 38), .inl (G.2 0, 260, .inl c38)), ((r 39), .inl (G.2 0, 260, .inl c39)), ((r 41), .inl (G.2 0, 840, .inl c41)), ((r 42), .inl (G.2 0, 840, .inl c42)), ((r 45), .inl (G.2 0, 9, .inl d45_70)), ((r 46), .inl (G.2 0, 400, .inl d46_71)), ((r 49), .inl (G.2 0, 71, .inl (upd d49_68 (14 + vi10) 1)))]) S hw hl.1 lX10_400 (c_x_emptyBits l G r j0 j2 j4 j10 j11 j12 j13 j14 j15 j16 j17 j19 j20 j34 j40 j44 k47_69 k50_66 k51_67 j56 j61 lv pq c26 d52_72 (by first | assumption | omega | exact Or.inr ⟨_, by omega, rfl⟩ | (unfold zz_sok; decide) | decide | exact (fun j hj => (hv7 j hj).1)) (by first | assumption | omega | exact Or.inr ⟨_, by omega, rfl⟩ | (unfold zz_sok; decide) | decide | exact (fun j hj => (hv7 j hj).1)) (by first | assumption | omega | exact Or.inr ⟨_, by omega, rfl⟩ | (unfold zz_sok; decide) | decide | exact (fun j hj => (hv7 j hj).1)) (by first | assumption | omega | exact Or.inr ⟨_, by omega, rfl⟩ | (unfold zz_sok; decide) | decide | exact (fun j hj => (hv7 j hj).1))) ⟨Nat.le_of_ble_eq_true rfl, Nat.le_of_ble_eq_true rfl⟩ ⟨Nat.le_of_ble_eq_true rfl, Nat.le_of_ble_eq_true rfl⟩ [2, 6, 22] [0, 1, 3, 4, 5, 7, 8, 9, 10, 11, 12, 13, 14, 15, 16, 17, 18, 19, 20, 21] (by decide +kernel) rfl rfl (by decide +kernel) (by decide +kernel) rfl rfl rfl rfl (Nat.le_of_ble_eq_true rfl) dX10_key_68 ?_
          clear hw
          intro rr u H locs hp hw
          refine hp.elim fun rv_73 zg0 => zg0.elim fun zee1 zg1 => zg1.elim fun zee2 hq68_0 => ?_
          clear hp zg0 zg1
          subst zee1
          subst zee2
          replace hw : zz_w G A s [((r 31), .inl (G.2 0, 2, .inl c31)), ((r 48), .inl (G.2 0, 71, .inl c48)), ((r 22), .inl (G.2 0, 2, .inl c22)), ((r 24), .inl (G.2 0, 14, .inl c24)), ((r 25), .inl (G.2 0, 14, .inl c25)), ((r 28), .inl (G.2 0, 12, .inl c28)), ((r 29), .inl (G.2 0, 12, .inl c29)), ((r 30), .inl (G.2 0, 2, .inl c30)), ((r 32), .inl (G.2 0, 8, .inl c32)), ((r 33), .inl (G.2 0, 8, .inl c33)), ((r 35), .inl (G.2 2, 260, .inl c35)), ((r 36), .inl (G.2 0, 260, .inl c36)), ((r 37), .inl (G.2 0, 260, .inl c37)), ((r 38), .inl (G.2 0, 260, .inl c38)), ((r 39), .inl (G.2 0, 260, .inl c39)), ((r 41), .inl (G.2 0, 840, .inl c41)), ((r 42), .inl (G.2 0, 840, .inl c42)), ((r 45), .inl (G.2 0, 9, .inl d45_70)), ((r 46), .inl (G.2 0, 400, .inl d46_71)), ((r 49), .inl (G.2 0, 71, .inl (upd d49_68 (14 + vi10) 1))), ((r 0), .inr (10, (zz_mo r [(0, j0), (2, j2), (4, j4), (10, j10), (11, j11), (12, j12), (13, j13), (14, j14), (15, j15), (16, j16), (17, j17), (18, (nI lv)), (19, j19), (20, j20), (34, j34), (40, j40), (44, j44), (47, k47_69), (50, k50_66), (51, k51_67), (56, j56), (61, j61)]))), ((r 26), .inl (G.2 0, 2, .inl c26)), ((r 52), .inl (G.2 0, 6, .inl d52_72))] H _ := hw
          refine W.eq (g2 := F0 m 71 ls [.int rv_73]) rfl ?_
          refine zz_callS (As := [.int rv_73]) (rest := []) (wr := [((r 31), .inl (G.2 0, 2, .inl c31)), ((r 48), .inl (G.2 0, 71, .inl c48)), ((r 22), .inl (G.2 0, 2, .inl c22)), ((r 24), .inl (G.2 0, 14, .inl c24)), ((r 25), .inl (G.2 0, 14, .inl c25)), ((r 28), .inl (G.2 0, 12, .inl c28)), ((r 29), .inl (G.2 0, 12, .inl c29)), ((r 30), .inl (G.2 0, 2, .inl c30)), ((r 32), .inl (G.2 0, 8, .inl c32)), ((r 33), .inl (G.2 0, 8, .inl c33)), ((r 35), .inl (G.2 2, 260, .inl c35)), ((r 36), .inl (G.2 0, 260, .inl c36)), ((r 37), .inl (G.2 0, 260, .inl c37)), ((r 38), .inl (G.2 0, 260, .inl c38)), ((r 39), .inl (G.2 0, 260, .inl c39)), ((r 41), .inl (G.2 0, 840, .inl c41)), ((r 42), .inl (G.2 0, 840, .inl c42)), ((r 45), .inl (G.2 0, 9, .inl d45_70)), ((r 46), .inl (G.2 0, 400, .inl d46_71)), ((r 49), .inl (G.2 0, 71, .inl (upd d49_68 (14 + vi10) 1))), ((r 0), .inr (10, (zz_mo r [(0, j0), (2, j2), (4, j4), (10, j10), (11, j11), (12, j12), (13, j13), (14, j14), (15, j15), (16, j16), (17, j17), (18, (nI lv)), (19, j19), (20, j20), (34, j34), (40, j40), (44, j44), (47, k47_69), (50, k50_66), (51, k51_67), (56, j56), (61, j61)]))), ((r 26), .inl (G.2 0, 2, .inl c26)), ((r 52), .inl (G.2 0, 6, .inl d52_72))]) S hw hl.1 lX10_436 (c_x_bits l G rv_73) ⟨Nat.le_of_ble_eq_true rfl, Nat.le_of_ble_eq_true rfl⟩ ⟨Nat.le_of_ble_eq_true rfl, Nat.le_of_ble_eq_true rfl⟩ [] [0, 1, 2, 3, 4, 5, 6, 7, 8, 9, 10, 11, 12, 13, 14, 15, 16, 17, 18, 19, 20, 21, 22] (by decide +kernel) rfl rfl (by decide +kernel) (by decide +kernel) rfl rfl (Nat.le_of_ble_eq_true rfl) dX10_key_71 ?_
          clear hw
          intro rr u H locs hp hw
          refine hp.elim fun rv_74 zg0 => zg0.elim fun zee1 zg1 => zg1.elim fun zee2 hq71_0 => ?_
          clear hp zg0 zg1
          subst zee1
          subst zee2
          replace hw : zz_w G A s [((r 31), .inl (G.2 0, 2, .inl c31)), ((r 48), .inl (G.2 0, 71, .inl c48)), ((r 22), .inl (G.2 0, 2, .inl c22)), ((r 24), .inl (G.2 0, 14, .inl c24)), ((r 25), .inl (G.2 0, 14, .inl c25)), ((r 28), .inl (G.2 0, 12, .inl c28)), ((r 29), .inl (G.2 0, 12, .inl c29)), ((r 30), .inl (G.2 0, 2, .inl c30)), ((r 32), .inl (G.2 0, 8, .inl c32)), ((r 33), .inl (G.2 0, 8, .inl c33)), ((r 35), .inl (G.2 2, 260, .inl c35)), ((r 36), .inl (G.2 0, 260, .inl c36)), ((r 37), .inl (G.2 0, 260, .inl c37)), ((r 38), .inl (G.2 0, 260, .inl c38)), ((r 39), .inl (G.2 0, 260, .inl c39)), ((r 41), .inl (G.2 0, 840, .inl c41)), ((r 42), .inl (G.2 0, 840, .inl c42)), ((r 45), .inl (G.2 0, 9, .inl d45_70)), ((r 46), .inl (G.2 0, 400, .inl d46_71)), ((r 49), .inl (G.2 0, 71, .inl (upd d49_68 (14 + vi10) 1))), ((r 0), .inr (10, (zz_mo r [(0, j0), (2, j2), (4, j4), (10, j10), (11, j11), (12, j12), (13, j13), (14, j14), (15, j15), (16, j16), (17, j17), (18, (nI lv)), (19, j19), (20, j20), (34, j34), (40, j40), (44, j44), (47, k47_69), (50, k50_66), (51, k51_67), (56, j56), (61, j61)]))), ((r 26), .inl (G.2 0, 2, .inl c26)), ((r 52), .inl (G.2 0, 6, .inl d52_72))] H _ := hw
          refine W.eq (g2 := F0 m 74 ls [.int rv_74]) rfl ?_
          refine lv_iload_n hx hb dX10_key_74 rfl (lv_at hl 2 rfl) ?_
          refine lv_icmp_le (tgt := 84) hx hb dX10_key_75 (by decide) (fun c75_75 => ?_) (fun c75_75 => ?_)
          · skip
            refine lv_iinc (v := (nI (vi10 + 1))) (lv' := [(3, .int (nI (vi10 + 1))), (2, .int vy39), (1, .int rv_9), (0, .ref (r 0))]) hx hb dX10_key_84 hl (k := 0) rfl (nI_add _ 1) (by decide) rfl (fun ls hl => ?_)
            refine W.eq (g2 := F0 m 87 ls []) rfl ?_
            refine lv_goto (tgt := 20) hx hb dX10_key_87 (by decide) ?_
            exact ih20 (vi10 + 1) vy39 d45_70 d46_71 (upd d49_68 (14 + vi10) 1) k47_69 k50_66 k51_67 d52_72 _ _ _ (by omega) (by omega) (by first | assumption | omega | exact Or.inl rfl | exact Or.inr ⟨_, by omega, rfl⟩ | exact zz_oku (by assumption) (by first | exact Or.inl rfl | exact Or.inr ⟨_, by omega, rfl⟩)) (zKE_n hv20_62 ⟨_, _, hq50_0, hq64_0, zA_bt hq68_0 hq71_0⟩ (Int32.not_lt.mpr c75_75)) hw (lv_sub hl [0, 1, 2, 3] rfl)
          · skip
            refine lv_iload_n hx hb dX10_key_78 rfl (lv_at hl 1 rfl) ?_
            refine lv_iconst (v := 1) hx hb dX10_key_79 (by decide) ?_
            refine lv_iload_n hx hb dX10_key_80 rfl (lv_at hl 0 rfl) ?_
            refine lv_ishl hx hb dX10_key_81 ?_
            refine lv_topi (fun z76 ez76 => ?_)
            refine lv_ior hx hb dX10_key_82 ?_
            refine lv_topi (fun z77 ez77 => ?_)
            refine lv_istore_n (lv' := [(2, .int z77), (3, .int (nI vi10)), (1, .int rv_9), (0, .ref (r 0))]) hx hb dX10_key_83 rfl hl (by decide) rfl (fun ls hl => ?_)
            refine lv_iinc (v := (nI (vi10 + 1))) (lv' := [(3, .int (nI (vi10 + 1))), (2, .int z77), (1, .int rv_9), (0, .ref (r 0))]) hx hb dX10_key_84 hl (k := 1) rfl (nI_add _ 1) (by decide) rfl (fun ls hl => ?_)
            refine lv_goto (tgt := 20) hx hb dX10_key_87 (by decide) ?_
            exact ih20 (vi10 + 1) z77 d45_70 d46_71 (upd d49_68 (14 + vi10) 1) k47_69 k50_66 k51_67 d52_72 _ _ _ (by omega) (by omega) (by first | assumption | omega | exact Or.inl rfl | exact Or.inr ⟨_, by omega, rfl⟩ | exact zz_oku (by assumption) (by first | exact Or.inl rfl | exact Or.inr ⟨_, by omega, rfl⟩)) (zKE_y hv20_62 c43_65 ⟨_, _, hq50_0, hq64_0, zA_bt hq68_0 hq71_0⟩ (by first | exact c75_75 | exact Int32.not_le.mp c75_75) (by assumption) (by assumption)) hw (lv_sub hl [0, 1, 2, 3] rfl)
        · skip
          refine lv_goto (tgt := 84) hx hb dX10_key_46 (by decide) ?_
          refine lv_iinc (v := (nI (vi10 + 1))) (lv' := [(3, .int (nI (vi10 + 1))), (2, .int vy39), (1, .int rv_9), (0, .ref (r 0))]) hx hb dX10_key_84 hl (k := 0) rfl (nI_add _ 1) (by decide) rfl (fun ls hl => ?_)
          refine lv_goto (tgt := 20) hx hb dX10_key_87 (by decide) ?_
          exact ih20 (vi10 + 1) vy39 vF40 vF41 vF42 vy43 vy44 vy45 vF46 _ _ _ (by omega) (by omega) (by first | assumption | omega | exact Or.inl rfl | exact Or.inr ⟨_, by omega, rfl⟩ | exact zz_oku (by assumption) (by first | exact Or.inl rfl | exact Or.inr ⟨_, by omega, rfl⟩)) (zKE_f hv20_62 c43_65) hw (lv_sub hl [0, 1, 2, 3] rfl)
  exact lp20_63 (pp + 1 - 0) 0 0 d45_5 d46_6 d49_3 k47_4 k50_1 k51_2 d52_7 _ _ _ (by omega) (by omega) (by first | assumption | omega | exact Or.inl rfl | exact Or.inr ⟨_, by omega, rfl⟩ | exact zz_oku (by assumption) (by first | exact Or.inl rfl | exact Or.inr ⟨_, by omega, rfl⟩)) zKE_0 hw (lv_sub hl [0, 1, 2, 3] rfl)
theorem kd_ncX10_missed : kd_ck 323035953489934548896648748520389695812408417689798169939656574715419028055266886153101988077303193467975753967072446367620228901692076397281750193799202261997251881728548329025039669714880421169592885689394555183371229382422777195395971389461028097000473371 107 cX10_missed.data.toList 0 = true := by decide +kernel
theorem dX10_missed_0 : decode cX10_missed 0 = .ok (.iload_n 1, 1) := kd_dk0 kd_o27 kd_ncX10_missed rfl
theorem dX10_missed_1 : decode cX10_missed 1 = .ok (.iconst 0, 1) := kd_dk0 kd_o3 kd_ncX10_missed rfl
theorem dX10_missed_2 : decode cX10_missed 2 = .ok (.iconst 1, 1) := kd_dk0 kd_o4 kd_ncX10_missed rfl
theorem dX10_missed_3 : decode cX10_missed 3 = .ok (.invokestatic 313, 3) := kd_dk2 kd_o184 kd_ncX10_missed rfl
theorem dX10_missed_6 : decode cX10_missed 6 = .ok (.ifCond .ne 5, 3) := kd_dj2 kd_o154 (w := 5) kd_ncX10_missed rfl rfl
theorem dX10_missed_9 : decode cX10_missed 9 = .ok (.iconst (-1), 1) := kd_dk0 kd_o2 kd_ncX10_missed rfl
theorem dX10_missed_10 : decode cX10_missed 10 = .ok (.ireturn, 1) := kd_dk0 kd_o172 kd_ncX10_missed rfl
theorem dX10_missed_11 : decode cX10_missed 11 = .ok (.bipush (-2), 2) := kd_dj1 kd_o16 (w := 254) kd_ncX10_missed rfl rfl
theorem dX10_missed_13 : decode cX10_missed 13 = .ok (.istore_n 2, 1) := kd_dk0 kd_o61 kd_ncX10_missed rfl
theorem dX10_missed_14 : decode cX10_missed 14 = .ok (.bipush (-2), 2) := kd_dj1 kd_o16 (w := 254) kd_ncX10_missed rfl rfl
theorem dX10_missed_16 : decode cX10_missed 16 = .ok (.istore_n 3, 1) := kd_dk0 kd_o62 kd_ncX10_missed rfl
theorem dX10_missed_17 : decode cX10_missed 17 = .ok (.iconst 0, 1) := kd_dk0 kd_o3 kd_ncX10_missed rfl
theorem dX10_missed_18 : decode cX10_missed 18 = .ok (.istore 4, 2) := kd_dk1 kd_o54 kd_ncX10_missed rfl
theorem dX10_missed_20 : decode cX10_missed 20 = .ok (.iload 4, 2) := kd_dk1 kd_o21 kd_ncX10_missed rfl
theorem dX10_missed_22 : decode cX10_missed 22 = .ok (.aload_n 0, 1) := kd_dk0 kd_o42 kd_ncX10_missed rfl
theorem dX10_missed_23 : decode cX10_missed 23 = .ok (.getfield 43, 3) := kd_dk2 kd_o180 kd_ncX10_missed rfl
theorem dX10_missed_26 : decode cX10_missed 26 = .ok (.aload_n 0, 1) := kd_dk0 kd_o42 kd_ncX10_missed rfl
theorem dX10_missed_27 : decode cX10_missed 27 = .ok (.getfield 236, 3) := kd_dk2 kd_o180 kd_ncX10_missed rfl
theorem dX10_missed_30 : decode cX10_missed 30 = .ok (.iaload, 1) := kd_dk0 kd_o46 kd_ncX10_missed rfl
theorem dX10_missed_31 : decode cX10_missed 31 = .ok (.if_icmp .ge 66, 3) := kd_dj2 kd_o162 (w := 66) kd_ncX10_missed rfl rfl
theorem dX10_missed_34 : decode cX10_missed 34 = .ok (.aload_n 0, 1) := kd_dk0 kd_o42 kd_ncX10_missed rfl
theorem dX10_missed_35 : decode cX10_missed 35 = .ok (.getfield 110, 3) := kd_dk2 kd_o180 kd_ncX10_missed rfl
theorem dX10_missed_38 : decode cX10_missed 38 = .ok (.bipush 14, 2) := kd_dj1 kd_o16 (w := 14) kd_ncX10_missed rfl rfl
theorem dX10_missed_40 : decode cX10_missed 40 = .ok (.iload 4, 2) := kd_dk1 kd_o21 kd_ncX10_missed rfl
theorem dX10_missed_42 : decode cX10_missed 42 = .ok (.iadd, 1) := kd_dk0 kd_o96 kd_ncX10_missed rfl
theorem dX10_missed_43 : decode cX10_missed 43 = .ok (.iaload, 1) := kd_dk0 kd_o46 kd_ncX10_missed rfl
theorem dX10_missed_44 : decode cX10_missed 44 = .ok (.iconst 1, 1) := kd_dk0 kd_o4 kd_ncX10_missed rfl
theorem dX10_missed_45 : decode cX10_missed 45 = .ok (.if_icmp .ne 6, 3) := kd_dj2 kd_o160 (w := 6) kd_ncX10_missed rfl rfl
theorem dX10_missed_48 : decode cX10_missed 48 = .ok (.goto 43, 3) := kd_dj2 kd_o167 (w := 43) kd_ncX10_missed rfl rfl
theorem dX10_missed_51 : decode cX10_missed 51 = .ok (.aload_n 0, 1) := kd_dk0 kd_o42 kd_ncX10_missed rfl
theorem dX10_missed_52 : decode cX10_missed 52 = .ok (.invokevirtual 323, 3) := kd_dk2 kd_o182 kd_ncX10_missed rfl
theorem dX10_missed_55 : decode cX10_missed 55 = .ok (.aload_n 0, 1) := kd_dk0 kd_o42 kd_ncX10_missed rfl
theorem dX10_missed_56 : decode cX10_missed 56 = .ok (.getfield 113, 3) := kd_dk2 kd_o180 kd_ncX10_missed rfl
theorem dX10_missed_59 : decode cX10_missed 59 = .ok (.bipush 14, 2) := kd_dj1 kd_o16 (w := 14) kd_ncX10_missed rfl rfl
theorem dX10_missed_61 : decode cX10_missed 61 = .ok (.iload 4, 2) := kd_dk1 kd_o21 kd_ncX10_missed rfl
theorem dX10_missed_63 : decode cX10_missed 63 = .ok (.iadd, 1) := kd_dk0 kd_o96 kd_ncX10_missed rfl
theorem dX10_missed_64 : decode cX10_missed 64 = .ok (.iconst 1, 1) := kd_dk0 kd_o4 kd_ncX10_missed rfl
theorem dX10_missed_65 : decode cX10_missed 65 = .ok (.iastore, 1) := kd_dk0 kd_o79 kd_ncX10_missed rfl
theorem dX10_missed_66 : decode cX10_missed 66 = .ok (.aload_n 0, 1) := kd_dk0 kd_o42 kd_ncX10_missed rfl
theorem dX10_missed_67 : decode cX10_missed 67 = .ok (.invokevirtual 432, 3) := kd_dk2 kd_o182 kd_ncX10_missed rfl
theorem dX10_missed_70 : decode cX10_missed 70 = .ok (.istore 5, 2) := kd_dk1 kd_o54 kd_ncX10_missed rfl
theorem dX10_missed_72 : decode cX10_missed 72 = .ok (.iload_n 2, 1) := kd_dk0 kd_o28 kd_ncX10_missed rfl
theorem dX10_missed_73 : decode cX10_missed 73 = .ok (.ifCond .lt 12, 3) := kd_dj2 kd_o155 (w := 12) kd_ncX10_missed rfl rfl
theorem dX10_missed_76 : decode cX10_missed 76 = .ok (.iload 5, 2) := kd_dk1 kd_o21 kd_ncX10_missed rfl
theorem dX10_missed_78 : decode cX10_missed 78 = .ok (.iload_n 3, 1) := kd_dk0 kd_o29 kd_ncX10_missed rfl
theorem dX10_missed_79 : decode cX10_missed 79 = .ok (.if_icmp .lt 6, 3) := kd_dj2 kd_o161 (w := 6) kd_ncX10_missed rfl rfl
theorem dX10_missed_82 : decode cX10_missed 82 = .ok (.goto 9, 3) := kd_dj2 kd_o167 (w := 9) kd_ncX10_missed rfl rfl
theorem dX10_missed_85 : decode cX10_missed 85 = .ok (.iload 4, 2) := kd_dk1 kd_o21 kd_ncX10_missed rfl
theorem dX10_missed_87 : decode cX10_missed 87 = .ok (.istore_n 2, 1) := kd_dk0 kd_o61 kd_ncX10_missed rfl
theorem dX10_missed_88 : decode cX10_missed 88 = .ok (.iload 5, 2) := kd_dk1 kd_o21 kd_ncX10_missed rfl
theorem dX10_missed_90 : decode cX10_missed 90 = .ok (.istore_n 3, 1) := kd_dk0 kd_o62 kd_ncX10_missed rfl
theorem dX10_missed_91 : decode cX10_missed 91 = .ok (.iinc 4 1, 3) := kd_dji kd_o132 (w := 1) kd_ncX10_missed rfl rfl
theorem dX10_missed_94 : decode cX10_missed 94 = .ok (.goto (-74), 3) := kd_dj2 kd_o167 (w := 65462) kd_ncX10_missed rfl rfl
theorem dX10_missed_97 : decode cX10_missed 97 = .ok (.iload_n 1, 1) := kd_dk0 kd_o27 kd_ncX10_missed rfl
theorem dX10_missed_98 : decode cX10_missed 98 = .ok (.ifCond .ne 7, 3) := kd_dj2 kd_o154 (w := 7) kd_ncX10_missed rfl rfl
theorem dX10_missed_101 : decode cX10_missed 101 = .ok (.iload_n 2, 1) := kd_dk0 kd_o28 kd_ncX10_missed rfl
theorem dX10_missed_102 : decode cX10_missed 102 = .ok (.goto 4, 3) := kd_dj2 kd_o167 (w := 4) kd_ncX10_missed rfl rfl
theorem dX10_missed_105 : decode cX10_missed 105 = .ok (.iload_n 3, 1) := kd_dk0 kd_o29 kd_ncX10_missed rfl
theorem dX10_missed_106 : decode cX10_missed 106 = .ok (.ireturn, 1) := kd_dk0 kd_o172 kd_ncX10_missed rfl
set_option maxHeartbeats 8000000 in
set_option maxRecDepth 100000 in
theorem c_x_missed (l : Launch) (G : zz_G) (r : Nat → Nat) (j0 : Int32) (j2 : Int32) (j4 : Int32) (j10 : Int32) (j11 : Int32) (j12 : Int32) (j13 : Int32) (j14 : Int32) (j15 : Int32) (j16 : Int32) (j17 : Int32) (j19 : Int32) (j20 : Int32) (j34 : Int32) (j40 : Int32) (j44 : Int32) (j47 : Int32) (j50 : Int32) (j51 : Int32) (j56 : Int32) (j61 : Int32) (lv : Nat) (pp : Nat) (pq : Nat) (c22 : Nat → Int32) (c24 : Nat → Int32) (c25 : Nat → Int32) (c26 : Nat → Int32) (c28 : Nat → Int32) (c29 : Nat → Int32) (c30 : Nat → Int32) (c31 : Nat → Int32) (c32 : Nat → Int32) (c33 : Nat → Int32) (c35 : Nat → Int32) (c36 : Nat → Int32) (c37 : Nat → Int32) (c38 : Nat → Int32) (c39 : Nat → Int32) (c41 : Nat → Int32) (c42 : Nat → Int32) (c45 : Nat → Int32) (c46 : Nat → Int32) (c48 : Nat → Int32) (c49 : Nat → Int32) (c52 : Nat → Int32) (ar1 : Int32) (hlv : lv ≤ 1) (hpe : c22 lv = nI pp) (hpp : pp ≤ 7) (hpa : c26 lv = nI pq) (hpq : pq ≤ 6) (hlw : zz_LW 2 0 0 c32 c33 c35 c36 c37 c38 c39 c41 c42) (hca : ∀ j, j < 6 → zz_ok 7 (c52 j)) : zz_M l G mX10_missed 6 0 0 [.ref (r 0), .int ar1] [((r 0), .inr (10, (zz_mo r [(0, j0), (2, j2), (4, j4), (10, j10), (11, j11), (12, j12), (13, j13), (14, j14), (15, j15), (16, j16), (17, j17), (18, (nI lv)), (19, j19), (20, j20), (34, j34), (40, j40), (44, j44), (47, j47), (50, j50), (51, j51), (56, j56), (61, j61)]))), ((r 22), .inl (G.2 0, 2, .inl c22)), ((r 24), .inl (G.2 0, 14, .inl c24)), ((r 25), .inl (G.2 0, 14, .inl c25)), ((r 26), .inl (G.2 0, 2, .inl c26)), ((r 28), .inl (G.2 0, 12, .inl c28)), ((r 29), .inl (G.2 0, 12, .inl c29)), ((r 30), .inl (G.2 0, 2, .inl c30)), ((r 31), .inl (G.2 0, 2, .inl c31)), ((r 32), .inl (G.2 0, 8, .inl c32)), ((r 33), .inl (G.2 0, 8, .inl c33)), ((r 35), .inl (G.2 2, 260, .inl c35)), ((r 36), .inl (G.2 0, 260, .inl c36)), ((r 37), .inl (G.2 0, 260, .inl c37)), ((r 38), .inl (G.2 0, 260, .inl c38)), ((r 39), .inl (G.2 0, 260, .inl c39)), ((r 41), .inl (G.2 0, 840, .inl c41)), ((r 42), .inl (G.2 0, 840, .inl c42)), ((r 45), .inl (G.2 0, 9, .inl c45)), ((r 46), .inl (G.2 0, 400, .inl c46)), ((r 48), .inl (G.2 0, 71, .inl c48)), ((r 49), .inl (G.2 0, 71, .inl c49)), ((r 52), .inl (G.2 0, 6, .inl c52))] (fun rr u => ∃ (rv : Int32), ∃ (k47 : Int32), ∃ (k50 : Int32), ∃ (k51 : Int32), ∃ (d45 : Nat → Int32), ∃ (d46 : Nat → Int32), ∃ (d49 : Nat → Int32), ∃ (d52 : Nat → Int32), rr = some (.int rv) ∧ u = [((r 0), .inr (10, (zz_mo r [(0, j0), (2, j2), (4, j4), (10, j10), (11, j11), (12, j12), (13, j13), (14, j14), (15, j15), (16, j16), (17, j17), (18, (nI lv)), (19, j19), (20, j20), (34, j34), (40, j40), (44, j44), (47, k47), (50, k50), (51, k51), (56, j56), (61, j61)]))), ((r 22), .inl (G.2 0, 2, .inl c22)), ((r 24), .inl (G.2 0, 14, .inl c24)), ((r 25), .inl (G.2 0, 14, .inl c25)), ((r 26), .inl (G.2 0, 2, .inl c26)), ((r 28), .inl (G.2 0, 12, .inl c28)), ((r 29), .inl (G.2 0, 12, .inl c29)), ((r 30), .inl (G.2 0, 2, .inl c30)), ((r 31), .inl (G.2 0, 2, .inl c31)), ((r 32), .inl (G.2 0, 8, .inl c32)), ((r 33), .inl (G.2 0, 8, .inl c33)), ((r 35), .inl (G.2 2, 260, .inl c35)), ((r 36), .inl (G.2 0, 260, .inl c36)), ((r 37), .inl (G.2 0, 260, .inl c37)), ((r 38), .inl (G.2 0, 260, .inl c38)), ((r 39), .inl (G.2 0, 260, .inl c39)), ((r 41), .inl (G.2 0, 840, .inl c41)), ((r 42), .inl (G.2 0, 840, .inl c42)), ((r 45), .inl (G.2 0, 9, .inl d45)), ((r 46), .inl (G.2 0, 400, .inl d46)), ((r 48), .inl (G.2 0, 71, .inl c48)), ((r 49), .inl (G.2 0, 71, .inl d49)), ((r 52), .inl (G.2 0, 6, .inl d52))] ∧ (zA (zz_In 2 ar1) (∃ q, zME (fun v x y => x < 0 ∨ v < y) (fun a v => ∃ τ, zy_q 71 c48 τ ∧ (∃ C, zr_FX (zr_HD lv c32 c33 c35 c36 c37 c38 c39 c41 c42 (c30 lv)) (fun Λ => zr_Sx 99 lv (upd τ (14 + a) 1) c24 c28 c25 c29 (Λ 0)) (fun x9 => (upd τ (14 + a) 1) (14 + x9) = 1) (c30 lv) pp pq C ∧ zE (fun p9 v9 => (C p9 < 0 ∧ v9 = 0) ∨ ∃ a9 : Nat, a9 < 7 ∧ C p9 = nI a9 ∧ zr_MS lv 0 c32 c33 c35 c36 c37 c38 c39 c41 c42 (zm_fc zr_ro zr_of ((upd τ (14 + a) 1) a9) ((upd τ (14 + a) 1) (21 + p9)) (c24 (7 * lv + a9)) (c28 (6 * lv + p9)) (c25 (7 * lv + a9)) (c29 (6 * lv + p9)) ((upd τ (14 + a) 1) 69) ((upd τ (14 + a) 1) (27 + 6 * a9 + p9)) p9) 99 v9) pq v)) (fun a => c48 (14 + a) = 1) pp q ∧ rv = zP ar1 q) rv (-1)) ∧ (∀ j, j < 6 → zz_ok 7 (d52 j))) := by
  refine zz_enteri (by decide +kernel) (Nat.le_of_ble_eq_true rfl) ?_
  intro p e s m args below meth c A Q ls S hnm hret hw hl
  have hl : lv_has ls 6 [(0, .ref (r 0)), (1, .int ar1)] := hl
  have hx := S.1
  have hb := S.2.1
  refine lv_iload_n hx hb dX10_missed_0 rfl (lv_at hl 1 rfl) ?_
  refine lv_iconst (v := 0) hx hb dX10_missed_1 (by decide) ?_
  refine lv_iconst (v := 1) hx hb dX10_missed_2 (by decide) ?_
  refine zz_callS (As := [.int ar1, .int 0, .int 1]) (rest := []) (wr := [((r 0), .inr (10, (zz_mo r [(0, j0), (2, j2), (4, j4), (10, j10), (11, j11), (12, j12), (13, j13), (14, j14), (15, j15), (16, j16), (17, j17), (18, (nI lv)), (19, j19), (20, j20), (34, j34), (40, j40), (44, j44), (47, j47), (50, j50), (51, j51), (56, j56), (61, j61)]))), ((r 22), .inl (G.2 0, 2, .inl c22)), ((r 24), .inl (G.2 0, 14, .inl c24)), ((r 25), .inl (G.2 0, 14, .inl c25)), ((r 26), .inl (G.2 0, 2, .inl c26)), ((r 28), .inl (G.2 0, 12, .inl c28)), ((r 29), .inl (G.2 0, 12, .inl c29)), ((r 30), .inl (G.2 0, 2, .inl c30)), ((r 31), .inl (G.2 0, 2, .inl c31)), ((r 32), .inl (G.2 0, 8, .inl c32)), ((r 33), .inl (G.2 0, 8, .inl c33)), ((r 35), .inl (G.2 2, 260, .inl c35)), ((r 36), .inl (G.2 0, 260, .inl c36)), ((r 37), .inl (G.2 0, 260, .inl c37)), ((r 38), .inl (G.2 0, 260, .inl c38)), ((r 39), .inl (G.2 0, 260, .inl c39)), ((r 41), .inl (G.2 0, 840, .inl c41)), ((r 42), .inl (G.2 0, 840, .inl c42)), ((r 45), .inl (G.2 0, 9, .inl c45)), ((r 46), .inl (G.2 0, 400, .inl c46)), ((r 48), .inl (G.2 0, 71, .inl c48)), ((r 49), .inl (G.2 0, 71, .inl c49)), ((r 52), .inl (G.2 0, 6, .inl c52))]) S hw hl.1 lX10_313 (c_x_in l G ar1 0 1) ⟨Nat.le_of_ble_eq_true rfl, Nat.le_of_ble_eq_true rfl⟩ ⟨Nat.le_of_ble_eq_true rfl, Nat.le_of_ble_eq_true rfl⟩ [] [0, 1, 2, 3, 4, 5, 6, 7, 8, 9, 10, 11, 12, 13, 14, 15, 16, 17, 18, 19, 20, 21, 22] (by decide +kernel) rfl rfl (by decide +kernel) (by decide +kernel) rfl rfl (Nat.le_of_ble_eq_true rfl) dX10_missed_3 ?_
  clear hw
  intro rr u H locs hp hw
  refine hp.elim fun rv_1 zg0 => zg0.elim fun zee1 zg1 => zg1.elim fun zee2 zg2 => zg2.elim fun hq3_0 zg3 => zg3.elim fun hq3_1 hq3_2 => ?_
  clear hp zg0 zg1 zg2 zg3
  subst zee1
  subst zee2
  replace hw : zz_w G A s [((r 0), .inr (10, (zz_mo r [(0, j0), (2, j2), (4, j4), (10, j10), (11, j11), (12, j12), (13, j13), (14, j14), (15, j15), (16, j16), (17, j17), (18, (nI lv)), (19, j19), (20, j20), (34, j34), (40, j40), (44, j44), (47, j47), (50, j50), (51, j51), (56, j56), (61, j61)]))), ((r 22), .inl (G.2 0, 2, .inl c22)), ((r 24), .inl (G.2 0, 14, .inl c24)), ((r 25), .inl (G.2 0, 14, .inl c25)), ((r 26), .inl (G.2 0, 2, .inl c26)), ((r 28), .inl (G.2 0, 12, .inl c28)), ((r 29), .inl (G.2 0, 12, .inl c29)), ((r 30), .inl (G.2 0, 2, .inl c30)), ((r 31), .inl (G.2 0, 2, .inl c31)), ((r 32), .inl (G.2 0, 8, .inl c32)), ((r 33), .inl (G.2 0, 8, .inl c33)), ((r 35), .inl (G.2 2, 260, .inl c35)), ((r 36), .inl (G.2 0, 260, .inl c36)), ((r 37), .inl (G.2 0, 260, .inl c37)), ((r 38), .inl (G.2 0, 260, .inl c38)), ((r 39), .inl (G.2 0, 260, .inl c39)), ((r 41), .inl (G.2 0, 840, .inl c41)), ((r 42), .inl (G.2 0, 840, .inl c42)), ((r 45), .inl (G.2 0, 9, .inl c45)), ((r 46), .inl (G.2 0, 400, .inl c46)), ((r 48), .inl (G.2 0, 71, .inl c48)), ((r 49), .inl (G.2 0, 71, .inl c49)), ((r 52), .inl (G.2 0, 6, .inl c52))] H _ := hw
  refine W.eq (g2 := F0 m 6 ls [.int rv_1]) rfl ?_
  refine lv_if_ne (tgt := 11) hx hb dX10_missed_6 (by decide) (fun c6_2 => ?_) (fun c6_2 => ?_)
  · skip
    have hq3_0i := hq3_0.resolve_left c6_2
    obtain ⟨vq3, hvq3, rfl⟩ : ∃ k : Nat, k ≤ 1 ∧ ar1 = nI k := zz_rng (zz_lo0 hq3_0i.1) hq3_0i.2 (by omega)
    refine lv_bipush (v := (-2)) hx hb dX10_missed_11 (by decide) ?_
    refine lv_istore_n (lv' := [(2, .int (-2)), (0, .ref (r 0)), (1, .int (nI vq3))]) hx hb dX10_missed_13 rfl hl (by decide) rfl (fun ls hl => ?_)
    refine lv_bipush (v := (-2)) hx hb dX10_missed_14 (by decide) ?_
    refine lv_istore_n (lv' := [(3, .int (-2)), (2, .int (-2)), (0, .ref (r 0)), (1, .int (nI vq3))]) hx hb dX10_missed_16 rfl hl (by decide) rfl (fun ls hl => ?_)
    refine lv_iconst (v := 0) hx hb dX10_missed_17 (by decide) ?_
    refine lv_istore (lv' := [(4, .int 0), (3, .int (-2)), (2, .int (-2)), (0, .ref (r 0)), (1, .int (nI vq3))]) hx hb dX10_missed_18 hl (by decide) rfl (fun ls hl => ?_)
    have lp20_50 : ∀ (vn5 vi4 : Nat) (vy26 : Int32) (vy27 : Int32) (vy28 : Int32) (vy29 : Int32) (vy30 : Int32) (vF31 : Nat → Int32) (vF32 : Nat → Int32) (vF33 : Nat → Int32) (vF34 : Nat → Int32) (H : Heap) (locs : List Loc) (ls : Array Slot), vi4 ≤ pp → pp < vi4 + vn5 → (∀ j, j < 6 → zz_ok 7 (vF34 j)) → zME (fun v x y => x < 0 ∨ v < y) (fun a v => ∃ τ, zy_q 71 c48 τ ∧ (∃ C, zr_FX (zr_HD lv c32 c33 c35 c36 c37 c38 c39 c41 c42 (c30 lv)) (fun Λ => zr_Sx 99 lv (upd τ (14 + a) 1) c24 c28 c25 c29 (Λ 0)) (fun x9 => (upd τ (14 + a) 1) (14 + x9) = 1) (c30 lv) pp pq C ∧ zE (fun p9 v9 => (C p9 < 0 ∧ v9 = 0) ∨ ∃ a9 : Nat, a9 < 7 ∧ C p9 = nI a9 ∧ zr_MS lv 0 c32 c33 c35 c36 c37 c38 c39 c41 c42 (zm_fc zr_ro zr_of ((upd τ (14 + a) 1) a9) ((upd τ (14 + a) 1) (21 + p9)) (c24 (7 * lv + a9)) (c28 (6 * lv + p9)) (c25 (7 * lv + a9)) (c29 (6 * lv + p9)) ((upd τ (14 + a) 1) 69) ((upd τ (14 + a) 1) (27 + 6 * a9 + p9)) p9) 99 v9) pq v)) (fun a => c48 (14 + a) = 1) vi4 (vy27, vy26) → zz_w G A s [((r 0), .inr (10, (zz_mo r [(0, j0), (2, j2), (4, j4), (10, j10), (11, j11), (12, j12), (13, j13), (14, j14), (15, j15), (16, j16), (17, j17), (18, (nI lv)), (19, j19), (20, j20), (34, j34), (40, j40), (44, j44), (47, vy28), (50, vy29), (51, vy30), (56, j56), (61, j61)]))), ((r 22), .inl (G.2 0, 2, .inl c22)), ((r 24), .inl (G.2 0, 14, .inl c24)), ((r 25), .inl (G.2 0, 14, .inl c25)), ((r 26), .inl (G.2 0, 2, .inl c26)), ((r 28), .inl (G.2 0, 12, .inl c28)), ((r 29), .inl (G.2 0, 12, .inl c29)), ((r 30), .inl (G.2 0, 2, .inl c30)), ((r 31), .inl (G.2 0, 2, .inl c31)), ((r 32), .inl (G.2 0, 8, .inl c32)), ((r 33), .inl (G.2 0, 8, .inl c33)), ((r 35), .inl (G.2 2, 260, .inl c35)), ((r 36), .inl (G.2 0, 260, .inl c36)), ((r 37), .inl (G.2 0, 260, .inl c37)), ((r 38), .inl (G.2 0, 260, .inl c38)), ((r 39), .inl (G.2 0, 260, .inl c39)), ((r 41), .inl (G.2 0, 840, .inl c41)), ((r 42), .inl (G.2 0, 840, .inl c42)), ((r 45), .inl (G.2 0, 9, .inl vF31)), ((r 46), .inl (G.2 0, 400, .inl vF32)), ((r 48), .inl (G.2 0, 71, .inl c48)), ((r 49), .inl (G.2 0, 71, .inl vF33)), ((r 52), .inl (G.2 0, 6, .inl vF34))] H locs → lv_has ls 6 [(4, .int (nI vi4)), (3, .int vy26), (2, .int vy27), (0, .ref (r 0)), (1, .int (nI vq3))] → W p l e (zz_rm 6 0 0) s m args below meth c H locs (0) (0) Q (F0 m 20 ls []) := by
      intro vn5
      induction vn5 with
      | zero => intro vi4 vy26 vy27 vy28 vy29 vy30 vF31 vF32 vF33 vF34 H locs ls hi1 hi2; exact absurd hi2 (by omega)
      | succ vn5 ih20 =>
        intro vi4 vy26 vy27 vy28 vy29 vy30 vF31 vF32 vF33 vF34 H locs ls hi20a hi20b hv20_48 hv20_49 hw hl
        refine lv_iload hx hb dX10_missed_20 (lv_at hl 0 rfl) ?_
        refine lv_aload_n hx hb dX10_missed_22 rfl (lv_at hl 3 rfl) ?_
        refine zz_get (v := .ref (r 22)) S hw fgX10_43 0 rfl rfl dX10_missed_23 ?_
        refine lv_aload_n hx hb dX10_missed_26 rfl (lv_at hl 3 rfl) ?_
        refine W.eq (g2 := F0 m 27 ls [.ref (r 0), .ref (r 22), .int (nI vi4)]) rfl ?_
        refine zz_get (v := .int (nI lv)) S hw fgX10_236 0 rfl rfl dX10_missed_27 ?_
        refine zz_iald (v := (nI pp)) S hw 1 rfl (vp_in_nI (n := lv) (by omega) (by decide)) (by rw [show ((nI lv) : Int32).toNatClampNeg = lv from nI_clamp (n := lv) (by omega)]; exact hpe) dX10_missed_30 ?_
        refine lv_icmp_ge (tgt := 97) hx hb dX10_missed_31 (by decide) (fun c31_51 => ?_) (fun c31_51 => ?_)
        · skip
          have c31_51n : pp ≤ vi4 := (zz_le (a := pp) (b := vi4) rfl rfl (by omega) (by omega)).mp c31_51
          refine lv_iload_n hx hb dX10_missed_97 rfl (lv_at hl 4 rfl) ?_
          refine lv_if_ne (tgt := 105) hx hb dX10_missed_98 (by decide) (fun c98_52 => ?_) (fun c98_52 => ?_)
          · skip
            have c98_52n : ¬ (vq3 = 0) := fun z => c98_52 ((zz_eq (a := vq3) (b := 0) rfl rfl (by omega) (by omega)).mpr z)
            refine lv_iload_n hx hb dX10_missed_105 rfl (lv_at hl 1 rfl) ?_
            exact hret _ _ _ _ _ _ ⟨vy26, vy28, vy29, vy30, vF31, vF32, vF33, vF34, rfl, rfl, (by first | exact zA0 (zz_innI (n := 1) (by omega) hq3_1 (by assumption)) | exact zA1 ⟨_, by omega, rfl⟩ ⟨_, zME_e hv20_49 (by omega), zP_0 rfl (by assumption)⟩ | exact zA1 ⟨_, by omega, rfl⟩ ⟨_, zME_e hv20_49 (by omega), zP_1 rfl (by assumption)⟩), (by first | assumption | exact Or.inl rfl | exact Or.inr rfl | omega | exact Or.inr (by assumption) | exact zz_oku (by assumption) (by first | exact Or.inl rfl | exact Or.inr ⟨_, by omega, rfl⟩))⟩ hw rfl dX10_missed_106
          · skip
            have c98_52n : vq3 = 0 := (zz_eq (a := vq3) (b := 0) rfl rfl (by omega) (by omega)).mp c98_52
            refine lv_iload_n hx hb dX10_missed_101 rfl (lv_at hl 2 rfl) ?_
            refine lv_goto (tgt := 106) hx hb dX10_missed_102 (by decide) ?_
            exact hret _ _ _ _ _ _ ⟨vy27, vy28, vy29, vy30, vF31, vF32, vF33, vF34, rfl, rfl, (by first | exact zA0 (zz_innI (n := 1) (by omega) hq3_1 (by assumption)) | exact zA1 ⟨_, by omega, rfl⟩ ⟨_, zME_e hv20_49 (by omega), zP_0 rfl (by assumption)⟩ | exact zA1 ⟨_, by omega, rfl⟩ ⟨_, zME_e hv20_49 (by omega), zP_1 rfl (by assumption)⟩), (by first | assumption | exact Or.inl rfl | exact Or.inr rfl | omega | exact Or.inr (by assumption) | exact zz_oku (by assumption) (by first | exact Or.inl rfl | exact Or.inr ⟨_, by omega, rfl⟩))⟩ hw rfl dX10_missed_106
        · skip
          have c31_51n : ¬ (pp ≤ vi4) := fun z => c31_51 ((zz_le (a := pp) (b := vi4) rfl rfl (by omega) (by omega)).mpr z)
          refine lv_aload_n hx hb dX10_missed_34 rfl (lv_at hl 3 rfl) ?_
          refine zz_get (v := .ref (r 48)) S hw fgX10_110 0 rfl rfl dX10_missed_35 ?_
          refine lv_bipush (v := 14) hx hb dX10_missed_38 (by decide) ?_
          refine lv_iload hx hb dX10_missed_40 (lv_at hl 0 rfl) ?_
          refine lv_iadd hx hb dX10_missed_42 ?_
          refine zz_topi (y := (nI (14 + vi4))) (nI_add _ _) ?_
          refine zz_iald (v := (c48 (14 + vi4))) S hw 20 rfl (vp_in_nI (n := (14 + vi4)) (by omega) (by decide)) (congrArg c48 (nI_clamp (n := (14 + vi4)) (by omega))) dX10_missed_43 ?_
          refine lv_iconst (v := 1) hx hb dX10_missed_44 (by decide) ?_
          refine lv_icmp_ne (tgt := 51) hx hb dX10_missed_45 (by decide) (fun c45_53 => ?_) (fun c45_53 => ?_)
          · skip
            refine lv_aload_n hx hb dX10_missed_51 rfl (lv_at hl 3 rfl) ?_
            refine W.eq (g2 := F0 m 52 ls [.ref (r 0)]) rfl ?_
            refine zz_callV (qb := 0) (As := []) (rest := []) (wr := [((r 22), .inl (G.2 0, 2, .inl c22)), ((r 24), .inl (G.2 0, 14, .inl c24)), ((r 25), .inl (G.2 0, 14, .inl c25)), ((r 26), .inl (G.2 0, 2, .inl c26)), ((r 28), .inl (G.2 0, 12, .inl c28)), ((r 29), .inl (G.2 0, 12, .inl c29)), ((r 30), .inl (G.2 0, 2, .inl c30)), ((r 32), .inl (G.2 0, 8, .inl c32)), ((r 33), .inl (G.2 0, 8, .inl c33)), ((r 35), .inl (G.2 2, 260, .inl c35)), ((r 36), .inl (G.2 0, 260, .inl c36)), ((r 37), .inl (G.2 0, 260, .inl c37)), ((r 38), .inl (G.2 0, 260, .inl c38)), ((r 39), .inl (G.2 0, 260, .inl c39)), ((r 41), .inl (G.2 0, 840, .inl c41)), ((r 42), .inl (G.2 0, 840, .inl c42)), ((r 45), .inl (G.2 0, 9, .inl vF31)), ((r 46), .inl (G.2 0, 400, .inl vF32)), ((r 52), .inl (G.2 0, 6, .inl vF34))]) S hw hl.1 lX10_323 (c_x_copies l G r j0 j2 j4 j10 j11 j12 j13 j14 j15 j16 j17 j19 j20 j34 j40 j44 vy28 vy29 vy30 j56 j61 lv c31 c48 vF33 (by first | assumption | omega | exact Or.inr ⟨_, by omega, rfl⟩ | (unfold zz_sok; decide) | decide | exact (fun j hj => (hv7 j hj).1))) ⟨Nat.le_of_ble_eq_true rfl, Nat.le_of_ble_eq_true rfl⟩ ⟨Nat.le_of_ble_eq_true rfl, Nat.le_of_ble_eq_true rfl⟩ [0, 8, 20, 21] [1, 2, 3, 4, 5, 6, 7, 9, 10, 11, 12, 13, 14, 15, 16, 17, 18, 19, 22] (by decide +kernel) rfl rfl (by decide +kernel) (by decide +kernel) rfl rfl rfl rfl (Nat.le_of_ble_eq_true rfl) dX10_missed_52 ?_
            clear hw
            intro rr u H locs hp hw
            refine hp.elim fun k50_54 zg0 => zg0.elim fun k51_55 zg1 => zg1.elim fun d49_56 zg2 => zg2.elim fun zee1 zg3 => zg3.elim fun zee2 zg4 => zg4.elim fun hq52_0 zg5 => zg5.elim fun hq52_1 hq52_2 => ?_
            clear hp zg0 zg1 zg2 zg3 zg4 zg5
            subst zee1
            subst zee2
            replace hw : zz_w G A s [((r 22), .inl (G.2 0, 2, .inl c22)), ((r 24), .inl (G.2 0, 14, .inl c24)), ((r 25), .inl (G.2 0, 14, .inl c25)), ((r 26), .inl (G.2 0, 2, .inl c26)), ((r 28), .inl (G.2 0, 12, .inl c28)), ((r 29), .inl (G.2 0, 12, .inl c29)), ((r 30), .inl (G.2 0, 2, .inl c30)), ((r 32), .inl (G.2 0, 8, .inl c32)), ((r 33), .inl (G.2 0, 8, .inl c33)), ((r 35), .inl (G.2 2, 260, .inl c35)), ((r 36), .inl (G.2 0, 260, .inl c36)), ((r 37), .inl (G.2 0, 260, .inl c37)), ((r 38), .inl (G.2 0, 260, .inl c38)), ((r 39), .inl (G.2 0, 260, .inl c39)), ((r 41), .inl (G.2 0, 840, .inl c41)), ((r 42), .inl (G.2 0, 840, .inl c42)), ((r 45), .inl (G.2 0, 9, .inl vF31)), ((r 46), .inl (G.2 0, 400, .inl vF32)), ((r 52), .inl (G.2 0, 6, .inl vF34)), ((r 0), .inr (10, (zz_mo r [(0, j0), (2, j2), (4, j4), (10, j10), (11, j11), (12, j12), (13, j13), (14, j14), (15, j15), (16, j16), (17, j17), (18, (nI lv)), (19, j19), (20, j20), (34, j34), (40, j40), (44, j44), (47, vy28), (50, k50_54), (51, k51_55), (56, j56), (61, j61)]))), ((r 31), .inl (G.2 0, 2, .inl c31)), ((r 48), .inl (G.2 0, 71, .inl c48)), ((r 49), .inl (G.2 0, 71, .inl d49_56))] H _ := hw
            refine W.eq (g2 := F0 m 55 ls []) rfl ?_
            refine lv_aload_n hx hb dX10_missed_55 rfl (lv_at hl 3 rfl) ?_
            refine zz_get (v := .ref (r 49)) S hw fgX10_113 19 rfl rfl dX10_missed_56 ?_
            refine lv_bipush (v := 14) hx hb dX10_missed_59 (by decide) ?_
            refine lv_iload hx hb dX10_missed_61 (lv_at hl 0 rfl) ?_
            refine lv_iadd hx hb dX10_missed_63 ?_
            refine zz_topi (y := (nI (14 + vi4))) (nI_add _ _) ?_
            refine lv_iconst (v := 1) hx hb dX10_missed_64 (by decide) ?_
            refine zz_iast (ws' := [((r 22), .inl (G.2 0, 2, .inl c22)), ((r 24), .inl (G.2 0, 14, .inl c24)), ((r 25), .inl (G.2 0, 14, .inl c25)), ((r 26), .inl (G.2 0, 2, .inl c26)), ((r 28), .inl (G.2 0, 12, .inl c28)), ((r 29), .inl (G.2 0, 12, .inl c29)), ((r 30), .inl (G.2 0, 2, .inl c30)), ((r 32), .inl (G.2 0, 8, .inl c32)), ((r 33), .inl (G.2 0, 8, .inl c33)), ((r 35), .inl (G.2 2, 260, .inl c35)), ((r 36), .inl (G.2 0, 260, .inl c36)), ((r 37), .inl (G.2 0, 260, .inl c37)), ((r 38), .inl (G.2 0, 260, .inl c38)), ((r 39), .inl (G.2 0, 260, .inl c39)), ((r 41), .inl (G.2 0, 840, .inl c41)), ((r 42), .inl (G.2 0, 840, .inl c42)), ((r 45), .inl (G.2 0, 9, .inl vF31)), ((r 46), .inl (G.2 0, 400, .inl vF32)), ((r 52), .inl (G.2 0, 6, .inl vF34)), ((r 0), .inr (10, (zz_mo r [(0, j0), (2, j2), (4, j4), (10, j10), (11, j11), (12, j12), (13, j13), (14, j14), (15, j15), (16, j16), (17, j17), (18, (nI lv)), (19, j19), (20, j20), (34, j34), (40, j40), (44, j44), (47, vy28), (50, k50_54), (51, k51_55), (56, j56), (61, j61)]))), ((r 31), .inl (G.2 0, 2, .inl c31)), ((r 48), .inl (G.2 0, 71, .inl c48)), ((r 49), .inl (G.2 0, 71, .inl (upd d49_56 (14 + vi4) 1)))]) (g := (upd d49_56 (14 + vi4) 1)) S hw 22 rfl (vp_in_nI (n := (14 + vi4)) (by omega) (by decide)) (zz_upn (n := (14 + vi4)) (by omega)) rfl dX10_missed_65 ?_
            clear hw
            intro H locs hw
            refine lv_aload_n hx hb dX10_missed_66 rfl (lv_at hl 3 rfl) ?_
            refine zz_callV (qb := 19) (As := []) (rest := []) (wr := [((r 31), .inl (G.2 0, 2, .inl c31)), ((r 48), .inl (G.2 0, 71, .inl c48))]) S hw hl.1 lX10_432 (c_x_sumCast l G r j0 j2 j4 j10 j11 j12 j13 j14 j15 j16 j17 j19 j20 j34 j40 j44 vy28 k50_54 k51_55 j56 j61 lv pp pq c22 c24 c25 c26 c28 c29 c30 c32 c33 c35 c36 c37 c38 c39 c41 c42 vF31 vF32 (upd d49_56 (14 + vi4) 1) vF34 (by first | assumption | omega | exact Or.inr ⟨_, by omega, rfl⟩ | (unfold zz_sok; decide) | decide | exact (fun j hj => (hv7 j hj).1)) (by first | assumption | omega | exact Or.inr ⟨_, by omega, rfl⟩ | (unfold zz_sok; decide) | decide | exact (fun j hj => (hv7 j hj).1)) (by first | assumption | omega | exact Or.inr ⟨_, by omega, rfl⟩ | (unfold zz_sok; decide) | decide | exact (fun j hj => (hv7 j hj).1)) (by first | assumption | omega | exact Or.inr ⟨_, by omega, rfl⟩ | (unfold zz_sok; decide) | decide | exact (fun j hj => (hv7 j hj).1)) (by first | assumption | omega | exact Or.inr ⟨_, by omega, rfl⟩ | (unfold zz_sok; decide) | decide | exact (fun j hj => (hv7 j hj).1)) (by first | assumption | omega | exact Or.inr ⟨_, by omega, rfl⟩ | (unfold zz_sok; decide) | decide | exact (fun j hj => (hv7 j hj).1)) (by first | assumption | omega | exact Or.inr ⟨_, by omega, rfl⟩ | (unfold zz_sok; decide) | decide | exact (fun j hj => (hv7 j hj).1))) ⟨Nat.le_of_ble_eq_true rfl, Nat.le_of_ble_eq_true rfl⟩ ⟨Nat.le_of_ble_eq_true rfl, Nat.le_of_ble_eq_true rfl⟩ [19, 0, 1, 2, 3, 4, 5, 6, 7, 8, 9, 10, 11, 12, 13, 14, 15, 16, 17, 22, 18] [20, 21] (by decide +kernel) rfl rfl (by decide +kernel) (by decide +kernel) rfl rfl rfl rfl (Nat.le_of_ble_eq_true rfl) dX10_missed_67 ?_
            clear hw
            intro rr u H locs hp hw
            refine hp.elim fun rv_57 zg0 => zg0.elim fun k47_58 zg1 => zg1.elim fun d45_59 zg2 => zg2.elim fun d46_60 zg3 => zg3.elim fun d52_61 zg4 => zg4.elim fun zee1 zg5 => zg5.elim fun zee2 zg6 => zg6.elim fun hq67_0 hq67_1 => ?_
            clear hp zg0 zg1 zg2 zg3 zg4 zg5 zg6
            subst zee1
            subst zee2
            replace hw : zz_w G A s [((r 31), .inl (G.2 0, 2, .inl c31)), ((r 48), .inl (G.2 0, 71, .inl c48)), ((r 0), .inr (10, (zz_mo r [(0, j0), (2, j2), (4, j4), (10, j10), (11, j11), (12, j12), (13, j13), (14, j14), (15, j15), (16, j16), (17, j17), (18, (nI lv)), (19, j19), (20, j20), (34, j34), (40, j40), (44, j44), (47, k47_58), (50, k50_54), (51, k51_55), (56, j56), (61, j61)]))), ((r 22), .inl (G.2 0, 2, .inl c22)), ((r 24), .inl (G.2 0, 14, .inl c24)), ((r 25), .inl (G.2 0, 14, .inl c25)), ((r 26), .inl (G.2 0, 2, .inl c26)), ((r 28), .inl (G.2 0, 12, .inl c28)), ((r 29), .inl (G.2 0, 12, .inl c29)), ((r 30), .inl (G.2 0, 2, .inl c30)), ((r 32), .inl (G.2 0, 8, .inl c32)), ((r 33), .inl (G.2 0, 8, .inl c33)), ((r 35), .inl (G.2 2, 260, .inl c35)), ((r 36), .inl (G.2 0, 260, .inl c36)), ((r 37), .inl (G.2 0, 260, .inl c37)), ((r 38), .inl (G.2 0, 260, .inl c38)), ((r 39), .inl (G.2 0, 260, .inl c39)), ((r 41), .inl (G.2 0, 840, .inl c41)), ((r 42), .inl (G.2 0, 840, .inl c42)), ((r 45), .inl (G.2 0, 9, .inl d45_59)), ((r 46), .inl (G.2 0, 400, .inl d46_60)), ((r 49), .inl (G.2 0, 71, .inl (upd d49_56 (14 + vi4) 1))), ((r 52), .inl (G.2 0, 6, .inl d52_61))] H _ := hw
            refine W.eq (g2 := F0 m 70 ls [.int rv_57]) rfl ?_
            refine lv_istore (lv' := [(5, .int rv_57), (4, .int (nI vi4)), (3, .int vy26), (2, .int vy27), (0, .ref (r 0)), (1, .int (nI vq3))]) hx hb dX10_missed_70 hl (by decide) rfl (fun ls hl => ?_)
            refine lv_iload_n hx hb dX10_missed_72 rfl (lv_at hl 3 rfl) ?_
            refine lv_if_lt (tgt := 85) hx hb dX10_missed_73 (by decide) (fun c73_62 => ?_) (fun c73_62 => ?_)
            · skip
              refine lv_iload hx hb dX10_missed_85 (lv_at hl 1 rfl) ?_
              refine lv_istore_n (lv' := [(2, .int (nI vi4)), (5, .int rv_57), (4, .int (nI vi4)), (3, .int vy26), (0, .ref (r 0)), (1, .int (nI vq3))]) hx hb dX10_missed_87 rfl hl (by decide) rfl (fun ls hl => ?_)
              refine W.eq (g2 := F0 m 88 ls []) rfl ?_
              refine lv_iload hx hb dX10_missed_88 (lv_at hl 1 rfl) ?_
              refine lv_istore_n (lv' := [(3, .int rv_57), (2, .int (nI vi4)), (5, .int rv_57), (4, .int (nI vi4)), (0, .ref (r 0)), (1, .int (nI vq3))]) hx hb dX10_missed_90 rfl hl (by decide) rfl (fun ls hl => ?_)
              refine lv_iinc (v := (nI (vi4 + 1))) (lv' := [(4, .int (nI (vi4 + 1))), (3, .int rv_57), (2, .int (nI vi4)), (5, .int rv_57), (0, .ref (r 0)), (1, .int (nI vq3))]) hx hb dX10_missed_91 hl (k := 3) rfl (nI_add _ 1) (by decide) rfl (fun ls hl => ?_)
              refine lv_goto (tgt := 20) hx hb dX10_missed_94 (by decide) ?_
              exact ih20 (vi4 + 1) rv_57 (nI vi4) k47_58 k50_54 k51_55 d45_59 d46_60 (upd d49_56 (14 + vi4) 1) d52_61 _ _ _ (by omega) (by omega) (by first | assumption | omega | exact Or.inl rfl | exact Or.inr ⟨_, by omega, rfl⟩ | exact zz_oku (by assumption) (by first | exact Or.inl rfl | exact Or.inr ⟨_, by omega, rfl⟩)) (zME_y hv20_49 c45_53 ⟨_, hq52_0, hq67_0⟩ (Or.inl c73_62)) (hw.sub [2, 3, 4, 5, 6, 7, 8, 9, 0, 10, 11, 12, 13, 14, 15, 16, 17, 18, 19, 20, 1, 21, 22] (by decide +kernel) rfl) (lv_sub hl [0, 1, 2, 4, 5] rfl)
            · skip
              refine lv_iload hx hb dX10_missed_76 (lv_at hl 0 rfl) ?_
              refine lv_iload_n hx hb dX10_missed_78 rfl (lv_at hl 2 rfl) ?_
              refine lv_icmp_lt (tgt := 85) hx hb dX10_missed_79 (by decide) (fun c79_63 => ?_) (fun c79_63 => ?_)
              · skip
                refine lv_iload hx hb dX10_missed_85 (lv_at hl 1 rfl) ?_
                refine lv_istore_n (lv' := [(2, .int (nI vi4)), (5, .int rv_57), (4, .int (nI vi4)), (3, .int vy26), (0, .ref (r 0)), (1, .int (nI vq3))]) hx hb dX10_missed_87 rfl hl (by decide) rfl (fun ls hl => ?_)
                refine lv_iload hx hb dX10_missed_88 (lv_at hl 1 rfl) ?_
                refine lv_istore_n (lv' := [(3, .int rv_57), (2, .int (nI vi4)), (5, .int rv_57), (4, .int (nI vi4)), (0, .ref (r 0)), (1, .int (nI vq3))]) hx hb dX10_missed_90 rfl hl (by decide) rfl (fun ls hl => ?_)
                refine lv_iinc (v := (nI (vi4 + 1))) (lv' := [(4, .int (nI (vi4 + 1))), (3, .int rv_57), (2, .int (nI vi4)), (5, .int rv_57), (0, .ref (r 0)), (1, .int (nI vq3))]) hx hb dX10_missed_91 hl (k := 3) rfl (nI_add _ 1) (by decide) rfl (fun ls hl => ?_)
                refine lv_goto (tgt := 20) hx hb dX10_missed_94 (by decide) ?_
                exact ih20 (vi4 + 1) rv_57 (nI vi4) k47_58 k50_54 k51_55 d45_59 d46_60 (upd d49_56 (14 + vi4) 1) d52_61 _ _ _ (by omega) (by omega) (by first | assumption | omega | exact Or.inl rfl | exact Or.inr ⟨_, by omega, rfl⟩ | exact zz_oku (by assumption) (by first | exact Or.inl rfl | exact Or.inr ⟨_, by omega, rfl⟩)) (zME_y hv20_49 c45_53 ⟨_, hq52_0, hq67_0⟩ (Or.inr c79_63)) (hw.sub [2, 3, 4, 5, 6, 7, 8, 9, 0, 10, 11, 12, 13, 14, 15, 16, 17, 18, 19, 20, 1, 21, 22] (by decide +kernel) rfl) (lv_sub hl [0, 1, 2, 4, 5] rfl)
              · skip
                refine lv_goto (tgt := 91) hx hb dX10_missed_82 (by decide) ?_
                refine lv_iinc (v := (nI (vi4 + 1))) (lv' := [(4, .int (nI (vi4 + 1))), (5, .int rv_57), (3, .int vy26), (2, .int vy27), (0, .ref (r 0)), (1, .int (nI vq3))]) hx hb dX10_missed_91 hl (k := 1) rfl (nI_add _ 1) (by decide) rfl (fun ls hl => ?_)
                refine W.eq (g2 := F0 m 94 ls []) rfl ?_
                refine lv_goto (tgt := 20) hx hb dX10_missed_94 (by decide) ?_
                exact ih20 (vi4 + 1) vy26 vy27 k47_58 k50_54 k51_55 d45_59 d46_60 (upd d49_56 (14 + vi4) 1) d52_61 _ _ _ (by omega) (by omega) (by first | assumption | omega | exact Or.inl rfl | exact Or.inr ⟨_, by omega, rfl⟩ | exact zz_oku (by assumption) (by first | exact Or.inl rfl | exact Or.inr ⟨_, by omega, rfl⟩)) (zME_n hv20_49 ⟨_, hq52_0, hq67_0⟩ (fun z => z.elim (by first | exact c73_62 | exact Int32.not_lt.mpr c73_62) (by first | exact c79_63 | exact Int32.not_lt.mpr c79_63))) (hw.sub [2, 3, 4, 5, 6, 7, 8, 9, 0, 10, 11, 12, 13, 14, 15, 16, 17, 18, 19, 20, 1, 21, 22] (by decide +kernel) rfl) (lv_sub hl [0, 2, 3, 4, 5] rfl)
          · skip
            refine lv_goto (tgt := 91) hx hb dX10_missed_48 (by decide) ?_
            refine lv_iinc (v := (nI (vi4 + 1))) (lv' := [(4, .int (nI (vi4 + 1))), (3, .int vy26), (2, .int vy27), (0, .ref (r 0)), (1, .int (nI vq3))]) hx hb dX10_missed_91 hl (k := 0) rfl (nI_add _ 1) (by decide) rfl (fun ls hl => ?_)
            refine lv_goto (tgt := 20) hx hb dX10_missed_94 (by decide) ?_
            exact ih20 (vi4 + 1) vy26 vy27 vy28 vy29 vy30 vF31 vF32 vF33 vF34 _ _ _ (by omega) (by omega) (by first | assumption | omega | exact Or.inl rfl | exact Or.inr ⟨_, by omega, rfl⟩ | exact zz_oku (by assumption) (by first | exact Or.inl rfl | exact Or.inr ⟨_, by omega, rfl⟩)) (zME_f hv20_49 c45_53) hw (lv_sub hl [0, 1, 2, 3, 4] rfl)
    exact lp20_50 (pp + 1 - 0) 0 (-2) (-2) j47 j50 j51 c45 c46 c49 c52 _ _ _ (by omega) (by omega) (by first | assumption | omega | exact Or.inl rfl | exact Or.inr ⟨_, by omega, rfl⟩ | exact zz_oku (by assumption) (by first | exact Or.inl rfl | exact Or.inr ⟨_, by omega, rfl⟩)) zME_0 hw (lv_sub hl [0, 1, 2, 3, 4] rfl)
  · skip
    refine lv_iconst (v := (-1)) hx hb dX10_missed_9 (by decide) ?_
    exact hret _ _ _ _ _ _ ⟨(-1), j47, j50, j51, c45, c46, c49, c52, rfl, rfl, (by first | exact zA0 (zz_innI (n := 1) (by omega) hq3_1 (by assumption)) | exact zA1 ⟨_, by omega, rfl⟩ ⟨_, zME_e hdry (by omega), zP_0 rfl (by assumption)⟩ | exact zA1 ⟨_, by omega, rfl⟩ ⟨_, zME_e hdry (by omega), zP_1 rfl (by assumption)⟩), (by first | assumption | exact Or.inl rfl | exact Or.inr rfl | omega | exact Or.inr (by assumption) | exact zz_oku (by assumption) (by first | exact Or.inl rfl | exact Or.inr ⟨_, by omega, rfl⟩))⟩ hw rfl dX10_missed_10
