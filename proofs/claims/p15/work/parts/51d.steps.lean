section zzm59
section ZCS
variable {p : Program} {l : Launch} {e : Env} {R : Room} {s : State} {m : MethodId} {args : Array Value} {below : List Frame} {meth : Method} {c : Code} {H : Heap} {locs : List Loc} {cells slots : Nat} {Q : State → Prop}
variable {cc : ByteArray} {pc : Nat} {ls : Array Slot} {rest : List Value} {G : zz_G} {K : zz_K} {A : Nat → Prop} {nL : Nat} {own : String} {index : Nat} {tl ua : Nat} {tb : Nat → Int32} {pv : Int32} {ob : zz_O} {wt : zy_T} {td : zz_D} {X Y : va_W}
set_option maxHeartbeats 8000000 in
set_option maxRecDepth 100000 in
theorem sR_year {r : Nat → Nat} (S : CallFix p m c cc nL s args zz_T own) (hI : zz_RI G tl r tb pv ob wt td X) (hw : zz_w G A s (X ++ Y) H locs) (hl : ls.size = nL) (lk : zz_LV own index mX10_year 2) (hRm : 8 ≤ R.frames ∧ 304 ≤ R.locals) (hf : cells ≤ R.cells ∧ slots ≤ R.slots) (hW : (rest.map fun v => v.category).sum ≤ 8) (hdg : decode cc pc = .ok (.invokevirtual index, 3)) {ar1 : Int32} {ar2 : Int32} (hV : zy_V wt) (kk : ∀ (v : Int32) (X2 : va_W) (H1 : Heap) (locs1 : List Loc), v = zy_yrV wt ar1 ar2 → zz_RI G tl r tb pv ob wt td X2 → zz_w G A s (X2 ++ Y) H1 locs1 → W p l e R s m args below meth c H1 locs1 cells slots Q (F0 m (pc + 3) ls (.int v :: rest))) : W p l e R s m args below meth c H locs cells slots Q (F0 m pc ls (.int ar2 :: .int ar1 :: .ref (r 0) :: rest)) := by
  obtain ⟨c0, cl, j, mm, hF, rfl⟩ := hI
  refine hF.elim fun htl zf0 => zf0.elim fun hlv zf1 => zf1.elim fun hun zf2 => zf2.elim fun htn zf3 => zf3.elim fun hk5 zf4 => zf4.elim fun hP7 zf5 => zf5.elim fun hQ6 zf6 => zf6.elim fun hlw zf7 => zf7.elim fun hca zf8 => zf8.elim fun htp zf9 => zf9.elim fun hk7 zf10 => zf10.elim fun hkk zf11 => zf11.elim fun htb zf12 => zf12.elim fun hpl zf13 => zf13.elim fun hob zf14 => zf14.elim fun hsg zf15 => zf15.elim fun hln zf16 => zf16.elim fun hrw zf17 => zf17.elim fun hhi zf18 => zf18.elim fun hsl htd => ?_
  clear hF zf0 zf1 zf2 zf3 zf4 zf5 zf6 zf7 zf8 zf9 zf10 zf11 zf12 zf13 zf14 zf15 zf16 zf17 zf18
  obtain ⟨pp, hpp, hpe⟩ := hP7 (mm 0) (by omega)
  obtain ⟨pq, hpq, hpa⟩ := hQ6 (mm 0) (by omega)
  have hl1 : wt.1.1.length = pp := (nI_eq (by have := hln.1.2; omega) (by omega)).mp (hln.1.1.symm.trans hpe)
  have hl2 : wt.1.2.1.length = pq := (nI_eq (by have := hln.2.2; omega) (by omega)).mp (hln.2.1.symm.trans hpa)
  refine zz_callVQM (qb := 0) (As := [.int ar1, .int ar2]) (rest := rest) (wr := [((r 1), .inl (G.2 1, 2000, .inl (c0 1))), ((r 3), .inl (G.2 1, 2000, .inl (c0 3))), ((r 5), .inl (G.2 0, 403, .inl (c0 5))), ((r 6), .inl (G.2 0, 403, .inl (c0 6))), ((r 7), .inl (G.2 0, 403, .inl (c0 7))), ((r 8), .inl (G.2 3, 403, .inr (.inl (cl 8)))), ((r 9), .inl (G.2 3, 20, .inr (.inl (cl 9)))), ((r 21), .inl (G.2 3, 13, .inr (.inl (cl 21)))), ((r 23), .inl (G.2 0, 14, .inl (c0 23))), ((r 27), .inl (G.2 0, 12, .inl (c0 27))), ((r 43), .inl (G.2 0, 64, .inl (c0 43))), ((r 57), .inl (G.2 0, 2840, .inl (c0 57))), ((r 58), .inl (G.2 0, 42, .inl (c0 58))), ((r 59), .inl (G.2 0, 896, .inl (c0 59))), ((r 60), .inl (G.2 0, 6, .inl (c0 60))), ((r 62), .inl (G.2 0, 20, .inl (c0 62))), ((r 63), .inl (G.2 0, 20, .inl (c0 63))), ((r 64), .inl (G.2 2, 20, .inl (c0 64))), ((r 65), .inl (G.2 2, 3, .inl (c0 65))), ((r 66), .inl (G.2 0, 213, .inl (c0 66)))]) S hw hl lk (c_x_year l G r (j 0) (nI tl) (j 4) (j 10) (j 11) (j 12) (j 13) (j 14) (j 15) (j 16) (j 17) (j 19) (j 20) (j 34) (j 40) (j 44) (j 47) (j 50) (j 51) (nI (mm 1)) (nI (mm 2)) (mm 0) pp pq (c0 22) (c0 24) (c0 25) (c0 26) (c0 28) (c0 29) (c0 30) (c0 31) (c0 32) (c0 33) (c0 35) (c0 36) (c0 37) (c0 38) (c0 39) (c0 41) (c0 42) (c0 45) (c0 46) (c0 48) (c0 49) (c0 52) (c0 53) (c0 54) (c0 55) ar1 ar2 (by first | assumption | omega) (by first | assumption | omega) (by first | assumption | omega) (by first | assumption | omega) (by first | assumption | omega) (by first | assumption | omega) (by first | assumption | omega)) hRm hf [1, 0, 0, 0, 0, 0, 0, 0, 0, 1, 0, 1, 1, 1, 0, 1, 1, 1, 1, 1, 1, 1, 1, 1, 1, 1, 1, 1, 0, 1, 1, 1, 1, 1, 1, 1, 1, 0, 0, 0, 0, 0, 0, 0, 0, 0] 20 26 rfl rfl rfl [0, 9, 11, 12, 13, 15, 16, 17, 18, 19, 20, 21, 22, 23, 24, 25, 26, 27, 29, 30, 31, 32, 33, 34, 35, 36] [1, 2, 3, 4, 5, 6, 7, 8, 10, 14, 28, 37, 38, 39, 40, 41, 42, 43, 44, 45] (by decide +kernel) (by decide +kernel) (by decide +kernel) (by decide +kernel) (by decide +kernel) rfl rfl rfl rfl hW hdg ?_
  clear hw
  intro rr u H1 locs1 hp hw
  refine hp.elim fun rv_v zg0 => zg0.elim fun k47_v zg1 => zg1.elim fun k50_v zg2 => zg2.elim fun k51_v zg3 => zg3.elim fun d45_v zg4 => zg4.elim fun d46_v zg5 => zg5.elim fun d49_v zg6 => zg6.elim fun d52_v zg7 => zg7.elim fun d53_v zg8 => zg8.elim fun d54_v zg9 => zg9.elim fun d55_v zg10 => zg10.elim fun zee1 zg11 => zg11.elim fun zee2 zg12 => zg12.elim fun hq0 hq1 => ?_
  clear hp zg0 zg1 zg2 zg3 zg4 zg5 zg6 zg7 zg8 zg9 zg10 zg11 zg12
  subst zee1
  subst zee2
  refine kk _ _ H1 locs1 (zy_yrR hV hsg hl1 hl2 hrw hq0) ⟨(zz_bv 49 (zz_fu c0 [(45, d45_v), (46, d46_v), (49, d49_v)]) (zz_bv 53 (zz_fu c0 [(52, d52_v), (53, d53_v)]) (zz_fu c0 [(54, d54_v), (55, d55_v)]))), cl, (zz_fu j [(47, k47_v), (50, k50_v), (51, k51_v)]), mm, ⟨htl, hlv, hun, htn, hk5, hP7, hQ6, hlw, hq1, htp, hk7, hkk, htb, hpl, hob, hsg, hln, hrw, hhi, hsl, htd⟩, rfl⟩ ?_
  exact zz_w.mrg hw [1, 0, 0, 0, 0, 0, 0, 0, 0, 1, 0, 1, 1, 1, 0, 1, 1, 1, 1, 1, 1, 1, 1, 1, 1, 1, 1, 1, 0, 1, 1, 1, 1, 1, 1, 1, 1, 0, 0, 0, 0, 0, 0, 0, 0, 0] 20 26 rfl rfl (by decide +kernel) rfl
set_option maxHeartbeats 8000000 in
set_option maxRecDepth 100000 in
theorem sR_tell {r : Nat → Nat} (S : CallFix p m c cc nL s args zz_T own) (hI : zz_RI G tl r tb pv ob wt td X) (hw : zz_w G A s (X ++ Y) H locs) (hl : ls.size = nL) (lk : zz_LV own index mX10_tell 3) (hRm : 3 ≤ R.frames ∧ 103 ≤ R.locals) (hf : cells ≤ R.cells ∧ slots ≤ R.slots) (hW : (rest.map fun v => v.category).sum ≤ 8) (hdg : decode cc pc = .ok (.invokevirtual index, 3)) {ar1 : Int32} {ar2 : Int32} {ar3 : Int32} (kk : ∀ (v : Int32) (ob2 : zz_O) (X2 : va_W) (H1 : Heap) (locs1 : List Loc), zz_tlO ob ar1 ar2 v ob2 → zz_RI G tl r tb pv ob2 wt (zz_tdT td ob.2.1 ar1 ar2 ar3 v) X2 → zz_w G A s (X2 ++ Y) H1 locs1 → W p l e R s m args below meth c H1 locs1 cells slots Q (F0 m (pc + 3) ls (.int v :: rest))) : W p l e R s m args below meth c H locs cells slots Q (F0 m pc ls (.int ar3 :: .int ar2 :: .int ar1 :: .ref (r 0) :: rest)) := by
  obtain ⟨c0, cl, j, mm, hF, rfl⟩ := hI
  refine hF.elim fun htl zf0 => zf0.elim fun hlv zf1 => zf1.elim fun hun zf2 => zf2.elim fun htn zf3 => zf3.elim fun hk5 zf4 => zf4.elim fun hP7 zf5 => zf5.elim fun hQ6 zf6 => zf6.elim fun hlw zf7 => zf7.elim fun hca zf8 => zf8.elim fun htp zf9 => zf9.elim fun hk7 zf10 => zf10.elim fun hkk zf11 => zf11.elim fun htb zf12 => zf12.elim fun hpl zf13 => zf13.elim fun hob zf14 => zf14.elim fun hsg zf15 => zf15.elim fun hln zf16 => zf16.elim fun hrw zf17 => zf17.elim fun hhi zf18 => zf18.elim fun hsl htd => ?_
  clear hF zf0 zf1 zf2 zf3 zf4 zf5 zf6 zf7 zf8 zf9 zf10 zf11 zf12 zf13 zf14 zf15 zf16 zf17 zf18
  obtain ⟨pp, hpp, hpe⟩ := hP7 (mm 0) (by omega)
  obtain ⟨pq, hpq, hpa⟩ := hQ6 (mm 0) (by omega)
  have hl1 : wt.1.1.length = pp := (nI_eq (by have := hln.1.2; omega) (by omega)).mp (hln.1.1.symm.trans hpe)
  have hl2 : wt.1.2.1.length = pq := (nI_eq (by have := hln.2.2; omega) (by omega)).mp (hln.2.1.symm.trans hpa)
  refine zz_callVQM (qb := 0) (As := [.int ar1, .int ar2, .int ar3]) (rest := rest) (wr := [((r 1), .inl (G.2 1, 2000, .inl (c0 1))), ((r 3), .inl (G.2 1, 2000, .inl (c0 3))), ((r 5), .inl (G.2 0, 403, .inl (c0 5))), ((r 6), .inl (G.2 0, 403, .inl (c0 6))), ((r 7), .inl (G.2 0, 403, .inl (c0 7))), ((r 8), .inl (G.2 3, 403, .inr (.inl (cl 8)))), ((r 9), .inl (G.2 3, 20, .inr (.inl (cl 9)))), ((r 21), .inl (G.2 3, 13, .inr (.inl (cl 21)))), ((r 22), .inl (G.2 0, 2, .inl (c0 22))), ((r 23), .inl (G.2 0, 14, .inl (c0 23))), ((r 24), .inl (G.2 0, 14, .inl (c0 24))), ((r 25), .inl (G.2 0, 14, .inl (c0 25))), ((r 27), .inl (G.2 0, 12, .inl (c0 27))), ((r 28), .inl (G.2 0, 12, .inl (c0 28))), ((r 29), .inl (G.2 0, 12, .inl (c0 29))), ((r 30), .inl (G.2 0, 2, .inl (c0 30))), ((r 31), .inl (G.2 0, 2, .inl (c0 31))), ((r 32), .inl (G.2 0, 8, .inl (c0 32))), ((r 33), .inl (G.2 0, 8, .inl (c0 33))), ((r 35), .inl (G.2 2, 260, .inl (c0 35))), ((r 36), .inl (G.2 0, 260, .inl (c0 36))), ((r 37), .inl (G.2 0, 260, .inl (c0 37))), ((r 38), .inl (G.2 0, 260, .inl (c0 38))), ((r 39), .inl (G.2 0, 260, .inl (c0 39))), ((r 41), .inl (G.2 0, 840, .inl (c0 41))), ((r 42), .inl (G.2 0, 840, .inl (c0 42))), ((r 43), .inl (G.2 0, 64, .inl (c0 43))), ((r 45), .inl (G.2 0, 9, .inl (c0 45))), ((r 46), .inl (G.2 0, 400, .inl (c0 46))), ((r 48), .inl (G.2 0, 71, .inl (c0 48))), ((r 49), .inl (G.2 0, 71, .inl (c0 49))), ((r 52), .inl (G.2 0, 6, .inl (c0 52))), ((r 53), .inl (G.2 2, 6, .inl (c0 53))), ((r 54), .inl (G.2 2, 6, .inl (c0 54))), ((r 55), .inl (G.2 0, 6, .inl (c0 55))), ((r 57), .inl (G.2 0, 2840, .inl (c0 57))), ((r 58), .inl (G.2 0, 42, .inl (c0 58))), ((r 59), .inl (G.2 0, 896, .inl (c0 59))), ((r 60), .inl (G.2 0, 6, .inl (c0 60))), ((r 65), .inl (G.2 2, 3, .inl (c0 65))), ((r 66), .inl (G.2 0, 213, .inl (c0 66)))]) S hw hl lk (c_x_tell l G r (j 0) (nI tl) (j 4) (j 10) (j 11) (j 12) (j 13) (j 14) (j 15) (j 16) (j 17) (j 19) (j 20) (j 34) (j 40) (j 44) (j 47) (j 50) (j 51) (nI (mm 1)) (mm 0) pq (c0 26) (c0 62) (c0 63) (c0 64) ar1 ar2 ar3 (mm 2) (by first | assumption | omega) (by first | assumption | omega) (by first | assumption | omega) (by first | assumption | omega) (by first | assumption | omega)) hRm hf [1, 0, 0, 0, 0, 0, 0, 0, 0, 0, 0, 0, 0, 1, 0, 0, 0, 0, 0, 0, 0, 0, 0, 0, 0, 0, 0, 0, 0, 0, 0, 0, 0, 0, 0, 0, 0, 0, 0, 0, 0, 1, 1, 1, 0, 0] 41 5 rfl rfl rfl [0, 13, 41, 42, 43] [1, 2, 3, 4, 5, 6, 7, 8, 9, 10, 11, 12, 14, 15, 16, 17, 18, 19, 20, 21, 22, 23, 24, 25, 26, 27, 28, 29, 30, 31, 32, 33, 34, 35, 36, 37, 38, 39, 40, 44, 45] (by decide +kernel) (by decide +kernel) (by decide +kernel) (by decide +kernel) (by decide +kernel) rfl rfl rfl rfl hW hdg ?_
  clear hw
  intro rr u H1 locs1 hp hw
  refine hp.elim fun rv_v zg0 => zg0.elim fun tn2_v zg1 => zg1.elim fun d62_v zg2 => zg2.elim fun d63_v zg3 => zg3.elim fun d64_v zg4 => zg4.elim fun zee1 zg5 => zg5.elim fun zee2 zg6 => zg6.elim fun hq0 zg7 => zg7.elim fun hq1 zg8 => zg8.elim fun hq2 hq3 => ?_
  clear hp zg0 zg1 zg2 zg3 zg4 zg5 zg6 zg7 zg8
  subst zee1
  subst zee2
  obtain ⟨q2, hw2, ew2⟩ : ∃ q : Nat, q ≤ 6 ∧ c0 26 (mm 0) = nI q := ⟨pq, hpq, hpa⟩
  refine kk _ (q2, tn2_v, c0 65) _ H1 locs1 (by obtain rfl := (nI_eq (by omega) (by omega)).mp (ew2.symm.trans hpa); exact zz_tlC (zz_oRq hob hw2 ew2) hq2) ⟨(zz_fu c0 [(62, d62_v), (63, d63_v), (64, d64_v)]), cl, j, (zz_fu mm [(2, tn2_v)]), ⟨htl, hlv, hun, hq0, hk5, hP7, hQ6, hlw, hca, hq1, hk7, hkk, htb, hpl, ⟨_, hw2, ew2, zz_oE.rf⟩, hsg, hln, hrw, hhi, hsl, (zz_tdC (zz_oRq hob hpq hpa).2.1 hl2.symm (by omega) htd hq3 hq2)⟩, rfl⟩ ?_
  exact zz_w.mrg hw [1, 0, 0, 0, 0, 0, 0, 0, 0, 0, 0, 0, 0, 1, 0, 0, 0, 0, 0, 0, 0, 0, 0, 0, 0, 0, 0, 0, 0, 0, 0, 0, 0, 0, 0, 0, 0, 0, 0, 0, 0, 1, 1, 1, 0, 0] 41 5 rfl rfl (by decide +kernel) rfl
set_option maxHeartbeats 8000000 in
set_option maxRecDepth 100000 in
theorem sR_forget {r : Nat → Nat} (S : CallFix p m c cc nL s args zz_T own) (hI : zz_RI G tl r tb pv ob wt td X) (hw : zz_w G A s (X ++ Y) H locs) (hl : ls.size = nL) (lk : zz_LV own index mX10_forget 0) (hRm : 1 ≤ R.frames ∧ 21 ≤ R.locals) (hf : cells ≤ R.cells ∧ slots ≤ R.slots) (hW : (rest.map fun v => v.category).sum ≤ 8) (hdg : decode cc pc = .ok (.invokevirtual index, 3)) (kk : ∀ (v : Int32) (ob2 : zz_O) (X2 : va_W) (H1 : Heap) (locs1 : List Loc), zz_fgO ob v ob2 → zz_RI G tl r tb pv ob2 wt td X2 → zz_w G A s (X2 ++ Y) H1 locs1 → W p l e R s m args below meth c H1 locs1 cells slots Q (F0 m (pc + 3) ls (.int v :: rest))) : W p l e R s m args below meth c H locs cells slots Q (F0 m pc ls (.ref (r 0) :: rest)) := by
  obtain ⟨c0, cl, j, mm, hF, rfl⟩ := hI
  refine hF.elim fun htl zf0 => zf0.elim fun hlv zf1 => zf1.elim fun hun zf2 => zf2.elim fun htn zf3 => zf3.elim fun hk5 zf4 => zf4.elim fun hP7 zf5 => zf5.elim fun hQ6 zf6 => zf6.elim fun hlw zf7 => zf7.elim fun hca zf8 => zf8.elim fun htp zf9 => zf9.elim fun hk7 zf10 => zf10.elim fun hkk zf11 => zf11.elim fun htb zf12 => zf12.elim fun hpl zf13 => zf13.elim fun hob zf14 => zf14.elim fun hsg zf15 => zf15.elim fun hln zf16 => zf16.elim fun hrw zf17 => zf17.elim fun hhi zf18 => zf18.elim fun hsl htd => ?_
  clear hF zf0 zf1 zf2 zf3 zf4 zf5 zf6 zf7 zf8 zf9 zf10 zf11 zf12 zf13 zf14 zf15 zf16 zf17 zf18
  obtain ⟨pp, hpp, hpe⟩ := hP7 (mm 0) (by omega)
  obtain ⟨pq, hpq, hpa⟩ := hQ6 (mm 0) (by omega)
  refine zz_callVQM (qb := 0) (As := []) (rest := rest) (wr := [((r 1), .inl (G.2 1, 2000, .inl (c0 1))), ((r 3), .inl (G.2 1, 2000, .inl (c0 3))), ((r 5), .inl (G.2 0, 403, .inl (c0 5))), ((r 6), .inl (G.2 0, 403, .inl (c0 6))), ((r 7), .inl (G.2 0, 403, .inl (c0 7))), ((r 8), .inl (G.2 3, 403, .inr (.inl (cl 8)))), ((r 9), .inl (G.2 3, 20, .inr (.inl (cl 9)))), ((r 21), .inl (G.2 3, 13, .inr (.inl (cl 21)))), ((r 22), .inl (G.2 0, 2, .inl (c0 22))), ((r 23), .inl (G.2 0, 14, .inl (c0 23))), ((r 24), .inl (G.2 0, 14, .inl (c0 24))), ((r 25), .inl (G.2 0, 14, .inl (c0 25))), ((r 26), .inl (G.2 0, 2, .inl (c0 26))), ((r 27), .inl (G.2 0, 12, .inl (c0 27))), ((r 28), .inl (G.2 0, 12, .inl (c0 28))), ((r 29), .inl (G.2 0, 12, .inl (c0 29))), ((r 30), .inl (G.2 0, 2, .inl (c0 30))), ((r 31), .inl (G.2 0, 2, .inl (c0 31))), ((r 32), .inl (G.2 0, 8, .inl (c0 32))), ((r 33), .inl (G.2 0, 8, .inl (c0 33))), ((r 35), .inl (G.2 2, 260, .inl (c0 35))), ((r 36), .inl (G.2 0, 260, .inl (c0 36))), ((r 37), .inl (G.2 0, 260, .inl (c0 37))), ((r 38), .inl (G.2 0, 260, .inl (c0 38))), ((r 39), .inl (G.2 0, 260, .inl (c0 39))), ((r 41), .inl (G.2 0, 840, .inl (c0 41))), ((r 42), .inl (G.2 0, 840, .inl (c0 42))), ((r 43), .inl (G.2 0, 64, .inl (c0 43))), ((r 45), .inl (G.2 0, 9, .inl (c0 45))), ((r 46), .inl (G.2 0, 400, .inl (c0 46))), ((r 48), .inl (G.2 0, 71, .inl (c0 48))), ((r 49), .inl (G.2 0, 71, .inl (c0 49))), ((r 52), .inl (G.2 0, 6, .inl (c0 52))), ((r 53), .inl (G.2 2, 6, .inl (c0 53))), ((r 54), .inl (G.2 2, 6, .inl (c0 54))), ((r 55), .inl (G.2 0, 6, .inl (c0 55))), ((r 57), .inl (G.2 0, 2840, .inl (c0 57))), ((r 58), .inl (G.2 0, 42, .inl (c0 58))), ((r 59), .inl (G.2 0, 896, .inl (c0 59))), ((r 60), .inl (G.2 0, 6, .inl (c0 60))), ((r 62), .inl (G.2 0, 20, .inl (c0 62))), ((r 63), .inl (G.2 0, 20, .inl (c0 63))), ((r 64), .inl (G.2 2, 20, .inl (c0 64))), ((r 65), .inl (G.2 2, 3, .inl (c0 65))), ((r 66), .inl (G.2 0, 213, .inl (c0 66)))]) S hw hl lk (c_x_forget l G r (j 0) (nI tl) (j 4) (j 10) (j 11) (j 12) (j 13) (j 14) (j 15) (j 16) (j 17) (nI (mm 0)) (j 19) (j 20) (j 34) (j 40) (j 44) (j 47) (j 50) (j 51) (nI (mm 1)) (mm 2) (by first | assumption | omega)) hRm hf [1, 0, 0, 0, 0, 0, 0, 0, 0, 0, 0, 0, 0, 0, 0, 0, 0, 0, 0, 0, 0, 0, 0, 0, 0, 0, 0, 0, 0, 0, 0, 0, 0, 0, 0, 0, 0, 0, 0, 0, 0, 0, 0, 0, 0, 0] 45 1 rfl rfl rfl [0] [1, 2, 3, 4, 5, 6, 7, 8, 9, 10, 11, 12, 13, 14, 15, 16, 17, 18, 19, 20, 21, 22, 23, 24, 25, 26, 27, 28, 29, 30, 31, 32, 33, 34, 35, 36, 37, 38, 39, 40, 41, 42, 43, 44, 45] (by decide +kernel) (by decide +kernel) (by decide +kernel) (by decide +kernel) (by decide +kernel) rfl rfl rfl rfl hW hdg ?_
  clear hw
  intro rr u H1 locs1 hp hw
  refine hp.elim fun rv_v zg0 => zg0.elim fun zee1 zg1 => zg1.elim fun zee2 hq0 => ?_
  clear hp zg0 zg1
  subst zee1
  subst zee2
  obtain ⟨q2, hw2, ew2⟩ : ∃ q : Nat, q ≤ 6 ∧ c0 26 (mm 0) = nI q := ⟨pq, hpq, hpa⟩
  refine kk _ (q2, 0, c0 65) _ H1 locs1 (zz_fgC (zz_oRq hob hw2 ew2) hq0) ⟨c0, cl, j, (zz_fu mm [(2, 0)]), ⟨htl, hlv, hun, (by first | exact htn | (show 0 ≤ 20; omega)), hk5, hP7, hQ6, hlw, hca, htp, hk7, hkk, htb, hpl, ⟨_, hw2, ew2, zz_oE.rf⟩, hsg, hln, hrw, hhi, hsl, zz_td00⟩, rfl⟩ ?_
  exact zz_w.mrg hw [1, 0, 0, 0, 0, 0, 0, 0, 0, 0, 0, 0, 0, 0, 0, 0, 0, 0, 0, 0, 0, 0, 0, 0, 0, 0, 0, 0, 0, 0, 0, 0, 0, 0, 0, 0, 0, 0, 0, 0, 0, 0, 0, 0, 0, 0] 45 1 rfl rfl (by decide +kernel) rfl
set_option maxHeartbeats 8000000 in
set_option maxRecDepth 100000 in
theorem sR_who {r : Nat → Nat} (S : CallFix p m c cc nL s args zz_T own) (hI : zz_RI G tl r tb pv ob wt td X) (hw : zz_w G A s (X ++ Y) H locs) (hl : ls.size = nL) (lk : zz_LV own index mX10_who 2) (hRm : 6 ≤ R.frames ∧ 223 ≤ R.locals) (hf : cells ≤ R.cells ∧ slots ≤ R.slots) (hW : (rest.map fun v => v.category).sum ≤ 8) (hdg : decode cc pc = .ok (.invokevirtual index, 3)) {ar1 : Int32} {ar2 : Int32} (hV : zy_V wt) (kk : ∀ (v : Int32) (X2 : va_W) (H1 : Heap) (locs1 : List Loc), v = zy_whV wt ob td ar1 ar2 → zz_RI G tl r tb pv ob wt td X2 → zz_w G A s (X2 ++ Y) H1 locs1 → W p l e R s m args below meth c H1 locs1 cells slots Q (F0 m (pc + 3) ls (.int v :: rest))) : W p l e R s m args below meth c H locs cells slots Q (F0 m pc ls (.int ar2 :: .int ar1 :: .ref (r 0) :: rest)) := by
  obtain ⟨c0, cl, j, mm, hF, rfl⟩ := hI
  refine hF.elim fun htl zf0 => zf0.elim fun hlv zf1 => zf1.elim fun hun zf2 => zf2.elim fun htn zf3 => zf3.elim fun hk5 zf4 => zf4.elim fun hP7 zf5 => zf5.elim fun hQ6 zf6 => zf6.elim fun hlw zf7 => zf7.elim fun hca zf8 => zf8.elim fun htp zf9 => zf9.elim fun hk7 zf10 => zf10.elim fun hkk zf11 => zf11.elim fun htb zf12 => zf12.elim fun hpl zf13 => zf13.elim fun hob zf14 => zf14.elim fun hsg zf15 => zf15.elim fun hln zf16 => zf16.elim fun hrw zf17 => zf17.elim fun hhi zf18 => zf18.elim fun hsl htd => ?_
  clear hF zf0 zf1 zf2 zf3 zf4 zf5 zf6 zf7 zf8 zf9 zf10 zf11 zf12 zf13 zf14 zf15 zf16 zf17 zf18
  obtain ⟨pp, hpp, hpe⟩ := hP7 (mm 0) (by omega)
  obtain ⟨pq, hpq, hpa⟩ := hQ6 (mm 0) (by omega)
  have hl1 : wt.1.1.length = pp := (nI_eq (by have := hln.1.2; omega) (by omega)).mp (hln.1.1.symm.trans hpe)
  have hl2 : wt.1.2.1.length = pq := (nI_eq (by have := hln.2.2; omega) (by omega)).mp (hln.2.1.symm.trans hpa)
  refine zz_callVQM (qb := 0) (As := [.int ar1, .int ar2]) (rest := rest) (wr := [((r 1), .inl (G.2 1, 2000, .inl (c0 1))), ((r 3), .inl (G.2 1, 2000, .inl (c0 3))), ((r 5), .inl (G.2 0, 403, .inl (c0 5))), ((r 6), .inl (G.2 0, 403, .inl (c0 6))), ((r 7), .inl (G.2 0, 403, .inl (c0 7))), ((r 8), .inl (G.2 3, 403, .inr (.inl (cl 8)))), ((r 9), .inl (G.2 3, 20, .inr (.inl (cl 9)))), ((r 21), .inl (G.2 3, 13, .inr (.inl (cl 21)))), ((r 23), .inl (G.2 0, 14, .inl (c0 23))), ((r 27), .inl (G.2 0, 12, .inl (c0 27))), ((r 43), .inl (G.2 0, 64, .inl (c0 43))), ((r 52), .inl (G.2 0, 6, .inl (c0 52))), ((r 53), .inl (G.2 2, 6, .inl (c0 53))), ((r 54), .inl (G.2 2, 6, .inl (c0 54))), ((r 55), .inl (G.2 0, 6, .inl (c0 55))), ((r 57), .inl (G.2 0, 2840, .inl (c0 57))), ((r 58), .inl (G.2 0, 42, .inl (c0 58))), ((r 59), .inl (G.2 0, 896, .inl (c0 59))), ((r 60), .inl (G.2 0, 6, .inl (c0 60))), ((r 65), .inl (G.2 2, 3, .inl (c0 65))), ((r 66), .inl (G.2 0, 213, .inl (c0 66)))]) S hw hl lk (c_x_who l G r (j 0) (nI tl) (j 4) (j 10) (j 11) (j 12) (j 13) (j 14) (j 15) (j 16) (j 17) (j 19) (j 20) (j 34) (j 40) (j 44) (j 47) (j 50) (j 51) (nI (mm 1)) (mm 0) pp pq (c0 22) (c0 24) (c0 25) (c0 26) (c0 28) (c0 29) (c0 30) (c0 31) (c0 32) (c0 33) (c0 35) (c0 36) (c0 37) (c0 38) (c0 39) (c0 41) (c0 42) (c0 45) (c0 46) (c0 48) (c0 49) (c0 62) (c0 63) (c0 64) ar1 ar2 (mm 2) (by first | assumption | omega) (by first | assumption | omega) (by first | assumption | omega) (by first | assumption | omega) (by first | assumption | omega) (by first | assumption | omega) (by first | assumption | omega) (by first | assumption | omega)) hRm hf [1, 0, 0, 0, 0, 0, 0, 0, 0, 1, 0, 1, 1, 1, 0, 1, 1, 1, 1, 1, 1, 1, 1, 1, 1, 1, 1, 1, 0, 1, 1, 1, 1, 0, 0, 0, 0, 0, 0, 0, 0, 1, 1, 1, 0, 0] 21 25 rfl rfl rfl [0, 9, 11, 12, 13, 15, 16, 17, 18, 19, 20, 21, 22, 23, 24, 25, 26, 27, 29, 30, 31, 32, 41, 42, 43] [1, 2, 3, 4, 5, 6, 7, 8, 10, 14, 28, 33, 34, 35, 36, 37, 38, 39, 40, 44, 45] (by decide +kernel) (by decide +kernel) (by decide +kernel) (by decide +kernel) (by decide +kernel) rfl rfl rfl rfl hW hdg ?_
  clear hw
  intro rr u H1 locs1 hp hw
  refine hp.elim fun rv_v zg0 => zg0.elim fun k47_v zg1 => zg1.elim fun k50_v zg2 => zg2.elim fun k51_v zg3 => zg3.elim fun d45_v zg4 => zg4.elim fun d46_v zg5 => zg5.elim fun d49_v zg6 => zg6.elim fun zee1 zg7 => zg7.elim fun zee2 hq0 => ?_
  clear hp zg0 zg1 zg2 zg3 zg4 zg5 zg6 zg7
  subst zee1
  subst zee2
  refine kk _ _ H1 locs1 (zy_whR hV hsg hl1 hl2 hrw hob htn htd hq0) ⟨(zz_fu c0 [(45, d45_v), (46, d46_v), (49, d49_v)]), cl, (zz_fu j [(47, k47_v), (50, k50_v), (51, k51_v)]), mm, ⟨htl, hlv, hun, htn, hk5, hP7, hQ6, hlw, hca, htp, hk7, hkk, htb, hpl, hob, hsg, hln, hrw, hhi, hsl, htd⟩, rfl⟩ ?_
  exact zz_w.mrg hw [1, 0, 0, 0, 0, 0, 0, 0, 0, 1, 0, 1, 1, 1, 0, 1, 1, 1, 1, 1, 1, 1, 1, 1, 1, 1, 1, 1, 0, 1, 1, 1, 1, 0, 0, 0, 0, 0, 0, 0, 0, 1, 1, 1, 0, 0] 21 25 rfl rfl (by decide +kernel) rfl
set_option maxHeartbeats 8000000 in
set_option maxRecDepth 100000 in
theorem sR_ask {r : Nat → Nat} (S : CallFix p m c cc nL s args zz_T own) (hI : zz_RI G tl r tb pv ob wt td X) (hw : zz_w G A s (X ++ Y) H locs) (hl : ls.size = nL) (lk : zz_LV own index mX10_ask 2) (hRm : 6 ≤ R.frames ∧ 228 ≤ R.locals) (hf : cells ≤ R.cells ∧ slots ≤ R.slots) (hW : (rest.map fun v => v.category).sum ≤ 8) (hdg : decode cc pc = .ok (.invokevirtual index, 3)) {ar1 : Int32} {ar2 : Int32} (hV : zy_V wt) (kk : ∀ (v : Int32) (X2 : va_W) (H1 : Heap) (locs1 : List Loc), v = zy_akV wt ob td ar1 ar2 → zz_RI G tl r tb pv ob wt td X2 → zz_w G A s (X2 ++ Y) H1 locs1 → W p l e R s m args below meth c H1 locs1 cells slots Q (F0 m (pc + 3) ls (.int v :: rest))) : W p l e R s m args below meth c H locs cells slots Q (F0 m pc ls (.int ar2 :: .int ar1 :: .ref (r 0) :: rest)) := by
  obtain ⟨c0, cl, j, mm, hF, rfl⟩ := hI
  refine hF.elim fun htl zf0 => zf0.elim fun hlv zf1 => zf1.elim fun hun zf2 => zf2.elim fun htn zf3 => zf3.elim fun hk5 zf4 => zf4.elim fun hP7 zf5 => zf5.elim fun hQ6 zf6 => zf6.elim fun hlw zf7 => zf7.elim fun hca zf8 => zf8.elim fun htp zf9 => zf9.elim fun hk7 zf10 => zf10.elim fun hkk zf11 => zf11.elim fun htb zf12 => zf12.elim fun hpl zf13 => zf13.elim fun hob zf14 => zf14.elim fun hsg zf15 => zf15.elim fun hln zf16 => zf16.elim fun hrw zf17 => zf17.elim fun hhi zf18 => zf18.elim fun hsl htd => ?_
  clear hF zf0 zf1 zf2 zf3 zf4 zf5 zf6 zf7 zf8 zf9 zf10 zf11 zf12 zf13 zf14 zf15 zf16 zf17 zf18
  obtain ⟨pp, hpp, hpe⟩ := hP7 (mm 0) (by omega)
  obtain ⟨pq, hpq, hpa⟩ := hQ6 (mm 0) (by omega)
  have hl1 : wt.1.1.length = pp := (nI_eq (by have := hln.1.2; omega) (by omega)).mp (hln.1.1.symm.trans hpe)
  have hl2 : wt.1.2.1.length = pq := (nI_eq (by have := hln.2.2; omega) (by omega)).mp (hln.2.1.symm.trans hpa)
  refine zz_callVQM (qb := 0) (As := [.int ar1, .int ar2]) (rest := rest) (wr := [((r 1), .inl (G.2 1, 2000, .inl (c0 1))), ((r 3), .inl (G.2 1, 2000, .inl (c0 3))), ((r 5), .inl (G.2 0, 403, .inl (c0 5))), ((r 6), .inl (G.2 0, 403, .inl (c0 6))), ((r 7), .inl (G.2 0, 403, .inl (c0 7))), ((r 8), .inl (G.2 3, 403, .inr (.inl (cl 8)))), ((r 9), .inl (G.2 3, 20, .inr (.inl (cl 9)))), ((r 21), .inl (G.2 3, 13, .inr (.inl (cl 21)))), ((r 23), .inl (G.2 0, 14, .inl (c0 23))), ((r 27), .inl (G.2 0, 12, .inl (c0 27))), ((r 43), .inl (G.2 0, 64, .inl (c0 43))), ((r 52), .inl (G.2 0, 6, .inl (c0 52))), ((r 53), .inl (G.2 2, 6, .inl (c0 53))), ((r 54), .inl (G.2 2, 6, .inl (c0 54))), ((r 55), .inl (G.2 0, 6, .inl (c0 55))), ((r 57), .inl (G.2 0, 2840, .inl (c0 57))), ((r 58), .inl (G.2 0, 42, .inl (c0 58))), ((r 59), .inl (G.2 0, 896, .inl (c0 59))), ((r 60), .inl (G.2 0, 6, .inl (c0 60))), ((r 65), .inl (G.2 2, 3, .inl (c0 65))), ((r 66), .inl (G.2 0, 213, .inl (c0 66)))]) S hw hl lk (c_x_ask l G r (j 0) (nI tl) (j 4) (j 10) (j 11) (j 12) (j 13) (j 14) (j 15) (j 16) (j 17) (j 19) (j 20) (j 34) (j 40) (j 44) (j 47) (j 50) (j 51) (nI (mm 1)) (mm 0) pp pq (c0 22) (c0 24) (c0 25) (c0 26) (c0 28) (c0 29) (c0 30) (c0 31) (c0 32) (c0 33) (c0 35) (c0 36) (c0 37) (c0 38) (c0 39) (c0 41) (c0 42) (c0 45) (c0 46) (c0 48) (c0 49) (c0 62) (c0 63) (c0 64) ar1 ar2 (mm 2) (by first | assumption | omega) (by first | assumption | omega) (by first | assumption | omega) (by first | assumption | omega) (by first | assumption | omega) (by first | assumption | omega) (by first | assumption | omega) (by first | assumption | omega)) hRm hf [1, 0, 0, 0, 0, 0, 0, 0, 0, 1, 0, 1, 1, 1, 0, 1, 1, 1, 1, 1, 1, 1, 1, 1, 1, 1, 1, 1, 0, 1, 1, 1, 1, 0, 0, 0, 0, 0, 0, 0, 0, 1, 1, 1, 0, 0] 21 25 rfl rfl rfl [0, 9, 11, 12, 13, 15, 16, 17, 18, 19, 20, 21, 22, 23, 24, 25, 26, 27, 29, 30, 31, 32, 41, 42, 43] [1, 2, 3, 4, 5, 6, 7, 8, 10, 14, 28, 33, 34, 35, 36, 37, 38, 39, 40, 44, 45] (by decide +kernel) (by decide +kernel) (by decide +kernel) (by decide +kernel) (by decide +kernel) rfl rfl rfl rfl hW hdg ?_
  clear hw
  intro rr u H1 locs1 hp hw
  refine hp.elim fun rv_v zg0 => zg0.elim fun k47_v zg1 => zg1.elim fun k50_v zg2 => zg2.elim fun k51_v zg3 => zg3.elim fun d45_v zg4 => zg4.elim fun d46_v zg5 => zg5.elim fun d49_v zg6 => zg6.elim fun zee1 zg7 => zg7.elim fun zee2 hq0 => ?_
  clear hp zg0 zg1 zg2 zg3 zg4 zg5 zg6 zg7
  subst zee1
  subst zee2
  refine kk _ _ H1 locs1 (zy_akR hV hsg hl1 hl2 hrw hob htn htd hq0) ⟨(zz_fu c0 [(45, d45_v), (46, d46_v), (49, d49_v)]), cl, (zz_fu j [(47, k47_v), (50, k50_v), (51, k51_v)]), mm, ⟨htl, hlv, hun, htn, hk5, hP7, hQ6, hlw, hca, htp, hk7, hkk, htb, hpl, hob, hsg, hln, hrw, hhi, hsl, htd⟩, rfl⟩ ?_
  exact zz_w.mrg hw [1, 0, 0, 0, 0, 0, 0, 0, 0, 1, 0, 1, 1, 1, 0, 1, 1, 1, 1, 1, 1, 1, 1, 1, 1, 1, 1, 1, 0, 1, 1, 1, 1, 0, 0, 0, 0, 0, 0, 0, 0, 1, 1, 1, 0, 0] 21 25 rfl rfl (by decide +kernel) rfl
set_option maxHeartbeats 8000000 in
set_option maxRecDepth 100000 in
theorem sR_hold {r : Nat → Nat} (S : CallFix p m c cc nL s args zz_T own) (hI : zz_RI G tl r tb pv ob wt td X) (hw : zz_w G A s (X ++ Y) H locs) (hl : ls.size = nL) (lk : zz_LV own index mX10_hold 1) (hRm : 2 ≤ R.frames ∧ 62 ≤ R.locals) (hf : cells ≤ R.cells ∧ slots ≤ R.slots) (hW : (rest.map fun v => v.category).sum ≤ 8) (hdg : decode cc pc = .ok (.invokevirtual index, 3)) {ar1 : Int32} (kk : ∀ (v : Int32) (ob2 : zz_O) (X2 : va_W) (H1 : Heap) (locs1 : List Loc), (v = zz_inn ar1 0 2 ∧ zz_hdO ob ar1 ob2) → zz_RI G tl r tb pv ob2 (zy_hdT wt ar1) td X2 → zz_w G A s (X2 ++ Y) H1 locs1 → W p l e R s m args below meth c H1 locs1 cells slots Q (F0 m (pc + 3) ls (.int v :: rest))) : W p l e R s m args below meth c H locs cells slots Q (F0 m pc ls (.int ar1 :: .ref (r 0) :: rest)) := by
  obtain ⟨c0, cl, j, mm, hF, rfl⟩ := hI
  refine hF.elim fun htl zf0 => zf0.elim fun hlv zf1 => zf1.elim fun hun zf2 => zf2.elim fun htn zf3 => zf3.elim fun hk5 zf4 => zf4.elim fun hP7 zf5 => zf5.elim fun hQ6 zf6 => zf6.elim fun hlw zf7 => zf7.elim fun hca zf8 => zf8.elim fun htp zf9 => zf9.elim fun hk7 zf10 => zf10.elim fun hkk zf11 => zf11.elim fun htb zf12 => zf12.elim fun hpl zf13 => zf13.elim fun hob zf14 => zf14.elim fun hsg zf15 => zf15.elim fun hln zf16 => zf16.elim fun hrw zf17 => zf17.elim fun hhi zf18 => zf18.elim fun hsl htd => ?_
  clear hF zf0 zf1 zf2 zf3 zf4 zf5 zf6 zf7 zf8 zf9 zf10 zf11 zf12 zf13 zf14 zf15 zf16 zf17 zf18
  obtain ⟨pp, hpp, hpe⟩ := hP7 (mm 0) (by omega)
  obtain ⟨pq, hpq, hpa⟩ := hQ6 (mm 0) (by omega)
  refine zz_callVQM (qb := 0) (As := [.int ar1]) (rest := rest) (wr := [((r 1), .inl (G.2 1, 2000, .inl (c0 1))), ((r 3), .inl (G.2 1, 2000, .inl (c0 3))), ((r 5), .inl (G.2 0, 403, .inl (c0 5))), ((r 6), .inl (G.2 0, 403, .inl (c0 6))), ((r 7), .inl (G.2 0, 403, .inl (c0 7))), ((r 8), .inl (G.2 3, 403, .inr (.inl (cl 8)))), ((r 9), .inl (G.2 3, 20, .inr (.inl (cl 9)))), ((r 21), .inl (G.2 3, 13, .inr (.inl (cl 21)))), ((r 22), .inl (G.2 0, 2, .inl (c0 22))), ((r 23), .inl (G.2 0, 14, .inl (c0 23))), ((r 24), .inl (G.2 0, 14, .inl (c0 24))), ((r 25), .inl (G.2 0, 14, .inl (c0 25))), ((r 26), .inl (G.2 0, 2, .inl (c0 26))), ((r 27), .inl (G.2 0, 12, .inl (c0 27))), ((r 28), .inl (G.2 0, 12, .inl (c0 28))), ((r 29), .inl (G.2 0, 12, .inl (c0 29))), ((r 30), .inl (G.2 0, 2, .inl (c0 30))), ((r 31), .inl (G.2 0, 2, .inl (c0 31))), ((r 32), .inl (G.2 0, 8, .inl (c0 32))), ((r 33), .inl (G.2 0, 8, .inl (c0 33))), ((r 35), .inl (G.2 2, 260, .inl (c0 35))), ((r 36), .inl (G.2 0, 260, .inl (c0 36))), ((r 37), .inl (G.2 0, 260, .inl (c0 37))), ((r 38), .inl (G.2 0, 260, .inl (c0 38))), ((r 39), .inl (G.2 0, 260, .inl (c0 39))), ((r 41), .inl (G.2 0, 840, .inl (c0 41))), ((r 42), .inl (G.2 0, 840, .inl (c0 42))), ((r 43), .inl (G.2 0, 64, .inl (c0 43))), ((r 45), .inl (G.2 0, 9, .inl (c0 45))), ((r 46), .inl (G.2 0, 400, .inl (c0 46))), ((r 49), .inl (G.2 0, 71, .inl (c0 49))), ((r 52), .inl (G.2 0, 6, .inl (c0 52))), ((r 53), .inl (G.2 2, 6, .inl (c0 53))), ((r 54), .inl (G.2 2, 6, .inl (c0 54))), ((r 55), .inl (G.2 0, 6, .inl (c0 55))), ((r 57), .inl (G.2 0, 2840, .inl (c0 57))), ((r 58), .inl (G.2 0, 42, .inl (c0 58))), ((r 59), .inl (G.2 0, 896, .inl (c0 59))), ((r 60), .inl (G.2 0, 6, .inl (c0 60))), ((r 62), .inl (G.2 0, 20, .inl (c0 62))), ((r 63), .inl (G.2 0, 20, .inl (c0 63))), ((r 64), .inl (G.2 2, 20, .inl (c0 64)))]) S hw hl lk (c_x_hold l G r (j 0) (nI tl) (j 4) (j 10) (j 11) (j 12) (j 13) (j 14) (j 15) (j 16) (j 17) (nI (mm 0)) (j 19) (j 20) (j 34) (j 40) (j 44) (j 47) (j 50) (j 51) (nI (mm 1)) (nI (mm 2)) (c0 48) (c0 65) (c0 66) ar1 ) hRm hf [1, 0, 0, 0, 0, 0, 0, 0, 0, 0, 0, 0, 0, 0, 0, 0, 0, 0, 0, 0, 0, 0, 0, 0, 0, 0, 0, 0, 0, 0, 0, 1, 0, 0, 0, 0, 0, 0, 0, 0, 0, 0, 0, 0, 1, 1] 42 4 rfl rfl rfl [0, 31, 44, 45] [1, 2, 3, 4, 5, 6, 7, 8, 9, 10, 11, 12, 13, 14, 15, 16, 17, 18, 19, 20, 21, 22, 23, 24, 25, 26, 27, 28, 29, 30, 32, 33, 34, 35, 36, 37, 38, 39, 40, 41, 42, 43] (by decide +kernel) (by decide +kernel) (by decide +kernel) (by decide +kernel) (by decide +kernel) rfl rfl rfl rfl hW hdg ?_
  clear hw
  intro rr u H1 locs1 hp hw
  refine hp.elim fun rv_v zg0 => zg0.elim fun d65_v zg1 => zg1.elim fun d66_v zg2 => zg2.elim fun zee1 zg3 => zg3.elim fun zee2 zg4 => zg4.elim fun hq0 zg5 => zg5.elim fun hq1 zg6 => zg6.elim fun hq2 hq3 => ?_
  clear hp zg0 zg1 zg2 zg3 zg4 zg5 zg6
  subst zee1
  subst zee2
  obtain ⟨q2, hw2, ew2⟩ : ∃ q : Nat, q ≤ 6 ∧ c0 26 (mm 0) = nI q := ⟨pq, hpq, hpa⟩
  obtain ⟨pe1, pe2, pe3⟩ := zy_hd1 (w := wt) (a := ar1)
  refine kk _ (q2, mm 2, d65_v) _ H1 locs1 ⟨hq0, zz_hdC (zz_oRq hob hw2 ew2) hq1⟩ ⟨(zz_fu c0 [(65, d65_v), (66, d66_v)]), cl, j, mm, ⟨htl, hlv, hun, htn, hk5, hP7, hQ6, hlw, hca, htp, hk7, hkk, htb, hpl, ⟨_, hw2, ew2, zz_oE.rf⟩, (by rw [pe1]; exact hsg), (by rw [pe1]; exact hln), (by rw [pe2]; exact hrw), (by rw [pe3]; exact hhi), (zy_hdR hq1 hq2 hrw hsl), (by rw [pe1]; exact htd)⟩, rfl⟩ ?_
  exact zz_w.mrg hw [1, 0, 0, 0, 0, 0, 0, 0, 0, 0, 0, 0, 0, 0, 0, 0, 0, 0, 0, 0, 0, 0, 0, 0, 0, 0, 0, 0, 0, 0, 0, 1, 0, 0, 0, 0, 0, 0, 0, 0, 0, 0, 0, 0, 1, 1] 42 4 rfl rfl (by decide +kernel) rfl
set_option maxHeartbeats 8000000 in
set_option maxRecDepth 100000 in
theorem sR_restore {r : Nat → Nat} (S : CallFix p m c cc nL s args zz_T own) (hI : zz_RI G tl r tb pv ob wt td X) (hw : zz_w G A s (X ++ Y) H locs) (hl : ls.size = nL) (lk : zz_LV own index mX10_restore 1) (hRm : 2 ≤ R.frames ∧ 62 ≤ R.locals) (hf : cells ≤ R.cells ∧ slots ≤ R.slots) (hW : (rest.map fun v => v.category).sum ≤ 8) (hdg : decode cc pc = .ok (.invokevirtual index, 3)) {ar1 : Int32} (kk : ∀ (v : Int32) (X2 : va_W) (H1 : Heap) (locs1 : List Loc), zz_rsO ob ar1 v → zz_RI G tl r tb pv ob (zy_rsT wt ar1 v) td X2 → zz_w G A s (X2 ++ Y) H1 locs1 → W p l e R s m args below meth c H1 locs1 cells slots Q (F0 m (pc + 3) ls (.int v :: rest))) : W p l e R s m args below meth c H locs cells slots Q (F0 m pc ls (.int ar1 :: .ref (r 0) :: rest)) := by
  obtain ⟨c0, cl, j, mm, hF, rfl⟩ := hI
  refine hF.elim fun htl zf0 => zf0.elim fun hlv zf1 => zf1.elim fun hun zf2 => zf2.elim fun htn zf3 => zf3.elim fun hk5 zf4 => zf4.elim fun hP7 zf5 => zf5.elim fun hQ6 zf6 => zf6.elim fun hlw zf7 => zf7.elim fun hca zf8 => zf8.elim fun htp zf9 => zf9.elim fun hk7 zf10 => zf10.elim fun hkk zf11 => zf11.elim fun htb zf12 => zf12.elim fun hpl zf13 => zf13.elim fun hob zf14 => zf14.elim fun hsg zf15 => zf15.elim fun hln zf16 => zf16.elim fun hrw zf17 => zf17.elim fun hhi zf18 => zf18.elim fun hsl htd => ?_
  clear hF zf0 zf1 zf2 zf3 zf4 zf5 zf6 zf7 zf8 zf9 zf10 zf11 zf12 zf13 zf14 zf15 zf16 zf17 zf18
  obtain ⟨pp, hpp, hpe⟩ := hP7 (mm 0) (by omega)
  obtain ⟨pq, hpq, hpa⟩ := hQ6 (mm 0) (by omega)
  refine zz_callVQM (qb := 0) (As := [.int ar1]) (rest := rest) (wr := [((r 1), .inl (G.2 1, 2000, .inl (c0 1))), ((r 3), .inl (G.2 1, 2000, .inl (c0 3))), ((r 5), .inl (G.2 0, 403, .inl (c0 5))), ((r 6), .inl (G.2 0, 403, .inl (c0 6))), ((r 7), .inl (G.2 0, 403, .inl (c0 7))), ((r 8), .inl (G.2 3, 403, .inr (.inl (cl 8)))), ((r 9), .inl (G.2 3, 20, .inr (.inl (cl 9)))), ((r 21), .inl (G.2 3, 13, .inr (.inl (cl 21)))), ((r 22), .inl (G.2 0, 2, .inl (c0 22))), ((r 23), .inl (G.2 0, 14, .inl (c0 23))), ((r 24), .inl (G.2 0, 14, .inl (c0 24))), ((r 25), .inl (G.2 0, 14, .inl (c0 25))), ((r 26), .inl (G.2 0, 2, .inl (c0 26))), ((r 27), .inl (G.2 0, 12, .inl (c0 27))), ((r 28), .inl (G.2 0, 12, .inl (c0 28))), ((r 29), .inl (G.2 0, 12, .inl (c0 29))), ((r 30), .inl (G.2 0, 2, .inl (c0 30))), ((r 31), .inl (G.2 0, 2, .inl (c0 31))), ((r 32), .inl (G.2 0, 8, .inl (c0 32))), ((r 33), .inl (G.2 0, 8, .inl (c0 33))), ((r 35), .inl (G.2 2, 260, .inl (c0 35))), ((r 36), .inl (G.2 0, 260, .inl (c0 36))), ((r 37), .inl (G.2 0, 260, .inl (c0 37))), ((r 38), .inl (G.2 0, 260, .inl (c0 38))), ((r 39), .inl (G.2 0, 260, .inl (c0 39))), ((r 41), .inl (G.2 0, 840, .inl (c0 41))), ((r 42), .inl (G.2 0, 840, .inl (c0 42))), ((r 43), .inl (G.2 0, 64, .inl (c0 43))), ((r 45), .inl (G.2 0, 9, .inl (c0 45))), ((r 46), .inl (G.2 0, 400, .inl (c0 46))), ((r 49), .inl (G.2 0, 71, .inl (c0 49))), ((r 52), .inl (G.2 0, 6, .inl (c0 52))), ((r 53), .inl (G.2 2, 6, .inl (c0 53))), ((r 54), .inl (G.2 2, 6, .inl (c0 54))), ((r 55), .inl (G.2 0, 6, .inl (c0 55))), ((r 57), .inl (G.2 0, 2840, .inl (c0 57))), ((r 58), .inl (G.2 0, 42, .inl (c0 58))), ((r 59), .inl (G.2 0, 896, .inl (c0 59))), ((r 60), .inl (G.2 0, 6, .inl (c0 60))), ((r 62), .inl (G.2 0, 20, .inl (c0 62))), ((r 63), .inl (G.2 0, 20, .inl (c0 63))), ((r 64), .inl (G.2 2, 20, .inl (c0 64)))]) S hw hl lk (c_x_restore l G r (j 0) (nI tl) (j 4) (j 10) (j 11) (j 12) (j 13) (j 14) (j 15) (j 16) (j 17) (nI (mm 0)) (j 19) (j 20) (j 34) (j 40) (j 44) (j 47) (j 50) (j 51) (nI (mm 2)) (c0 48) (c0 65) (c0 66) ar1 (mm 1) (by first | assumption | omega)) hRm hf [1, 0, 0, 0, 0, 0, 0, 0, 0, 0, 0, 0, 0, 0, 0, 0, 0, 0, 0, 0, 0, 0, 0, 0, 0, 0, 0, 0, 0, 0, 0, 1, 0, 0, 0, 0, 0, 0, 0, 0, 0, 0, 0, 0, 1, 1] 42 4 rfl rfl rfl [0, 31, 44, 45] [1, 2, 3, 4, 5, 6, 7, 8, 9, 10, 11, 12, 13, 14, 15, 16, 17, 18, 19, 20, 21, 22, 23, 24, 25, 26, 27, 28, 29, 30, 32, 33, 34, 35, 36, 37, 38, 39, 40, 41, 42, 43] (by decide +kernel) (by decide +kernel) (by decide +kernel) (by decide +kernel) (by decide +kernel) rfl rfl rfl rfl hW hdg ?_
  clear hw
  intro rr u H1 locs1 hp hw
  refine hp.elim fun rv_v zg0 => zg0.elim fun un2_v zg1 => zg1.elim fun d48_v zg2 => zg2.elim fun zee1 zg3 => zg3.elim fun zee2 zg4 => zg4.elim fun hq0 zg5 => zg5.elim fun hq1 zg6 => zg6.elim fun hq2 hq3 => ?_
  clear hp zg0 zg1 zg2 zg3 zg4 zg5 zg6
  subst zee1
  subst zee2
  obtain ⟨pe1, pe2, prw, phi⟩ := zy_rsR (w := wt) hq1 hq2 hrw hhi hsl
  refine kk _ _ H1 locs1 (zz_rsC (zz_oRq hob hpq hpa) hq1) ⟨(zz_fu c0 [(48, d48_v)]), cl, j, (zz_fu mm [(1, un2_v)]), ⟨htl, hlv, hq0, htn, hk5, hP7, hQ6, hlw, hca, htp, hk7, hkk, htb, hpl, hob, (by rw [pe1]; exact hsg), (by rw [pe1]; exact hln), prw, phi, (by rw [pe2]; exact hsl), (by rw [pe1]; exact htd)⟩, rfl⟩ ?_
  exact zz_w.mrg hw [1, 0, 0, 0, 0, 0, 0, 0, 0, 0, 0, 0, 0, 0, 0, 0, 0, 0, 0, 0, 0, 0, 0, 0, 0, 0, 0, 0, 0, 0, 0, 1, 0, 0, 0, 0, 0, 0, 0, 0, 0, 0, 0, 0, 1, 1] 42 4 rfl rfl (by decide +kernel) rfl
set_option maxHeartbeats 8000000 in
set_option maxRecDepth 100000 in
theorem sR_count {r : Nat → Nat} (S : CallFix p m c cc nL s args zz_T own) (hI : zz_RI G tl r tb pv ob wt td X) (hw : zz_w G A s (X ++ Y) H locs) (hl : ls.size = nL) (lk : zz_LV own index mX10_count 1) (hRm : 6 ≤ R.frames ∧ 223 ≤ R.locals) (hf : cells ≤ R.cells ∧ slots ≤ R.slots) (hW : (rest.map fun v => v.category).sum ≤ 8) (hdg : decode cc pc = .ok (.invokevirtual index, 3)) {ar1 : Int32} (hV : zy_V wt) (kk : ∀ (v : Int32) (X2 : va_W) (H1 : Heap) (locs1 : List Loc), v = zy_ctV tl wt ob ar1 → zz_RI G tl r tb pv ob wt td X2 → zz_w G A s (X2 ++ Y) H1 locs1 → W p l e R s m args below meth c H1 locs1 cells slots Q (F0 m (pc + 3) ls (.int v :: rest))) : W p l e R s m args below meth c H locs cells slots Q (F0 m pc ls (.int ar1 :: .ref (r 0) :: rest)) := by
  obtain ⟨c0, cl, j, mm, hF, rfl⟩ := hI
  refine hF.elim fun htl zf0 => zf0.elim fun hlv zf1 => zf1.elim fun hun zf2 => zf2.elim fun htn zf3 => zf3.elim fun hk5 zf4 => zf4.elim fun hP7 zf5 => zf5.elim fun hQ6 zf6 => zf6.elim fun hlw zf7 => zf7.elim fun hca zf8 => zf8.elim fun htp zf9 => zf9.elim fun hk7 zf10 => zf10.elim fun hkk zf11 => zf11.elim fun htb zf12 => zf12.elim fun hpl zf13 => zf13.elim fun hob zf14 => zf14.elim fun hsg zf15 => zf15.elim fun hln zf16 => zf16.elim fun hrw zf17 => zf17.elim fun hhi zf18 => zf18.elim fun hsl htd => ?_
  clear hF zf0 zf1 zf2 zf3 zf4 zf5 zf6 zf7 zf8 zf9 zf10 zf11 zf12 zf13 zf14 zf15 zf16 zf17 zf18
  obtain ⟨pp, hpp, hpe⟩ := hP7 (mm 0) (by omega)
  obtain ⟨pq, hpq, hpa⟩ := hQ6 (mm 0) (by omega)
  have hl1 : wt.1.1.length = pp := (nI_eq (by have := hln.1.2; omega) (by omega)).mp (hln.1.1.symm.trans hpe)
  have hl2 : wt.1.2.1.length = pq := (nI_eq (by have := hln.2.2; omega) (by omega)).mp (hln.2.1.symm.trans hpa)
  refine zz_callVQM (qb := 0) (As := [.int ar1]) (rest := rest) (wr := [((r 1), .inl (G.2 1, 2000, .inl (c0 1))), ((r 3), .inl (G.2 1, 2000, .inl (c0 3))), ((r 5), .inl (G.2 0, 403, .inl (c0 5))), ((r 6), .inl (G.2 0, 403, .inl (c0 6))), ((r 7), .inl (G.2 0, 403, .inl (c0 7))), ((r 8), .inl (G.2 3, 403, .inr (.inl (cl 8)))), ((r 9), .inl (G.2 3, 20, .inr (.inl (cl 9)))), ((r 21), .inl (G.2 3, 13, .inr (.inl (cl 21)))), ((r 23), .inl (G.2 0, 14, .inl (c0 23))), ((r 27), .inl (G.2 0, 12, .inl (c0 27))), ((r 43), .inl (G.2 0, 64, .inl (c0 43))), ((r 53), .inl (G.2 2, 6, .inl (c0 53))), ((r 54), .inl (G.2 2, 6, .inl (c0 54))), ((r 55), .inl (G.2 0, 6, .inl (c0 55))), ((r 57), .inl (G.2 0, 2840, .inl (c0 57))), ((r 58), .inl (G.2 0, 42, .inl (c0 58))), ((r 59), .inl (G.2 0, 896, .inl (c0 59))), ((r 60), .inl (G.2 0, 6, .inl (c0 60))), ((r 62), .inl (G.2 0, 20, .inl (c0 62))), ((r 63), .inl (G.2 0, 20, .inl (c0 63))), ((r 64), .inl (G.2 2, 20, .inl (c0 64))), ((r 66), .inl (G.2 0, 213, .inl (c0 66)))]) S hw hl lk (c_x_count l G r (j 0) (nI tl) (j 4) (j 10) (j 11) (j 12) (j 13) (j 14) (j 15) (j 16) (j 17) (j 19) (j 20) (j 34) (j 40) (j 44) (j 47) (j 50) (j 51) (nI (mm 1)) (nI (mm 2)) (mm 0) pp pq (c0 22) (c0 24) (c0 25) (c0 26) (c0 28) (c0 29) (c0 30) (c0 31) (c0 32) (c0 33) (c0 35) (c0 36) (c0 37) (c0 38) (c0 39) (c0 41) (c0 42) (c0 45) (c0 46) (c0 48) (c0 49) (c0 52) (c0 65) ar1 (by first | assumption | omega) (by first | assumption | omega) (by first | assumption | omega) (by first | assumption | omega) (by first | assumption | omega) (by first | assumption | omega) (by first | assumption | omega)) hRm hf [1, 0, 0, 0, 0, 0, 0, 0, 0, 1, 0, 1, 1, 1, 0, 1, 1, 1, 1, 1, 1, 1, 1, 1, 1, 1, 1, 1, 0, 1, 1, 1, 1, 1, 0, 0, 0, 0, 0, 0, 0, 0, 0, 0, 1, 0] 22 24 rfl rfl rfl [0, 9, 11, 12, 13, 15, 16, 17, 18, 19, 20, 21, 22, 23, 24, 25, 26, 27, 29, 30, 31, 32, 33, 44] [1, 2, 3, 4, 5, 6, 7, 8, 10, 14, 28, 34, 35, 36, 37, 38, 39, 40, 41, 42, 43, 45] (by decide +kernel) (by decide +kernel) (by decide +kernel) (by decide +kernel) (by decide +kernel) rfl rfl rfl rfl hW hdg ?_
  clear hw
  intro rr u H1 locs1 hp hw
  refine hp.elim fun rv_v zg0 => zg0.elim fun k47_v zg1 => zg1.elim fun k50_v zg2 => zg2.elim fun k51_v zg3 => zg3.elim fun d45_v zg4 => zg4.elim fun d46_v zg5 => zg5.elim fun d49_v zg6 => zg6.elim fun d52_v zg7 => zg7.elim fun zee1 zg8 => zg8.elim fun zee2 zg9 => zg9.elim fun hq0 hq1 => ?_
  clear hp zg0 zg1 zg2 zg3 zg4 zg5 zg6 zg7 zg8 zg9
  subst zee1
  subst zee2
  refine kk _ _ H1 locs1 (zy_ctR hV hsg hl1 hl2 hrw hob hhi hq0) ⟨(zz_bv 46 (zz_fu c0 [(45, d45_v), (46, d46_v)]) (zz_fu c0 [(49, d49_v), (52, d52_v)])), cl, (zz_fu j [(47, k47_v), (50, k50_v), (51, k51_v)]), mm, ⟨htl, hlv, hun, htn, hk5, hP7, hQ6, hlw, hq1, htp, hk7, hkk, htb, hpl, hob, hsg, hln, hrw, hhi, hsl, htd⟩, rfl⟩ ?_
  exact zz_w.mrg hw [1, 0, 0, 0, 0, 0, 0, 0, 0, 1, 0, 1, 1, 1, 0, 1, 1, 1, 1, 1, 1, 1, 1, 1, 1, 1, 1, 1, 0, 1, 1, 1, 1, 1, 0, 0, 0, 0, 0, 0, 0, 0, 0, 0, 1, 0] 22 24 rfl rfl (by decide +kernel) rfl
end ZCS
end zzm59
section zzm60
theorem kd_ncL_law : kd_ck 81299815260760462679216474011395600861317897588050790628138278755629882635570390738339884777810908141698359502877708335817705925902745831855311905776745183431655129147234848551820530306370588527262386689098876400806936902011794387870484379107986014018419673468507033828771271559639579250070068251758631331826216892856813706522164581213144186645496219238891159353050939052996757557498184154935412767071182758270751754630860696703798959228774074365397143097725577178152113112010419589436227961578749154555052149260121212931647591912427514860783221343836760673224954963197556343324888251286321886486724773288549770700784458967729304935606710499301607438849676285235519187226002232435331627556418231914641545267362106329196462475519190413193429050709487747312380852629418162007243446255734650323057204899610693264388777949736638564549457388418509497798552877203045152840479181640856234649672657674814380012140082503535673058929045010738051743196864982074438495122305995874256766954353181816175991563913807630154508882888021649306269314993654566739863424509691488360912547031029176136945848028782705763503842566831048163826586732476868368558258601155211028667934226685637328806350266060605700057864745130170346379099073478701064978647093653121331048939372042533074369836613898141037354517422064850949338367572068217682408378189728783646533840338332123475145616819071380297583661426065563243221823782918011706952432357208600693883667067225680275498016287503729581117183623604338118094371009938524450569177054408982189980979226440228818010763080387477378814989789035154194563190810428899916948503375415890018364475200331823218857031516515805627774091689498839611770546859962760930984249627390992078856562373706780434588379562475731779360310920071070475278690303365309556389328483788587492631839222651620423330626163583810843610407837429365576092496084406072117742869607140811890564781138552455880941300796785450258456947976579498448726062887513479909098947427738210510310659699871534812559942620511088643674225613383389545045105062536865374915543185513699750382031064782803345533582559912506373682255586142399783258620906429102481972370660116795045335498293253786122322021695604856743333781222028936710380885773264301710505111881364382766975646382886382077137729218580725139858349862373280276914177007749944670433418984608556959218123435449505597463122974325285983003334418293972946979099585305121857646903226477642204685543010913124741004674416566210255229655381678206470862989179954488376414295647367809774468628302736685796828075027254776199699033769991815302043540792014939488753415180410748730704709535774251945936630990249800316908948099289216476217808066818859428435864127787289409566539013124913316599317663677849414892095766700989882935996735199607490582439657902627874995265093333649538262317263727790615107438199799839800737328815539214546783512813950386302679358411629601167133061958613838814646969101568085502147908199100827396140922032299033961360307433626562773111393454206223050964002513542262559346237162564060090875320711258033866813844146987528443026108920548768154063432938189139448274614774121352500856665340942812113941143368386400770416199423838289410069977763943929359789100502011448947366366992312420823478012148674134203 1345 cL_law.data.toList 0 = true := by decide +kernel
theorem dL_law_0 : decode cL_law 0 = .ok (.new 7, 3) := kd_dk2 kd_o187 kd_ncL_law rfl
theorem dL_law_3 : decode cL_law 3 = .ok (.dup, 1) := kd_dk0 kd_o89 kd_ncL_law rfl
theorem dL_law_4 : decode cL_law 4 = .ok (.invokespecial 9, 3) := kd_dk2 kd_o183 kd_ncL_law rfl
theorem dL_law_7 : decode cL_law 7 = .ok (.astore_n 1, 1) := kd_dk0 kd_o76 kd_ncL_law rfl
theorem dL_law_8 : decode cL_law 8 = .ok (.new 10, 3) := kd_dk2 kd_o187 kd_ncL_law rfl
theorem dL_law_11 : decode cL_law 11 = .ok (.dup, 1) := kd_dk0 kd_o89 kd_ncL_law rfl
theorem dL_law_12 : decode cL_law 12 = .ok (.invokespecial 12, 3) := kd_dk2 kd_o183 kd_ncL_law rfl
theorem dL_law_15 : decode cL_law 15 = .ok (.astore_n 2, 1) := kd_dk0 kd_o77 kd_ncL_law rfl
theorem dL_law_16 : decode cL_law 16 = .ok (.iconst 0, 1) := kd_dk0 kd_o3 kd_ncL_law rfl
theorem dL_law_17 : decode cL_law 17 = .ok (.istore_n 3, 1) := kd_dk0 kd_o62 kd_ncL_law rfl
theorem dL_law_18 : decode cL_law 18 = .ok (.iload_n 3, 1) := kd_dk0 kd_o29 kd_ncL_law rfl
theorem dL_law_19 : decode cL_law 19 = .ok (.aload_n 0, 1) := kd_dk0 kd_o42 kd_ncL_law rfl
theorem dL_law_20 : decode cL_law 20 = .ok (.arraylength, 1) := kd_dk0 kd_o190 kd_ncL_law rfl
theorem dL_law_21 : decode cL_law 21 = .ok (.bipush 6, 2) := kd_dj1 kd_o16 (w := 6) kd_ncL_law rfl rfl
theorem dL_law_23 : decode cL_law 23 = .ok (.isub, 1) := kd_dk0 kd_o100 kd_ncL_law rfl
theorem dL_law_24 : decode cL_law 24 = .ok (.if_icmp .gt 1319, 3) := kd_dj2 kd_o163 (w := 1319) kd_ncL_law rfl rfl
theorem dL_law_27 : decode cL_law 27 = .ok (.aload_n 0, 1) := kd_dk0 kd_o42 kd_ncL_law rfl
theorem dL_law_28 : decode cL_law 28 = .ok (.iload_n 3, 1) := kd_dk0 kd_o29 kd_ncL_law rfl
theorem dL_law_29 : decode cL_law 29 = .ok (.iaload, 1) := kd_dk0 kd_o46 kd_ncL_law rfl
theorem dL_law_30 : decode cL_law 30 = .ok (.bipush 63, 2) := kd_dj1 kd_o16 (w := 63) kd_ncL_law rfl rfl
theorem dL_law_32 : decode cL_law 32 = .ok (.iand, 1) := kd_dk0 kd_o126 kd_ncL_law rfl
theorem dL_law_33 : decode cL_law 33 = .ok (.tableswitch 1304 0 40 #[179, 242, 265, 278, 291, 324, 357, 400, 433, 466, 515, 538, 551, 564, 587, 600, 633, 656, 669, 682, 715, 748, 761, 784, 817, 850, 863, 886, 919, 942, 955, 998, 1031, 1064, 1097, 1156, 1169, 1202, 1235, 1258, 1281], 179) := by decide +kernel
theorem dL_law_212 : decode cL_law 212 = .ok (.aload_n 1, 1) := kd_dk0 kd_o43 kd_ncL_law rfl
theorem dL_law_213 : decode cL_law 213 = .ok (.aload_n 0, 1) := kd_dk0 kd_o42 kd_ncL_law rfl
theorem dL_law_214 : decode cL_law 214 = .ok (.iload_n 3, 1) := kd_dk0 kd_o29 kd_ncL_law rfl
theorem dL_law_215 : decode cL_law 215 = .ok (.iconst 1, 1) := kd_dk0 kd_o4 kd_ncL_law rfl
theorem dL_law_216 : decode cL_law 216 = .ok (.iadd, 1) := kd_dk0 kd_o96 kd_ncL_law rfl
theorem dL_law_217 : decode cL_law 217 = .ok (.iaload, 1) := kd_dk0 kd_o46 kd_ncL_law rfl
theorem dL_law_218 : decode cL_law 218 = .ok (.aload_n 0, 1) := kd_dk0 kd_o42 kd_ncL_law rfl
theorem dL_law_219 : decode cL_law 219 = .ok (.iload_n 3, 1) := kd_dk0 kd_o29 kd_ncL_law rfl
theorem dL_law_220 : decode cL_law 220 = .ok (.iconst 2, 1) := kd_dk0 kd_o5 kd_ncL_law rfl
theorem dL_law_221 : decode cL_law 221 = .ok (.iadd, 1) := kd_dk0 kd_o96 kd_ncL_law rfl
theorem dL_law_222 : decode cL_law 222 = .ok (.iaload, 1) := kd_dk0 kd_o46 kd_ncL_law rfl
theorem dL_law_223 : decode cL_law 223 = .ok (.aload_n 0, 1) := kd_dk0 kd_o42 kd_ncL_law rfl
theorem dL_law_224 : decode cL_law 224 = .ok (.iload_n 3, 1) := kd_dk0 kd_o29 kd_ncL_law rfl
theorem dL_law_225 : decode cL_law 225 = .ok (.iconst 3, 1) := kd_dk0 kd_o6 kd_ncL_law rfl
theorem dL_law_226 : decode cL_law 226 = .ok (.iadd, 1) := kd_dk0 kd_o96 kd_ncL_law rfl
theorem dL_law_227 : decode cL_law 227 = .ok (.iaload, 1) := kd_dk0 kd_o46 kd_ncL_law rfl
theorem dL_law_228 : decode cL_law 228 = .ok (.aload_n 0, 1) := kd_dk0 kd_o42 kd_ncL_law rfl
theorem dL_law_229 : decode cL_law 229 = .ok (.iload_n 3, 1) := kd_dk0 kd_o29 kd_ncL_law rfl
theorem dL_law_230 : decode cL_law 230 = .ok (.iconst 4, 1) := kd_dk0 kd_o7 kd_ncL_law rfl
theorem dL_law_231 : decode cL_law 231 = .ok (.iadd, 1) := kd_dk0 kd_o96 kd_ncL_law rfl
theorem dL_law_232 : decode cL_law 232 = .ok (.iaload, 1) := kd_dk0 kd_o46 kd_ncL_law rfl
theorem dL_law_233 : decode cL_law 233 = .ok (.aload_n 0, 1) := kd_dk0 kd_o42 kd_ncL_law rfl
theorem dL_law_234 : decode cL_law 234 = .ok (.iload_n 3, 1) := kd_dk0 kd_o29 kd_ncL_law rfl
theorem dL_law_235 : decode cL_law 235 = .ok (.iconst 5, 1) := kd_dk0 kd_o8 kd_ncL_law rfl
theorem dL_law_236 : decode cL_law 236 = .ok (.iadd, 1) := kd_dk0 kd_o96 kd_ncL_law rfl
theorem dL_law_237 : decode cL_law 237 = .ok (.iaload, 1) := kd_dk0 kd_o46 kd_ncL_law rfl
theorem dL_law_238 : decode cL_law 238 = .ok (.invokevirtual 13, 3) := kd_dk2 kd_o182 kd_ncL_law rfl
theorem dL_law_241 : decode cL_law 241 = .ok (.pop, 1) := kd_dk0 kd_o87 kd_ncL_law rfl
theorem dL_law_242 : decode cL_law 242 = .ok (.aload_n 2, 1) := kd_dk0 kd_o44 kd_ncL_law rfl
theorem dL_law_243 : decode cL_law 243 = .ok (.aload_n 0, 1) := kd_dk0 kd_o42 kd_ncL_law rfl
theorem dL_law_244 : decode cL_law 244 = .ok (.iload_n 3, 1) := kd_dk0 kd_o29 kd_ncL_law rfl
theorem dL_law_245 : decode cL_law 245 = .ok (.iconst 1, 1) := kd_dk0 kd_o4 kd_ncL_law rfl
theorem dL_law_246 : decode cL_law 246 = .ok (.iadd, 1) := kd_dk0 kd_o96 kd_ncL_law rfl
theorem dL_law_247 : decode cL_law 247 = .ok (.iaload, 1) := kd_dk0 kd_o46 kd_ncL_law rfl
theorem dL_law_248 : decode cL_law 248 = .ok (.aload_n 0, 1) := kd_dk0 kd_o42 kd_ncL_law rfl
theorem dL_law_249 : decode cL_law 249 = .ok (.iload_n 3, 1) := kd_dk0 kd_o29 kd_ncL_law rfl
theorem dL_law_250 : decode cL_law 250 = .ok (.iconst 2, 1) := kd_dk0 kd_o5 kd_ncL_law rfl
theorem dL_law_251 : decode cL_law 251 = .ok (.iadd, 1) := kd_dk0 kd_o96 kd_ncL_law rfl
theorem dL_law_252 : decode cL_law 252 = .ok (.iaload, 1) := kd_dk0 kd_o46 kd_ncL_law rfl
theorem dL_law_253 : decode cL_law 253 = .ok (.aload_n 0, 1) := kd_dk0 kd_o42 kd_ncL_law rfl
theorem dL_law_254 : decode cL_law 254 = .ok (.iload_n 3, 1) := kd_dk0 kd_o29 kd_ncL_law rfl
theorem dL_law_255 : decode cL_law 255 = .ok (.iconst 3, 1) := kd_dk0 kd_o6 kd_ncL_law rfl
theorem dL_law_256 : decode cL_law 256 = .ok (.iadd, 1) := kd_dk0 kd_o96 kd_ncL_law rfl
theorem dL_law_257 : decode cL_law 257 = .ok (.iaload, 1) := kd_dk0 kd_o46 kd_ncL_law rfl
theorem dL_law_258 : decode cL_law 258 = .ok (.aload_n 0, 1) := kd_dk0 kd_o42 kd_ncL_law rfl
theorem dL_law_259 : decode cL_law 259 = .ok (.iload_n 3, 1) := kd_dk0 kd_o29 kd_ncL_law rfl
theorem dL_law_260 : decode cL_law 260 = .ok (.iconst 4, 1) := kd_dk0 kd_o7 kd_ncL_law rfl
theorem dL_law_261 : decode cL_law 261 = .ok (.iadd, 1) := kd_dk0 kd_o96 kd_ncL_law rfl
theorem dL_law_262 : decode cL_law 262 = .ok (.iaload, 1) := kd_dk0 kd_o46 kd_ncL_law rfl
theorem dL_law_263 : decode cL_law 263 = .ok (.aload_n 0, 1) := kd_dk0 kd_o42 kd_ncL_law rfl
theorem dL_law_264 : decode cL_law 264 = .ok (.iload_n 3, 1) := kd_dk0 kd_o29 kd_ncL_law rfl
theorem dL_law_265 : decode cL_law 265 = .ok (.iconst 5, 1) := kd_dk0 kd_o8 kd_ncL_law rfl
theorem dL_law_266 : decode cL_law 266 = .ok (.iadd, 1) := kd_dk0 kd_o96 kd_ncL_law rfl
theorem dL_law_267 : decode cL_law 267 = .ok (.iaload, 1) := kd_dk0 kd_o46 kd_ncL_law rfl
theorem dL_law_268 : decode cL_law 268 = .ok (.invokevirtual 17, 3) := kd_dk2 kd_o182 kd_ncL_law rfl
theorem dL_law_271 : decode cL_law 271 = .ok (.pop, 1) := kd_dk0 kd_o87 kd_ncL_law rfl
theorem dL_law_272 : decode cL_law 272 = .ok (.goto 1065, 3) := kd_dj2 kd_o167 (w := 1065) kd_ncL_law rfl rfl
theorem dL_law_275 : decode cL_law 275 = .ok (.aload_n 1, 1) := kd_dk0 kd_o43 kd_ncL_law rfl
theorem dL_law_276 : decode cL_law 276 = .ok (.aload_n 0, 1) := kd_dk0 kd_o42 kd_ncL_law rfl
theorem dL_law_277 : decode cL_law 277 = .ok (.iload_n 3, 1) := kd_dk0 kd_o29 kd_ncL_law rfl
theorem dL_law_278 : decode cL_law 278 = .ok (.iconst 1, 1) := kd_dk0 kd_o4 kd_ncL_law rfl
theorem dL_law_279 : decode cL_law 279 = .ok (.iadd, 1) := kd_dk0 kd_o96 kd_ncL_law rfl
theorem dL_law_280 : decode cL_law 280 = .ok (.iaload, 1) := kd_dk0 kd_o46 kd_ncL_law rfl
theorem dL_law_281 : decode cL_law 281 = .ok (.invokevirtual 18, 3) := kd_dk2 kd_o182 kd_ncL_law rfl
theorem dL_law_284 : decode cL_law 284 = .ok (.pop, 1) := kd_dk0 kd_o87 kd_ncL_law rfl
theorem dL_law_285 : decode cL_law 285 = .ok (.aload_n 2, 1) := kd_dk0 kd_o44 kd_ncL_law rfl
theorem dL_law_286 : decode cL_law 286 = .ok (.aload_n 0, 1) := kd_dk0 kd_o42 kd_ncL_law rfl
theorem dL_law_287 : decode cL_law 287 = .ok (.iload_n 3, 1) := kd_dk0 kd_o29 kd_ncL_law rfl
theorem dL_law_288 : decode cL_law 288 = .ok (.iconst 1, 1) := kd_dk0 kd_o4 kd_ncL_law rfl
theorem dL_law_289 : decode cL_law 289 = .ok (.iadd, 1) := kd_dk0 kd_o96 kd_ncL_law rfl
theorem dL_law_290 : decode cL_law 290 = .ok (.iaload, 1) := kd_dk0 kd_o46 kd_ncL_law rfl
theorem dL_law_291 : decode cL_law 291 = .ok (.invokevirtual 22, 3) := kd_dk2 kd_o182 kd_ncL_law rfl
theorem dL_law_294 : decode cL_law 294 = .ok (.pop, 1) := kd_dk0 kd_o87 kd_ncL_law rfl
theorem dL_law_295 : decode cL_law 295 = .ok (.goto 1042, 3) := kd_dj2 kd_o167 (w := 1042) kd_ncL_law rfl rfl
theorem dL_law_298 : decode cL_law 298 = .ok (.aload_n 1, 1) := kd_dk0 kd_o43 kd_ncL_law rfl
theorem dL_law_299 : decode cL_law 299 = .ok (.invokevirtual 23, 3) := kd_dk2 kd_o182 kd_ncL_law rfl
theorem dL_law_302 : decode cL_law 302 = .ok (.pop, 1) := kd_dk0 kd_o87 kd_ncL_law rfl
theorem dL_law_303 : decode cL_law 303 = .ok (.aload_n 2, 1) := kd_dk0 kd_o44 kd_ncL_law rfl
theorem dL_law_304 : decode cL_law 304 = .ok (.invokevirtual 27, 3) := kd_dk2 kd_o182 kd_ncL_law rfl
theorem dL_law_307 : decode cL_law 307 = .ok (.pop, 1) := kd_dk0 kd_o87 kd_ncL_law rfl
theorem dL_law_308 : decode cL_law 308 = .ok (.goto 1029, 3) := kd_dj2 kd_o167 (w := 1029) kd_ncL_law rfl rfl
theorem dL_law_311 : decode cL_law 311 = .ok (.aload_n 1, 1) := kd_dk0 kd_o43 kd_ncL_law rfl
theorem dL_law_312 : decode cL_law 312 = .ok (.invokevirtual 28, 3) := kd_dk2 kd_o182 kd_ncL_law rfl
theorem dL_law_315 : decode cL_law 315 = .ok (.pop, 1) := kd_dk0 kd_o87 kd_ncL_law rfl
theorem dL_law_316 : decode cL_law 316 = .ok (.aload_n 2, 1) := kd_dk0 kd_o44 kd_ncL_law rfl
theorem dL_law_317 : decode cL_law 317 = .ok (.invokevirtual 31, 3) := kd_dk2 kd_o182 kd_ncL_law rfl
theorem dL_law_320 : decode cL_law 320 = .ok (.pop, 1) := kd_dk0 kd_o87 kd_ncL_law rfl
theorem dL_law_321 : decode cL_law 321 = .ok (.goto 1016, 3) := kd_dj2 kd_o167 (w := 1016) kd_ncL_law rfl rfl
theorem dL_law_324 : decode cL_law 324 = .ok (.aload_n 1, 1) := kd_dk0 kd_o43 kd_ncL_law rfl
theorem dL_law_325 : decode cL_law 325 = .ok (.aload_n 0, 1) := kd_dk0 kd_o42 kd_ncL_law rfl
theorem dL_law_326 : decode cL_law 326 = .ok (.iload_n 3, 1) := kd_dk0 kd_o29 kd_ncL_law rfl
theorem dL_law_327 : decode cL_law 327 = .ok (.iconst 1, 1) := kd_dk0 kd_o4 kd_ncL_law rfl
theorem dL_law_328 : decode cL_law 328 = .ok (.iadd, 1) := kd_dk0 kd_o96 kd_ncL_law rfl
theorem dL_law_329 : decode cL_law 329 = .ok (.iaload, 1) := kd_dk0 kd_o46 kd_ncL_law rfl
theorem dL_law_330 : decode cL_law 330 = .ok (.aload_n 0, 1) := kd_dk0 kd_o42 kd_ncL_law rfl
theorem dL_law_331 : decode cL_law 331 = .ok (.iload_n 3, 1) := kd_dk0 kd_o29 kd_ncL_law rfl
theorem dL_law_332 : decode cL_law 332 = .ok (.iconst 2, 1) := kd_dk0 kd_o5 kd_ncL_law rfl
theorem dL_law_333 : decode cL_law 333 = .ok (.iadd, 1) := kd_dk0 kd_o96 kd_ncL_law rfl
theorem dL_law_334 : decode cL_law 334 = .ok (.iaload, 1) := kd_dk0 kd_o46 kd_ncL_law rfl
theorem dL_law_335 : decode cL_law 335 = .ok (.invokevirtual 32, 3) := kd_dk2 kd_o182 kd_ncL_law rfl
theorem dL_law_338 : decode cL_law 338 = .ok (.pop, 1) := kd_dk0 kd_o87 kd_ncL_law rfl
theorem dL_law_339 : decode cL_law 339 = .ok (.aload_n 2, 1) := kd_dk0 kd_o44 kd_ncL_law rfl
theorem dL_law_340 : decode cL_law 340 = .ok (.aload_n 0, 1) := kd_dk0 kd_o42 kd_ncL_law rfl
theorem dL_law_341 : decode cL_law 341 = .ok (.iload_n 3, 1) := kd_dk0 kd_o29 kd_ncL_law rfl
theorem dL_law_342 : decode cL_law 342 = .ok (.iconst 1, 1) := kd_dk0 kd_o4 kd_ncL_law rfl
theorem dL_law_343 : decode cL_law 343 = .ok (.iadd, 1) := kd_dk0 kd_o96 kd_ncL_law rfl
theorem dL_law_344 : decode cL_law 344 = .ok (.iaload, 1) := kd_dk0 kd_o46 kd_ncL_law rfl
theorem dL_law_345 : decode cL_law 345 = .ok (.aload_n 0, 1) := kd_dk0 kd_o42 kd_ncL_law rfl
theorem dL_law_346 : decode cL_law 346 = .ok (.iload_n 3, 1) := kd_dk0 kd_o29 kd_ncL_law rfl
theorem dL_law_347 : decode cL_law 347 = .ok (.iconst 2, 1) := kd_dk0 kd_o5 kd_ncL_law rfl
theorem dL_law_348 : decode cL_law 348 = .ok (.iadd, 1) := kd_dk0 kd_o96 kd_ncL_law rfl
theorem dL_law_349 : decode cL_law 349 = .ok (.iaload, 1) := kd_dk0 kd_o46 kd_ncL_law rfl
theorem dL_law_350 : decode cL_law 350 = .ok (.invokevirtual 36, 3) := kd_dk2 kd_o182 kd_ncL_law rfl
theorem dL_law_353 : decode cL_law 353 = .ok (.pop, 1) := kd_dk0 kd_o87 kd_ncL_law rfl
theorem dL_law_354 : decode cL_law 354 = .ok (.goto 983, 3) := kd_dj2 kd_o167 (w := 983) kd_ncL_law rfl rfl
theorem dL_law_357 : decode cL_law 357 = .ok (.aload_n 1, 1) := kd_dk0 kd_o43 kd_ncL_law rfl
theorem dL_law_358 : decode cL_law 358 = .ok (.aload_n 0, 1) := kd_dk0 kd_o42 kd_ncL_law rfl
theorem dL_law_359 : decode cL_law 359 = .ok (.iload_n 3, 1) := kd_dk0 kd_o29 kd_ncL_law rfl
theorem dL_law_360 : decode cL_law 360 = .ok (.iconst 1, 1) := kd_dk0 kd_o4 kd_ncL_law rfl
theorem dL_law_361 : decode cL_law 361 = .ok (.iadd, 1) := kd_dk0 kd_o96 kd_ncL_law rfl
theorem dL_law_362 : decode cL_law 362 = .ok (.iaload, 1) := kd_dk0 kd_o46 kd_ncL_law rfl
theorem dL_law_363 : decode cL_law 363 = .ok (.aload_n 0, 1) := kd_dk0 kd_o42 kd_ncL_law rfl
theorem dL_law_364 : decode cL_law 364 = .ok (.iload_n 3, 1) := kd_dk0 kd_o29 kd_ncL_law rfl
theorem dL_law_365 : decode cL_law 365 = .ok (.iconst 2, 1) := kd_dk0 kd_o5 kd_ncL_law rfl
theorem dL_law_366 : decode cL_law 366 = .ok (.iadd, 1) := kd_dk0 kd_o96 kd_ncL_law rfl
theorem dL_law_367 : decode cL_law 367 = .ok (.iaload, 1) := kd_dk0 kd_o46 kd_ncL_law rfl
theorem dL_law_368 : decode cL_law 368 = .ok (.invokevirtual 37, 3) := kd_dk2 kd_o182 kd_ncL_law rfl
theorem dL_law_371 : decode cL_law 371 = .ok (.pop, 1) := kd_dk0 kd_o87 kd_ncL_law rfl
end zzm60
section zzm61
theorem dL_law_372 : decode cL_law 372 = .ok (.aload_n 2, 1) := kd_dk0 kd_o44 kd_ncL_law rfl
theorem dL_law_373 : decode cL_law 373 = .ok (.aload_n 0, 1) := kd_dk0 kd_o42 kd_ncL_law rfl
theorem dL_law_374 : decode cL_law 374 = .ok (.iload_n 3, 1) := kd_dk0 kd_o29 kd_ncL_law rfl
theorem dL_law_375 : decode cL_law 375 = .ok (.iconst 1, 1) := kd_dk0 kd_o4 kd_ncL_law rfl
theorem dL_law_376 : decode cL_law 376 = .ok (.iadd, 1) := kd_dk0 kd_o96 kd_ncL_law rfl
theorem dL_law_377 : decode cL_law 377 = .ok (.iaload, 1) := kd_dk0 kd_o46 kd_ncL_law rfl
theorem dL_law_378 : decode cL_law 378 = .ok (.aload_n 0, 1) := kd_dk0 kd_o42 kd_ncL_law rfl
theorem dL_law_379 : decode cL_law 379 = .ok (.iload_n 3, 1) := kd_dk0 kd_o29 kd_ncL_law rfl
theorem dL_law_380 : decode cL_law 380 = .ok (.iconst 2, 1) := kd_dk0 kd_o5 kd_ncL_law rfl
theorem dL_law_381 : decode cL_law 381 = .ok (.iadd, 1) := kd_dk0 kd_o96 kd_ncL_law rfl
theorem dL_law_382 : decode cL_law 382 = .ok (.iaload, 1) := kd_dk0 kd_o46 kd_ncL_law rfl
theorem dL_law_383 : decode cL_law 383 = .ok (.invokevirtual 40, 3) := kd_dk2 kd_o182 kd_ncL_law rfl
theorem dL_law_386 : decode cL_law 386 = .ok (.pop, 1) := kd_dk0 kd_o87 kd_ncL_law rfl
theorem dL_law_387 : decode cL_law 387 = .ok (.goto 950, 3) := kd_dj2 kd_o167 (w := 950) kd_ncL_law rfl rfl
theorem dL_law_390 : decode cL_law 390 = .ok (.aload_n 1, 1) := kd_dk0 kd_o43 kd_ncL_law rfl
theorem dL_law_391 : decode cL_law 391 = .ok (.aload_n 0, 1) := kd_dk0 kd_o42 kd_ncL_law rfl
theorem dL_law_392 : decode cL_law 392 = .ok (.iload_n 3, 1) := kd_dk0 kd_o29 kd_ncL_law rfl
theorem dL_law_393 : decode cL_law 393 = .ok (.iconst 1, 1) := kd_dk0 kd_o4 kd_ncL_law rfl
theorem dL_law_394 : decode cL_law 394 = .ok (.iadd, 1) := kd_dk0 kd_o96 kd_ncL_law rfl
theorem dL_law_395 : decode cL_law 395 = .ok (.iaload, 1) := kd_dk0 kd_o46 kd_ncL_law rfl
theorem dL_law_396 : decode cL_law 396 = .ok (.aload_n 0, 1) := kd_dk0 kd_o42 kd_ncL_law rfl
theorem dL_law_397 : decode cL_law 397 = .ok (.iload_n 3, 1) := kd_dk0 kd_o29 kd_ncL_law rfl
theorem dL_law_398 : decode cL_law 398 = .ok (.iconst 2, 1) := kd_dk0 kd_o5 kd_ncL_law rfl
theorem dL_law_399 : decode cL_law 399 = .ok (.iadd, 1) := kd_dk0 kd_o96 kd_ncL_law rfl
theorem dL_law_400 : decode cL_law 400 = .ok (.iaload, 1) := kd_dk0 kd_o46 kd_ncL_law rfl
theorem dL_law_401 : decode cL_law 401 = .ok (.aload_n 0, 1) := kd_dk0 kd_o42 kd_ncL_law rfl
theorem dL_law_402 : decode cL_law 402 = .ok (.iload_n 3, 1) := kd_dk0 kd_o29 kd_ncL_law rfl
theorem dL_law_403 : decode cL_law 403 = .ok (.iconst 3, 1) := kd_dk0 kd_o6 kd_ncL_law rfl
theorem dL_law_404 : decode cL_law 404 = .ok (.iadd, 1) := kd_dk0 kd_o96 kd_ncL_law rfl
theorem dL_law_405 : decode cL_law 405 = .ok (.iaload, 1) := kd_dk0 kd_o46 kd_ncL_law rfl
theorem dL_law_406 : decode cL_law 406 = .ok (.invokevirtual 41, 3) := kd_dk2 kd_o182 kd_ncL_law rfl
theorem dL_law_409 : decode cL_law 409 = .ok (.pop, 1) := kd_dk0 kd_o87 kd_ncL_law rfl
theorem dL_law_410 : decode cL_law 410 = .ok (.aload_n 2, 1) := kd_dk0 kd_o44 kd_ncL_law rfl
theorem dL_law_411 : decode cL_law 411 = .ok (.aload_n 0, 1) := kd_dk0 kd_o42 kd_ncL_law rfl
theorem dL_law_412 : decode cL_law 412 = .ok (.iload_n 3, 1) := kd_dk0 kd_o29 kd_ncL_law rfl
theorem dL_law_413 : decode cL_law 413 = .ok (.iconst 1, 1) := kd_dk0 kd_o4 kd_ncL_law rfl
theorem dL_law_414 : decode cL_law 414 = .ok (.iadd, 1) := kd_dk0 kd_o96 kd_ncL_law rfl
theorem dL_law_415 : decode cL_law 415 = .ok (.iaload, 1) := kd_dk0 kd_o46 kd_ncL_law rfl
theorem dL_law_416 : decode cL_law 416 = .ok (.aload_n 0, 1) := kd_dk0 kd_o42 kd_ncL_law rfl
theorem dL_law_417 : decode cL_law 417 = .ok (.iload_n 3, 1) := kd_dk0 kd_o29 kd_ncL_law rfl
theorem dL_law_418 : decode cL_law 418 = .ok (.iconst 2, 1) := kd_dk0 kd_o5 kd_ncL_law rfl
theorem dL_law_419 : decode cL_law 419 = .ok (.iadd, 1) := kd_dk0 kd_o96 kd_ncL_law rfl
theorem dL_law_420 : decode cL_law 420 = .ok (.iaload, 1) := kd_dk0 kd_o46 kd_ncL_law rfl
theorem dL_law_421 : decode cL_law 421 = .ok (.aload_n 0, 1) := kd_dk0 kd_o42 kd_ncL_law rfl
theorem dL_law_422 : decode cL_law 422 = .ok (.iload_n 3, 1) := kd_dk0 kd_o29 kd_ncL_law rfl
theorem dL_law_423 : decode cL_law 423 = .ok (.iconst 3, 1) := kd_dk0 kd_o6 kd_ncL_law rfl
theorem dL_law_424 : decode cL_law 424 = .ok (.iadd, 1) := kd_dk0 kd_o96 kd_ncL_law rfl
theorem dL_law_425 : decode cL_law 425 = .ok (.iaload, 1) := kd_dk0 kd_o46 kd_ncL_law rfl
theorem dL_law_426 : decode cL_law 426 = .ok (.invokevirtual 45, 3) := kd_dk2 kd_o182 kd_ncL_law rfl
theorem dL_law_429 : decode cL_law 429 = .ok (.pop, 1) := kd_dk0 kd_o87 kd_ncL_law rfl
theorem dL_law_430 : decode cL_law 430 = .ok (.goto 907, 3) := kd_dj2 kd_o167 (w := 907) kd_ncL_law rfl rfl
theorem dL_law_433 : decode cL_law 433 = .ok (.aload_n 1, 1) := kd_dk0 kd_o43 kd_ncL_law rfl
theorem dL_law_434 : decode cL_law 434 = .ok (.aload_n 0, 1) := kd_dk0 kd_o42 kd_ncL_law rfl
theorem dL_law_435 : decode cL_law 435 = .ok (.iload_n 3, 1) := kd_dk0 kd_o29 kd_ncL_law rfl
theorem dL_law_436 : decode cL_law 436 = .ok (.iconst 1, 1) := kd_dk0 kd_o4 kd_ncL_law rfl
theorem dL_law_437 : decode cL_law 437 = .ok (.iadd, 1) := kd_dk0 kd_o96 kd_ncL_law rfl
theorem dL_law_438 : decode cL_law 438 = .ok (.iaload, 1) := kd_dk0 kd_o46 kd_ncL_law rfl
theorem dL_law_439 : decode cL_law 439 = .ok (.aload_n 0, 1) := kd_dk0 kd_o42 kd_ncL_law rfl
theorem dL_law_440 : decode cL_law 440 = .ok (.iload_n 3, 1) := kd_dk0 kd_o29 kd_ncL_law rfl
theorem dL_law_441 : decode cL_law 441 = .ok (.iconst 2, 1) := kd_dk0 kd_o5 kd_ncL_law rfl
theorem dL_law_442 : decode cL_law 442 = .ok (.iadd, 1) := kd_dk0 kd_o96 kd_ncL_law rfl
theorem dL_law_443 : decode cL_law 443 = .ok (.iaload, 1) := kd_dk0 kd_o46 kd_ncL_law rfl
theorem dL_law_444 : decode cL_law 444 = .ok (.invokevirtual 46, 3) := kd_dk2 kd_o182 kd_ncL_law rfl
theorem dL_law_447 : decode cL_law 447 = .ok (.pop, 1) := kd_dk0 kd_o87 kd_ncL_law rfl
theorem dL_law_448 : decode cL_law 448 = .ok (.aload_n 2, 1) := kd_dk0 kd_o44 kd_ncL_law rfl
theorem dL_law_449 : decode cL_law 449 = .ok (.aload_n 0, 1) := kd_dk0 kd_o42 kd_ncL_law rfl
theorem dL_law_450 : decode cL_law 450 = .ok (.iload_n 3, 1) := kd_dk0 kd_o29 kd_ncL_law rfl
theorem dL_law_451 : decode cL_law 451 = .ok (.iconst 1, 1) := kd_dk0 kd_o4 kd_ncL_law rfl
theorem dL_law_452 : decode cL_law 452 = .ok (.iadd, 1) := kd_dk0 kd_o96 kd_ncL_law rfl
theorem dL_law_453 : decode cL_law 453 = .ok (.iaload, 1) := kd_dk0 kd_o46 kd_ncL_law rfl
theorem dL_law_454 : decode cL_law 454 = .ok (.aload_n 0, 1) := kd_dk0 kd_o42 kd_ncL_law rfl
theorem dL_law_455 : decode cL_law 455 = .ok (.iload_n 3, 1) := kd_dk0 kd_o29 kd_ncL_law rfl
theorem dL_law_456 : decode cL_law 456 = .ok (.iconst 2, 1) := kd_dk0 kd_o5 kd_ncL_law rfl
theorem dL_law_457 : decode cL_law 457 = .ok (.iadd, 1) := kd_dk0 kd_o96 kd_ncL_law rfl
theorem dL_law_458 : decode cL_law 458 = .ok (.iaload, 1) := kd_dk0 kd_o46 kd_ncL_law rfl
theorem dL_law_459 : decode cL_law 459 = .ok (.invokevirtual 50, 3) := kd_dk2 kd_o182 kd_ncL_law rfl
theorem dL_law_462 : decode cL_law 462 = .ok (.pop, 1) := kd_dk0 kd_o87 kd_ncL_law rfl
theorem dL_law_463 : decode cL_law 463 = .ok (.goto 874, 3) := kd_dj2 kd_o167 (w := 874) kd_ncL_law rfl rfl
theorem dL_law_466 : decode cL_law 466 = .ok (.aload_n 1, 1) := kd_dk0 kd_o43 kd_ncL_law rfl
theorem dL_law_467 : decode cL_law 467 = .ok (.aload_n 0, 1) := kd_dk0 kd_o42 kd_ncL_law rfl
theorem dL_law_468 : decode cL_law 468 = .ok (.iload_n 3, 1) := kd_dk0 kd_o29 kd_ncL_law rfl
theorem dL_law_469 : decode cL_law 469 = .ok (.iconst 1, 1) := kd_dk0 kd_o4 kd_ncL_law rfl
theorem dL_law_470 : decode cL_law 470 = .ok (.iadd, 1) := kd_dk0 kd_o96 kd_ncL_law rfl
theorem dL_law_471 : decode cL_law 471 = .ok (.iaload, 1) := kd_dk0 kd_o46 kd_ncL_law rfl
theorem dL_law_472 : decode cL_law 472 = .ok (.aload_n 0, 1) := kd_dk0 kd_o42 kd_ncL_law rfl
theorem dL_law_473 : decode cL_law 473 = .ok (.iload_n 3, 1) := kd_dk0 kd_o29 kd_ncL_law rfl
theorem dL_law_474 : decode cL_law 474 = .ok (.iconst 2, 1) := kd_dk0 kd_o5 kd_ncL_law rfl
theorem dL_law_475 : decode cL_law 475 = .ok (.iadd, 1) := kd_dk0 kd_o96 kd_ncL_law rfl
theorem dL_law_476 : decode cL_law 476 = .ok (.iaload, 1) := kd_dk0 kd_o46 kd_ncL_law rfl
theorem dL_law_477 : decode cL_law 477 = .ok (.invokevirtual 51, 3) := kd_dk2 kd_o182 kd_ncL_law rfl
theorem dL_law_480 : decode cL_law 480 = .ok (.pop, 1) := kd_dk0 kd_o87 kd_ncL_law rfl
theorem dL_law_481 : decode cL_law 481 = .ok (.aload_n 2, 1) := kd_dk0 kd_o44 kd_ncL_law rfl
theorem dL_law_482 : decode cL_law 482 = .ok (.aload_n 0, 1) := kd_dk0 kd_o42 kd_ncL_law rfl
theorem dL_law_483 : decode cL_law 483 = .ok (.iload_n 3, 1) := kd_dk0 kd_o29 kd_ncL_law rfl
theorem dL_law_484 : decode cL_law 484 = .ok (.iconst 1, 1) := kd_dk0 kd_o4 kd_ncL_law rfl
theorem dL_law_485 : decode cL_law 485 = .ok (.iadd, 1) := kd_dk0 kd_o96 kd_ncL_law rfl
theorem dL_law_486 : decode cL_law 486 = .ok (.iaload, 1) := kd_dk0 kd_o46 kd_ncL_law rfl
theorem dL_law_487 : decode cL_law 487 = .ok (.aload_n 0, 1) := kd_dk0 kd_o42 kd_ncL_law rfl
theorem dL_law_488 : decode cL_law 488 = .ok (.iload_n 3, 1) := kd_dk0 kd_o29 kd_ncL_law rfl
theorem dL_law_489 : decode cL_law 489 = .ok (.iconst 2, 1) := kd_dk0 kd_o5 kd_ncL_law rfl
theorem dL_law_490 : decode cL_law 490 = .ok (.iadd, 1) := kd_dk0 kd_o96 kd_ncL_law rfl
theorem dL_law_491 : decode cL_law 491 = .ok (.iaload, 1) := kd_dk0 kd_o46 kd_ncL_law rfl
theorem dL_law_492 : decode cL_law 492 = .ok (.invokevirtual 54, 3) := kd_dk2 kd_o182 kd_ncL_law rfl
theorem dL_law_495 : decode cL_law 495 = .ok (.pop, 1) := kd_dk0 kd_o87 kd_ncL_law rfl
theorem dL_law_496 : decode cL_law 496 = .ok (.goto 841, 3) := kd_dj2 kd_o167 (w := 841) kd_ncL_law rfl rfl
theorem dL_law_499 : decode cL_law 499 = .ok (.aload_n 1, 1) := kd_dk0 kd_o43 kd_ncL_law rfl
theorem dL_law_500 : decode cL_law 500 = .ok (.aload_n 0, 1) := kd_dk0 kd_o42 kd_ncL_law rfl
theorem dL_law_501 : decode cL_law 501 = .ok (.iload_n 3, 1) := kd_dk0 kd_o29 kd_ncL_law rfl
theorem dL_law_502 : decode cL_law 502 = .ok (.iconst 1, 1) := kd_dk0 kd_o4 kd_ncL_law rfl
theorem dL_law_503 : decode cL_law 503 = .ok (.iadd, 1) := kd_dk0 kd_o96 kd_ncL_law rfl
theorem dL_law_504 : decode cL_law 504 = .ok (.iaload, 1) := kd_dk0 kd_o46 kd_ncL_law rfl
theorem dL_law_505 : decode cL_law 505 = .ok (.aload_n 0, 1) := kd_dk0 kd_o42 kd_ncL_law rfl
theorem dL_law_506 : decode cL_law 506 = .ok (.iload_n 3, 1) := kd_dk0 kd_o29 kd_ncL_law rfl
theorem dL_law_507 : decode cL_law 507 = .ok (.iconst 2, 1) := kd_dk0 kd_o5 kd_ncL_law rfl
theorem dL_law_508 : decode cL_law 508 = .ok (.iadd, 1) := kd_dk0 kd_o96 kd_ncL_law rfl
theorem dL_law_509 : decode cL_law 509 = .ok (.iaload, 1) := kd_dk0 kd_o46 kd_ncL_law rfl
theorem dL_law_510 : decode cL_law 510 = .ok (.ifCond .eq 7, 3) := kd_dj2 kd_o153 (w := 7) kd_ncL_law rfl rfl
theorem dL_law_513 : decode cL_law 513 = .ok (.iconst 1, 1) := kd_dk0 kd_o4 kd_ncL_law rfl
theorem dL_law_514 : decode cL_law 514 = .ok (.goto 4, 3) := kd_dj2 kd_o167 (w := 4) kd_ncL_law rfl rfl
theorem dL_law_517 : decode cL_law 517 = .ok (.iconst 0, 1) := kd_dk0 kd_o3 kd_ncL_law rfl
theorem dL_law_518 : decode cL_law 518 = .ok (.invokevirtual 55, 3) := kd_dk2 kd_o182 kd_ncL_law rfl
theorem dL_law_521 : decode cL_law 521 = .ok (.pop, 1) := kd_dk0 kd_o87 kd_ncL_law rfl
theorem dL_law_522 : decode cL_law 522 = .ok (.aload_n 2, 1) := kd_dk0 kd_o44 kd_ncL_law rfl
theorem dL_law_523 : decode cL_law 523 = .ok (.aload_n 0, 1) := kd_dk0 kd_o42 kd_ncL_law rfl
theorem dL_law_524 : decode cL_law 524 = .ok (.iload_n 3, 1) := kd_dk0 kd_o29 kd_ncL_law rfl
theorem dL_law_525 : decode cL_law 525 = .ok (.iconst 1, 1) := kd_dk0 kd_o4 kd_ncL_law rfl
theorem dL_law_526 : decode cL_law 526 = .ok (.iadd, 1) := kd_dk0 kd_o96 kd_ncL_law rfl
theorem dL_law_527 : decode cL_law 527 = .ok (.iaload, 1) := kd_dk0 kd_o46 kd_ncL_law rfl
theorem dL_law_528 : decode cL_law 528 = .ok (.aload_n 0, 1) := kd_dk0 kd_o42 kd_ncL_law rfl
theorem dL_law_529 : decode cL_law 529 = .ok (.iload_n 3, 1) := kd_dk0 kd_o29 kd_ncL_law rfl
theorem dL_law_530 : decode cL_law 530 = .ok (.iconst 2, 1) := kd_dk0 kd_o5 kd_ncL_law rfl
theorem dL_law_531 : decode cL_law 531 = .ok (.iadd, 1) := kd_dk0 kd_o96 kd_ncL_law rfl
theorem dL_law_532 : decode cL_law 532 = .ok (.iaload, 1) := kd_dk0 kd_o46 kd_ncL_law rfl
theorem dL_law_533 : decode cL_law 533 = .ok (.ifCond .eq 7, 3) := kd_dj2 kd_o153 (w := 7) kd_ncL_law rfl rfl
theorem dL_law_536 : decode cL_law 536 = .ok (.iconst 1, 1) := kd_dk0 kd_o4 kd_ncL_law rfl
theorem dL_law_537 : decode cL_law 537 = .ok (.goto 4, 3) := kd_dj2 kd_o167 (w := 4) kd_ncL_law rfl rfl
theorem dL_law_540 : decode cL_law 540 = .ok (.iconst 0, 1) := kd_dk0 kd_o3 kd_ncL_law rfl
theorem dL_law_541 : decode cL_law 541 = .ok (.invokevirtual 59, 3) := kd_dk2 kd_o182 kd_ncL_law rfl
theorem dL_law_544 : decode cL_law 544 = .ok (.pop, 1) := kd_dk0 kd_o87 kd_ncL_law rfl
theorem dL_law_545 : decode cL_law 545 = .ok (.goto 792, 3) := kd_dj2 kd_o167 (w := 792) kd_ncL_law rfl rfl
theorem dL_law_548 : decode cL_law 548 = .ok (.aload_n 1, 1) := kd_dk0 kd_o43 kd_ncL_law rfl
theorem dL_law_549 : decode cL_law 549 = .ok (.aload_n 0, 1) := kd_dk0 kd_o42 kd_ncL_law rfl
theorem dL_law_550 : decode cL_law 550 = .ok (.iload_n 3, 1) := kd_dk0 kd_o29 kd_ncL_law rfl
theorem dL_law_551 : decode cL_law 551 = .ok (.iconst 1, 1) := kd_dk0 kd_o4 kd_ncL_law rfl
theorem dL_law_552 : decode cL_law 552 = .ok (.iadd, 1) := kd_dk0 kd_o96 kd_ncL_law rfl
theorem dL_law_553 : decode cL_law 553 = .ok (.iaload, 1) := kd_dk0 kd_o46 kd_ncL_law rfl
theorem dL_law_554 : decode cL_law 554 = .ok (.invokevirtual 60, 3) := kd_dk2 kd_o182 kd_ncL_law rfl
theorem dL_law_557 : decode cL_law 557 = .ok (.pop, 1) := kd_dk0 kd_o87 kd_ncL_law rfl
theorem dL_law_558 : decode cL_law 558 = .ok (.aload_n 2, 1) := kd_dk0 kd_o44 kd_ncL_law rfl
theorem dL_law_559 : decode cL_law 559 = .ok (.aload_n 0, 1) := kd_dk0 kd_o42 kd_ncL_law rfl
end zzm61
section zzm62
theorem dL_law_560 : decode cL_law 560 = .ok (.iload_n 3, 1) := kd_dk0 kd_o29 kd_ncL_law rfl
theorem dL_law_561 : decode cL_law 561 = .ok (.iconst 1, 1) := kd_dk0 kd_o4 kd_ncL_law rfl
theorem dL_law_562 : decode cL_law 562 = .ok (.iadd, 1) := kd_dk0 kd_o96 kd_ncL_law rfl
theorem dL_law_563 : decode cL_law 563 = .ok (.iaload, 1) := kd_dk0 kd_o46 kd_ncL_law rfl
theorem dL_law_564 : decode cL_law 564 = .ok (.invokevirtual 63, 3) := kd_dk2 kd_o182 kd_ncL_law rfl
theorem dL_law_567 : decode cL_law 567 = .ok (.pop, 1) := kd_dk0 kd_o87 kd_ncL_law rfl
theorem dL_law_568 : decode cL_law 568 = .ok (.goto 769, 3) := kd_dj2 kd_o167 (w := 769) kd_ncL_law rfl rfl
theorem dL_law_571 : decode cL_law 571 = .ok (.aload_n 1, 1) := kd_dk0 kd_o43 kd_ncL_law rfl
theorem dL_law_572 : decode cL_law 572 = .ok (.invokevirtual 64, 3) := kd_dk2 kd_o182 kd_ncL_law rfl
theorem dL_law_575 : decode cL_law 575 = .ok (.pop, 1) := kd_dk0 kd_o87 kd_ncL_law rfl
theorem dL_law_576 : decode cL_law 576 = .ok (.aload_n 2, 1) := kd_dk0 kd_o44 kd_ncL_law rfl
theorem dL_law_577 : decode cL_law 577 = .ok (.invokevirtual 68, 3) := kd_dk2 kd_o182 kd_ncL_law rfl
theorem dL_law_580 : decode cL_law 580 = .ok (.pop, 1) := kd_dk0 kd_o87 kd_ncL_law rfl
theorem dL_law_581 : decode cL_law 581 = .ok (.goto 756, 3) := kd_dj2 kd_o167 (w := 756) kd_ncL_law rfl rfl
theorem dL_law_584 : decode cL_law 584 = .ok (.aload_n 1, 1) := kd_dk0 kd_o43 kd_ncL_law rfl
theorem dL_law_585 : decode cL_law 585 = .ok (.invokevirtual 69, 3) := kd_dk2 kd_o182 kd_ncL_law rfl
theorem dL_law_588 : decode cL_law 588 = .ok (.pop, 1) := kd_dk0 kd_o87 kd_ncL_law rfl
theorem dL_law_589 : decode cL_law 589 = .ok (.aload_n 2, 1) := kd_dk0 kd_o44 kd_ncL_law rfl
theorem dL_law_590 : decode cL_law 590 = .ok (.invokevirtual 72, 3) := kd_dk2 kd_o182 kd_ncL_law rfl
theorem dL_law_593 : decode cL_law 593 = .ok (.pop, 1) := kd_dk0 kd_o87 kd_ncL_law rfl
theorem dL_law_594 : decode cL_law 594 = .ok (.goto 743, 3) := kd_dj2 kd_o167 (w := 743) kd_ncL_law rfl rfl
theorem dL_law_597 : decode cL_law 597 = .ok (.aload_n 1, 1) := kd_dk0 kd_o43 kd_ncL_law rfl
theorem dL_law_598 : decode cL_law 598 = .ok (.aload_n 0, 1) := kd_dk0 kd_o42 kd_ncL_law rfl
theorem dL_law_599 : decode cL_law 599 = .ok (.iload_n 3, 1) := kd_dk0 kd_o29 kd_ncL_law rfl
theorem dL_law_600 : decode cL_law 600 = .ok (.iconst 1, 1) := kd_dk0 kd_o4 kd_ncL_law rfl
theorem dL_law_601 : decode cL_law 601 = .ok (.iadd, 1) := kd_dk0 kd_o96 kd_ncL_law rfl
theorem dL_law_602 : decode cL_law 602 = .ok (.iaload, 1) := kd_dk0 kd_o46 kd_ncL_law rfl
theorem dL_law_603 : decode cL_law 603 = .ok (.invokevirtual 73, 3) := kd_dk2 kd_o182 kd_ncL_law rfl
theorem dL_law_606 : decode cL_law 606 = .ok (.aload_n 2, 1) := kd_dk0 kd_o44 kd_ncL_law rfl
theorem dL_law_607 : decode cL_law 607 = .ok (.aload_n 0, 1) := kd_dk0 kd_o42 kd_ncL_law rfl
theorem dL_law_608 : decode cL_law 608 = .ok (.iload_n 3, 1) := kd_dk0 kd_o29 kd_ncL_law rfl
theorem dL_law_609 : decode cL_law 609 = .ok (.iconst 1, 1) := kd_dk0 kd_o4 kd_ncL_law rfl
theorem dL_law_610 : decode cL_law 610 = .ok (.iadd, 1) := kd_dk0 kd_o96 kd_ncL_law rfl
theorem dL_law_611 : decode cL_law 611 = .ok (.iaload, 1) := kd_dk0 kd_o46 kd_ncL_law rfl
theorem dL_law_612 : decode cL_law 612 = .ok (.invokevirtual 76, 3) := kd_dk2 kd_o182 kd_ncL_law rfl
theorem dL_law_615 : decode cL_law 615 = .ok (.if_icmp .eq 722, 3) := kd_dj2 kd_o159 (w := 722) kd_ncL_law rfl rfl
theorem dL_law_618 : decode cL_law 618 = .ok (.iconst 0, 1) := kd_dk0 kd_o3 kd_ncL_law rfl
theorem dL_law_619 : decode cL_law 619 = .ok (.ireturn, 1) := kd_dk0 kd_o172 kd_ncL_law rfl
theorem dL_law_620 : decode cL_law 620 = .ok (.aload_n 1, 1) := kd_dk0 kd_o43 kd_ncL_law rfl
theorem dL_law_621 : decode cL_law 621 = .ok (.invokevirtual 77, 3) := kd_dk2 kd_o182 kd_ncL_law rfl
theorem dL_law_624 : decode cL_law 624 = .ok (.pop, 1) := kd_dk0 kd_o87 kd_ncL_law rfl
theorem dL_law_625 : decode cL_law 625 = .ok (.aload_n 2, 1) := kd_dk0 kd_o44 kd_ncL_law rfl
theorem dL_law_626 : decode cL_law 626 = .ok (.invokevirtual 80, 3) := kd_dk2 kd_o182 kd_ncL_law rfl
theorem dL_law_629 : decode cL_law 629 = .ok (.pop, 1) := kd_dk0 kd_o87 kd_ncL_law rfl
theorem dL_law_630 : decode cL_law 630 = .ok (.goto 707, 3) := kd_dj2 kd_o167 (w := 707) kd_ncL_law rfl rfl
theorem dL_law_633 : decode cL_law 633 = .ok (.aload_n 1, 1) := kd_dk0 kd_o43 kd_ncL_law rfl
theorem dL_law_634 : decode cL_law 634 = .ok (.aload_n 0, 1) := kd_dk0 kd_o42 kd_ncL_law rfl
theorem dL_law_635 : decode cL_law 635 = .ok (.iload_n 3, 1) := kd_dk0 kd_o29 kd_ncL_law rfl
theorem dL_law_636 : decode cL_law 636 = .ok (.iconst 1, 1) := kd_dk0 kd_o4 kd_ncL_law rfl
theorem dL_law_637 : decode cL_law 637 = .ok (.iadd, 1) := kd_dk0 kd_o96 kd_ncL_law rfl
theorem dL_law_638 : decode cL_law 638 = .ok (.iaload, 1) := kd_dk0 kd_o46 kd_ncL_law rfl
theorem dL_law_639 : decode cL_law 639 = .ok (.aload_n 0, 1) := kd_dk0 kd_o42 kd_ncL_law rfl
theorem dL_law_640 : decode cL_law 640 = .ok (.iload_n 3, 1) := kd_dk0 kd_o29 kd_ncL_law rfl
theorem dL_law_641 : decode cL_law 641 = .ok (.iconst 2, 1) := kd_dk0 kd_o5 kd_ncL_law rfl
theorem dL_law_642 : decode cL_law 642 = .ok (.iadd, 1) := kd_dk0 kd_o96 kd_ncL_law rfl
theorem dL_law_643 : decode cL_law 643 = .ok (.iaload, 1) := kd_dk0 kd_o46 kd_ncL_law rfl
theorem dL_law_644 : decode cL_law 644 = .ok (.invokevirtual 81, 3) := kd_dk2 kd_o182 kd_ncL_law rfl
theorem dL_law_647 : decode cL_law 647 = .ok (.pop, 1) := kd_dk0 kd_o87 kd_ncL_law rfl
theorem dL_law_648 : decode cL_law 648 = .ok (.aload_n 2, 1) := kd_dk0 kd_o44 kd_ncL_law rfl
theorem dL_law_649 : decode cL_law 649 = .ok (.aload_n 0, 1) := kd_dk0 kd_o42 kd_ncL_law rfl
theorem dL_law_650 : decode cL_law 650 = .ok (.iload_n 3, 1) := kd_dk0 kd_o29 kd_ncL_law rfl
theorem dL_law_651 : decode cL_law 651 = .ok (.iconst 1, 1) := kd_dk0 kd_o4 kd_ncL_law rfl
theorem dL_law_652 : decode cL_law 652 = .ok (.iadd, 1) := kd_dk0 kd_o96 kd_ncL_law rfl
theorem dL_law_653 : decode cL_law 653 = .ok (.iaload, 1) := kd_dk0 kd_o46 kd_ncL_law rfl
theorem dL_law_654 : decode cL_law 654 = .ok (.aload_n 0, 1) := kd_dk0 kd_o42 kd_ncL_law rfl
theorem dL_law_655 : decode cL_law 655 = .ok (.iload_n 3, 1) := kd_dk0 kd_o29 kd_ncL_law rfl
theorem dL_law_656 : decode cL_law 656 = .ok (.iconst 2, 1) := kd_dk0 kd_o5 kd_ncL_law rfl
theorem dL_law_657 : decode cL_law 657 = .ok (.iadd, 1) := kd_dk0 kd_o96 kd_ncL_law rfl
theorem dL_law_658 : decode cL_law 658 = .ok (.iaload, 1) := kd_dk0 kd_o46 kd_ncL_law rfl
theorem dL_law_659 : decode cL_law 659 = .ok (.invokevirtual 84, 3) := kd_dk2 kd_o182 kd_ncL_law rfl
theorem dL_law_662 : decode cL_law 662 = .ok (.pop, 1) := kd_dk0 kd_o87 kd_ncL_law rfl
theorem dL_law_663 : decode cL_law 663 = .ok (.goto 674, 3) := kd_dj2 kd_o167 (w := 674) kd_ncL_law rfl rfl
theorem dL_law_666 : decode cL_law 666 = .ok (.aload_n 1, 1) := kd_dk0 kd_o43 kd_ncL_law rfl
theorem dL_law_667 : decode cL_law 667 = .ok (.aload_n 0, 1) := kd_dk0 kd_o42 kd_ncL_law rfl
theorem dL_law_668 : decode cL_law 668 = .ok (.iload_n 3, 1) := kd_dk0 kd_o29 kd_ncL_law rfl
theorem dL_law_669 : decode cL_law 669 = .ok (.iconst 1, 1) := kd_dk0 kd_o4 kd_ncL_law rfl
theorem dL_law_670 : decode cL_law 670 = .ok (.iadd, 1) := kd_dk0 kd_o96 kd_ncL_law rfl
theorem dL_law_671 : decode cL_law 671 = .ok (.iaload, 1) := kd_dk0 kd_o46 kd_ncL_law rfl
theorem dL_law_672 : decode cL_law 672 = .ok (.invokevirtual 85, 3) := kd_dk2 kd_o182 kd_ncL_law rfl
theorem dL_law_675 : decode cL_law 675 = .ok (.pop, 1) := kd_dk0 kd_o87 kd_ncL_law rfl
theorem dL_law_676 : decode cL_law 676 = .ok (.aload_n 2, 1) := kd_dk0 kd_o44 kd_ncL_law rfl
theorem dL_law_677 : decode cL_law 677 = .ok (.aload_n 0, 1) := kd_dk0 kd_o42 kd_ncL_law rfl
theorem dL_law_678 : decode cL_law 678 = .ok (.iload_n 3, 1) := kd_dk0 kd_o29 kd_ncL_law rfl
theorem dL_law_679 : decode cL_law 679 = .ok (.iconst 1, 1) := kd_dk0 kd_o4 kd_ncL_law rfl
theorem dL_law_680 : decode cL_law 680 = .ok (.iadd, 1) := kd_dk0 kd_o96 kd_ncL_law rfl
theorem dL_law_681 : decode cL_law 681 = .ok (.iaload, 1) := kd_dk0 kd_o46 kd_ncL_law rfl
theorem dL_law_682 : decode cL_law 682 = .ok (.invokevirtual 88, 3) := kd_dk2 kd_o182 kd_ncL_law rfl
theorem dL_law_685 : decode cL_law 685 = .ok (.pop, 1) := kd_dk0 kd_o87 kd_ncL_law rfl
theorem dL_law_686 : decode cL_law 686 = .ok (.goto 651, 3) := kd_dj2 kd_o167 (w := 651) kd_ncL_law rfl rfl
theorem dL_law_689 : decode cL_law 689 = .ok (.aload_n 1, 1) := kd_dk0 kd_o43 kd_ncL_law rfl
theorem dL_law_690 : decode cL_law 690 = .ok (.invokevirtual 89, 3) := kd_dk2 kd_o182 kd_ncL_law rfl
theorem dL_law_693 : decode cL_law 693 = .ok (.pop, 1) := kd_dk0 kd_o87 kd_ncL_law rfl
theorem dL_law_694 : decode cL_law 694 = .ok (.aload_n 2, 1) := kd_dk0 kd_o44 kd_ncL_law rfl
theorem dL_law_695 : decode cL_law 695 = .ok (.invokevirtual 92, 3) := kd_dk2 kd_o182 kd_ncL_law rfl
theorem dL_law_698 : decode cL_law 698 = .ok (.pop, 1) := kd_dk0 kd_o87 kd_ncL_law rfl
theorem dL_law_699 : decode cL_law 699 = .ok (.goto 638, 3) := kd_dj2 kd_o167 (w := 638) kd_ncL_law rfl rfl
theorem dL_law_702 : decode cL_law 702 = .ok (.aload_n 1, 1) := kd_dk0 kd_o43 kd_ncL_law rfl
theorem dL_law_703 : decode cL_law 703 = .ok (.invokevirtual 93, 3) := kd_dk2 kd_o182 kd_ncL_law rfl
theorem dL_law_706 : decode cL_law 706 = .ok (.pop, 1) := kd_dk0 kd_o87 kd_ncL_law rfl
theorem dL_law_707 : decode cL_law 707 = .ok (.aload_n 2, 1) := kd_dk0 kd_o44 kd_ncL_law rfl
theorem dL_law_708 : decode cL_law 708 = .ok (.invokevirtual 96, 3) := kd_dk2 kd_o182 kd_ncL_law rfl
theorem dL_law_711 : decode cL_law 711 = .ok (.pop, 1) := kd_dk0 kd_o87 kd_ncL_law rfl
theorem dL_law_712 : decode cL_law 712 = .ok (.goto 625, 3) := kd_dj2 kd_o167 (w := 625) kd_ncL_law rfl rfl
theorem dL_law_715 : decode cL_law 715 = .ok (.aload_n 1, 1) := kd_dk0 kd_o43 kd_ncL_law rfl
theorem dL_law_716 : decode cL_law 716 = .ok (.aload_n 0, 1) := kd_dk0 kd_o42 kd_ncL_law rfl
theorem dL_law_717 : decode cL_law 717 = .ok (.iload_n 3, 1) := kd_dk0 kd_o29 kd_ncL_law rfl
theorem dL_law_718 : decode cL_law 718 = .ok (.iconst 1, 1) := kd_dk0 kd_o4 kd_ncL_law rfl
theorem dL_law_719 : decode cL_law 719 = .ok (.iadd, 1) := kd_dk0 kd_o96 kd_ncL_law rfl
theorem dL_law_720 : decode cL_law 720 = .ok (.iaload, 1) := kd_dk0 kd_o46 kd_ncL_law rfl
theorem dL_law_721 : decode cL_law 721 = .ok (.aload_n 0, 1) := kd_dk0 kd_o42 kd_ncL_law rfl
theorem dL_law_722 : decode cL_law 722 = .ok (.iload_n 3, 1) := kd_dk0 kd_o29 kd_ncL_law rfl
theorem dL_law_723 : decode cL_law 723 = .ok (.iconst 2, 1) := kd_dk0 kd_o5 kd_ncL_law rfl
theorem dL_law_724 : decode cL_law 724 = .ok (.iadd, 1) := kd_dk0 kd_o96 kd_ncL_law rfl
theorem dL_law_725 : decode cL_law 725 = .ok (.iaload, 1) := kd_dk0 kd_o46 kd_ncL_law rfl
theorem dL_law_726 : decode cL_law 726 = .ok (.invokevirtual 97, 3) := kd_dk2 kd_o182 kd_ncL_law rfl
theorem dL_law_729 : decode cL_law 729 = .ok (.pop, 1) := kd_dk0 kd_o87 kd_ncL_law rfl
theorem dL_law_730 : decode cL_law 730 = .ok (.aload_n 2, 1) := kd_dk0 kd_o44 kd_ncL_law rfl
theorem dL_law_731 : decode cL_law 731 = .ok (.aload_n 0, 1) := kd_dk0 kd_o42 kd_ncL_law rfl
theorem dL_law_732 : decode cL_law 732 = .ok (.iload_n 3, 1) := kd_dk0 kd_o29 kd_ncL_law rfl
theorem dL_law_733 : decode cL_law 733 = .ok (.iconst 1, 1) := kd_dk0 kd_o4 kd_ncL_law rfl
theorem dL_law_734 : decode cL_law 734 = .ok (.iadd, 1) := kd_dk0 kd_o96 kd_ncL_law rfl
theorem dL_law_735 : decode cL_law 735 = .ok (.iaload, 1) := kd_dk0 kd_o46 kd_ncL_law rfl
theorem dL_law_736 : decode cL_law 736 = .ok (.aload_n 0, 1) := kd_dk0 kd_o42 kd_ncL_law rfl
theorem dL_law_737 : decode cL_law 737 = .ok (.iload_n 3, 1) := kd_dk0 kd_o29 kd_ncL_law rfl
theorem dL_law_738 : decode cL_law 738 = .ok (.iconst 2, 1) := kd_dk0 kd_o5 kd_ncL_law rfl
theorem dL_law_739 : decode cL_law 739 = .ok (.iadd, 1) := kd_dk0 kd_o96 kd_ncL_law rfl
theorem dL_law_740 : decode cL_law 740 = .ok (.iaload, 1) := kd_dk0 kd_o46 kd_ncL_law rfl
theorem dL_law_741 : decode cL_law 741 = .ok (.invokevirtual 100, 3) := kd_dk2 kd_o182 kd_ncL_law rfl
theorem dL_law_744 : decode cL_law 744 = .ok (.pop, 1) := kd_dk0 kd_o87 kd_ncL_law rfl
theorem dL_law_745 : decode cL_law 745 = .ok (.goto 592, 3) := kd_dj2 kd_o167 (w := 592) kd_ncL_law rfl rfl
theorem dL_law_748 : decode cL_law 748 = .ok (.aload_n 1, 1) := kd_dk0 kd_o43 kd_ncL_law rfl
theorem dL_law_749 : decode cL_law 749 = .ok (.aload_n 0, 1) := kd_dk0 kd_o42 kd_ncL_law rfl
theorem dL_law_750 : decode cL_law 750 = .ok (.iload_n 3, 1) := kd_dk0 kd_o29 kd_ncL_law rfl
theorem dL_law_751 : decode cL_law 751 = .ok (.iconst 1, 1) := kd_dk0 kd_o4 kd_ncL_law rfl
theorem dL_law_752 : decode cL_law 752 = .ok (.iadd, 1) := kd_dk0 kd_o96 kd_ncL_law rfl
theorem dL_law_753 : decode cL_law 753 = .ok (.iaload, 1) := kd_dk0 kd_o46 kd_ncL_law rfl
theorem dL_law_754 : decode cL_law 754 = .ok (.aload_n 0, 1) := kd_dk0 kd_o42 kd_ncL_law rfl
theorem dL_law_755 : decode cL_law 755 = .ok (.iload_n 3, 1) := kd_dk0 kd_o29 kd_ncL_law rfl
theorem dL_law_756 : decode cL_law 756 = .ok (.iconst 2, 1) := kd_dk0 kd_o5 kd_ncL_law rfl
theorem dL_law_757 : decode cL_law 757 = .ok (.iadd, 1) := kd_dk0 kd_o96 kd_ncL_law rfl
theorem dL_law_758 : decode cL_law 758 = .ok (.iaload, 1) := kd_dk0 kd_o46 kd_ncL_law rfl
theorem dL_law_759 : decode cL_law 759 = .ok (.invokevirtual 101, 3) := kd_dk2 kd_o182 kd_ncL_law rfl
theorem dL_law_762 : decode cL_law 762 = .ok (.pop, 1) := kd_dk0 kd_o87 kd_ncL_law rfl
theorem dL_law_763 : decode cL_law 763 = .ok (.aload_n 2, 1) := kd_dk0 kd_o44 kd_ncL_law rfl
theorem dL_law_764 : decode cL_law 764 = .ok (.aload_n 0, 1) := kd_dk0 kd_o42 kd_ncL_law rfl
theorem dL_law_765 : decode cL_law 765 = .ok (.iload_n 3, 1) := kd_dk0 kd_o29 kd_ncL_law rfl
theorem dL_law_766 : decode cL_law 766 = .ok (.iconst 1, 1) := kd_dk0 kd_o4 kd_ncL_law rfl
theorem dL_law_767 : decode cL_law 767 = .ok (.iadd, 1) := kd_dk0 kd_o96 kd_ncL_law rfl
theorem dL_law_768 : decode cL_law 768 = .ok (.iaload, 1) := kd_dk0 kd_o46 kd_ncL_law rfl
theorem dL_law_769 : decode cL_law 769 = .ok (.aload_n 0, 1) := kd_dk0 kd_o42 kd_ncL_law rfl
end zzm62
section zzm63
theorem dL_law_770 : decode cL_law 770 = .ok (.iload_n 3, 1) := kd_dk0 kd_o29 kd_ncL_law rfl
theorem dL_law_771 : decode cL_law 771 = .ok (.iconst 2, 1) := kd_dk0 kd_o5 kd_ncL_law rfl
theorem dL_law_772 : decode cL_law 772 = .ok (.iadd, 1) := kd_dk0 kd_o96 kd_ncL_law rfl
theorem dL_law_773 : decode cL_law 773 = .ok (.iaload, 1) := kd_dk0 kd_o46 kd_ncL_law rfl
theorem dL_law_774 : decode cL_law 774 = .ok (.invokevirtual 104, 3) := kd_dk2 kd_o182 kd_ncL_law rfl
theorem dL_law_777 : decode cL_law 777 = .ok (.pop, 1) := kd_dk0 kd_o87 kd_ncL_law rfl
theorem dL_law_778 : decode cL_law 778 = .ok (.goto 559, 3) := kd_dj2 kd_o167 (w := 559) kd_ncL_law rfl rfl
theorem dL_law_781 : decode cL_law 781 = .ok (.aload_n 1, 1) := kd_dk0 kd_o43 kd_ncL_law rfl
theorem dL_law_782 : decode cL_law 782 = .ok (.invokevirtual 105, 3) := kd_dk2 kd_o182 kd_ncL_law rfl
theorem dL_law_785 : decode cL_law 785 = .ok (.pop, 1) := kd_dk0 kd_o87 kd_ncL_law rfl
theorem dL_law_786 : decode cL_law 786 = .ok (.aload_n 2, 1) := kd_dk0 kd_o44 kd_ncL_law rfl
theorem dL_law_787 : decode cL_law 787 = .ok (.invokevirtual 108, 3) := kd_dk2 kd_o182 kd_ncL_law rfl
theorem dL_law_790 : decode cL_law 790 = .ok (.pop, 1) := kd_dk0 kd_o87 kd_ncL_law rfl
theorem dL_law_791 : decode cL_law 791 = .ok (.goto 546, 3) := kd_dj2 kd_o167 (w := 546) kd_ncL_law rfl rfl
theorem dL_law_794 : decode cL_law 794 = .ok (.aload_n 1, 1) := kd_dk0 kd_o43 kd_ncL_law rfl
theorem dL_law_795 : decode cL_law 795 = .ok (.aload_n 0, 1) := kd_dk0 kd_o42 kd_ncL_law rfl
theorem dL_law_796 : decode cL_law 796 = .ok (.iload_n 3, 1) := kd_dk0 kd_o29 kd_ncL_law rfl
theorem dL_law_797 : decode cL_law 797 = .ok (.iconst 1, 1) := kd_dk0 kd_o4 kd_ncL_law rfl
theorem dL_law_798 : decode cL_law 798 = .ok (.iadd, 1) := kd_dk0 kd_o96 kd_ncL_law rfl
theorem dL_law_799 : decode cL_law 799 = .ok (.iaload, 1) := kd_dk0 kd_o46 kd_ncL_law rfl
theorem dL_law_800 : decode cL_law 800 = .ok (.invokevirtual 109, 3) := kd_dk2 kd_o182 kd_ncL_law rfl
theorem dL_law_803 : decode cL_law 803 = .ok (.pop, 1) := kd_dk0 kd_o87 kd_ncL_law rfl
theorem dL_law_804 : decode cL_law 804 = .ok (.aload_n 2, 1) := kd_dk0 kd_o44 kd_ncL_law rfl
theorem dL_law_805 : decode cL_law 805 = .ok (.aload_n 0, 1) := kd_dk0 kd_o42 kd_ncL_law rfl
theorem dL_law_806 : decode cL_law 806 = .ok (.iload_n 3, 1) := kd_dk0 kd_o29 kd_ncL_law rfl
theorem dL_law_807 : decode cL_law 807 = .ok (.iconst 1, 1) := kd_dk0 kd_o4 kd_ncL_law rfl
theorem dL_law_808 : decode cL_law 808 = .ok (.iadd, 1) := kd_dk0 kd_o96 kd_ncL_law rfl
theorem dL_law_809 : decode cL_law 809 = .ok (.iaload, 1) := kd_dk0 kd_o46 kd_ncL_law rfl
theorem dL_law_810 : decode cL_law 810 = .ok (.invokevirtual 112, 3) := kd_dk2 kd_o182 kd_ncL_law rfl
theorem dL_law_813 : decode cL_law 813 = .ok (.pop, 1) := kd_dk0 kd_o87 kd_ncL_law rfl
theorem dL_law_814 : decode cL_law 814 = .ok (.goto 523, 3) := kd_dj2 kd_o167 (w := 523) kd_ncL_law rfl rfl
theorem dL_law_817 : decode cL_law 817 = .ok (.aload_n 1, 1) := kd_dk0 kd_o43 kd_ncL_law rfl
theorem dL_law_818 : decode cL_law 818 = .ok (.aload_n 0, 1) := kd_dk0 kd_o42 kd_ncL_law rfl
theorem dL_law_819 : decode cL_law 819 = .ok (.iload_n 3, 1) := kd_dk0 kd_o29 kd_ncL_law rfl
theorem dL_law_820 : decode cL_law 820 = .ok (.iconst 1, 1) := kd_dk0 kd_o4 kd_ncL_law rfl
theorem dL_law_821 : decode cL_law 821 = .ok (.iadd, 1) := kd_dk0 kd_o96 kd_ncL_law rfl
theorem dL_law_822 : decode cL_law 822 = .ok (.iaload, 1) := kd_dk0 kd_o46 kd_ncL_law rfl
theorem dL_law_823 : decode cL_law 823 = .ok (.aload_n 0, 1) := kd_dk0 kd_o42 kd_ncL_law rfl
theorem dL_law_824 : decode cL_law 824 = .ok (.iload_n 3, 1) := kd_dk0 kd_o29 kd_ncL_law rfl
theorem dL_law_825 : decode cL_law 825 = .ok (.iconst 2, 1) := kd_dk0 kd_o5 kd_ncL_law rfl
theorem dL_law_826 : decode cL_law 826 = .ok (.iadd, 1) := kd_dk0 kd_o96 kd_ncL_law rfl
theorem dL_law_827 : decode cL_law 827 = .ok (.iaload, 1) := kd_dk0 kd_o46 kd_ncL_law rfl
theorem dL_law_828 : decode cL_law 828 = .ok (.invokevirtual 113, 3) := kd_dk2 kd_o182 kd_ncL_law rfl
theorem dL_law_831 : decode cL_law 831 = .ok (.pop, 1) := kd_dk0 kd_o87 kd_ncL_law rfl
theorem dL_law_832 : decode cL_law 832 = .ok (.aload_n 2, 1) := kd_dk0 kd_o44 kd_ncL_law rfl
theorem dL_law_833 : decode cL_law 833 = .ok (.aload_n 0, 1) := kd_dk0 kd_o42 kd_ncL_law rfl
theorem dL_law_834 : decode cL_law 834 = .ok (.iload_n 3, 1) := kd_dk0 kd_o29 kd_ncL_law rfl
theorem dL_law_835 : decode cL_law 835 = .ok (.iconst 1, 1) := kd_dk0 kd_o4 kd_ncL_law rfl
theorem dL_law_836 : decode cL_law 836 = .ok (.iadd, 1) := kd_dk0 kd_o96 kd_ncL_law rfl
theorem dL_law_837 : decode cL_law 837 = .ok (.iaload, 1) := kd_dk0 kd_o46 kd_ncL_law rfl
theorem dL_law_838 : decode cL_law 838 = .ok (.aload_n 0, 1) := kd_dk0 kd_o42 kd_ncL_law rfl
theorem dL_law_839 : decode cL_law 839 = .ok (.iload_n 3, 1) := kd_dk0 kd_o29 kd_ncL_law rfl
theorem dL_law_840 : decode cL_law 840 = .ok (.iconst 2, 1) := kd_dk0 kd_o5 kd_ncL_law rfl
theorem dL_law_841 : decode cL_law 841 = .ok (.iadd, 1) := kd_dk0 kd_o96 kd_ncL_law rfl
theorem dL_law_842 : decode cL_law 842 = .ok (.iaload, 1) := kd_dk0 kd_o46 kd_ncL_law rfl
theorem dL_law_843 : decode cL_law 843 = .ok (.invokevirtual 116, 3) := kd_dk2 kd_o182 kd_ncL_law rfl
theorem dL_law_846 : decode cL_law 846 = .ok (.pop, 1) := kd_dk0 kd_o87 kd_ncL_law rfl
theorem dL_law_847 : decode cL_law 847 = .ok (.goto 490, 3) := kd_dj2 kd_o167 (w := 490) kd_ncL_law rfl rfl
theorem dL_law_850 : decode cL_law 850 = .ok (.aload_n 1, 1) := kd_dk0 kd_o43 kd_ncL_law rfl
theorem dL_law_851 : decode cL_law 851 = .ok (.aload_n 0, 1) := kd_dk0 kd_o42 kd_ncL_law rfl
theorem dL_law_852 : decode cL_law 852 = .ok (.iload_n 3, 1) := kd_dk0 kd_o29 kd_ncL_law rfl
theorem dL_law_853 : decode cL_law 853 = .ok (.iconst 1, 1) := kd_dk0 kd_o4 kd_ncL_law rfl
theorem dL_law_854 : decode cL_law 854 = .ok (.iadd, 1) := kd_dk0 kd_o96 kd_ncL_law rfl
theorem dL_law_855 : decode cL_law 855 = .ok (.iaload, 1) := kd_dk0 kd_o46 kd_ncL_law rfl
theorem dL_law_856 : decode cL_law 856 = .ok (.aload_n 0, 1) := kd_dk0 kd_o42 kd_ncL_law rfl
theorem dL_law_857 : decode cL_law 857 = .ok (.iload_n 3, 1) := kd_dk0 kd_o29 kd_ncL_law rfl
theorem dL_law_858 : decode cL_law 858 = .ok (.iconst 2, 1) := kd_dk0 kd_o5 kd_ncL_law rfl
theorem dL_law_859 : decode cL_law 859 = .ok (.iadd, 1) := kd_dk0 kd_o96 kd_ncL_law rfl
theorem dL_law_860 : decode cL_law 860 = .ok (.iaload, 1) := kd_dk0 kd_o46 kd_ncL_law rfl
theorem dL_law_861 : decode cL_law 861 = .ok (.invokevirtual 117, 3) := kd_dk2 kd_o182 kd_ncL_law rfl
theorem dL_law_864 : decode cL_law 864 = .ok (.pop, 1) := kd_dk0 kd_o87 kd_ncL_law rfl
theorem dL_law_865 : decode cL_law 865 = .ok (.aload_n 2, 1) := kd_dk0 kd_o44 kd_ncL_law rfl
theorem dL_law_866 : decode cL_law 866 = .ok (.aload_n 0, 1) := kd_dk0 kd_o42 kd_ncL_law rfl
theorem dL_law_867 : decode cL_law 867 = .ok (.iload_n 3, 1) := kd_dk0 kd_o29 kd_ncL_law rfl
theorem dL_law_868 : decode cL_law 868 = .ok (.iconst 1, 1) := kd_dk0 kd_o4 kd_ncL_law rfl
theorem dL_law_869 : decode cL_law 869 = .ok (.iadd, 1) := kd_dk0 kd_o96 kd_ncL_law rfl
theorem dL_law_870 : decode cL_law 870 = .ok (.iaload, 1) := kd_dk0 kd_o46 kd_ncL_law rfl
theorem dL_law_871 : decode cL_law 871 = .ok (.aload_n 0, 1) := kd_dk0 kd_o42 kd_ncL_law rfl
theorem dL_law_872 : decode cL_law 872 = .ok (.iload_n 3, 1) := kd_dk0 kd_o29 kd_ncL_law rfl
theorem dL_law_873 : decode cL_law 873 = .ok (.iconst 2, 1) := kd_dk0 kd_o5 kd_ncL_law rfl
theorem dL_law_874 : decode cL_law 874 = .ok (.iadd, 1) := kd_dk0 kd_o96 kd_ncL_law rfl
theorem dL_law_875 : decode cL_law 875 = .ok (.iaload, 1) := kd_dk0 kd_o46 kd_ncL_law rfl
theorem dL_law_876 : decode cL_law 876 = .ok (.invokevirtual 120, 3) := kd_dk2 kd_o182 kd_ncL_law rfl
theorem dL_law_879 : decode cL_law 879 = .ok (.pop, 1) := kd_dk0 kd_o87 kd_ncL_law rfl
theorem dL_law_880 : decode cL_law 880 = .ok (.goto 457, 3) := kd_dj2 kd_o167 (w := 457) kd_ncL_law rfl rfl
theorem dL_law_883 : decode cL_law 883 = .ok (.aload_n 1, 1) := kd_dk0 kd_o43 kd_ncL_law rfl
theorem dL_law_884 : decode cL_law 884 = .ok (.invokevirtual 121, 3) := kd_dk2 kd_o182 kd_ncL_law rfl
theorem dL_law_887 : decode cL_law 887 = .ok (.pop, 1) := kd_dk0 kd_o87 kd_ncL_law rfl
theorem dL_law_888 : decode cL_law 888 = .ok (.aload_n 2, 1) := kd_dk0 kd_o44 kd_ncL_law rfl
theorem dL_law_889 : decode cL_law 889 = .ok (.invokevirtual 124, 3) := kd_dk2 kd_o182 kd_ncL_law rfl
theorem dL_law_892 : decode cL_law 892 = .ok (.pop, 1) := kd_dk0 kd_o87 kd_ncL_law rfl
theorem dL_law_893 : decode cL_law 893 = .ok (.goto 444, 3) := kd_dj2 kd_o167 (w := 444) kd_ncL_law rfl rfl
theorem dL_law_896 : decode cL_law 896 = .ok (.aload_n 1, 1) := kd_dk0 kd_o43 kd_ncL_law rfl
theorem dL_law_897 : decode cL_law 897 = .ok (.aload_n 0, 1) := kd_dk0 kd_o42 kd_ncL_law rfl
theorem dL_law_898 : decode cL_law 898 = .ok (.iload_n 3, 1) := kd_dk0 kd_o29 kd_ncL_law rfl
theorem dL_law_899 : decode cL_law 899 = .ok (.iconst 1, 1) := kd_dk0 kd_o4 kd_ncL_law rfl
theorem dL_law_900 : decode cL_law 900 = .ok (.iadd, 1) := kd_dk0 kd_o96 kd_ncL_law rfl
theorem dL_law_901 : decode cL_law 901 = .ok (.iaload, 1) := kd_dk0 kd_o46 kd_ncL_law rfl
theorem dL_law_902 : decode cL_law 902 = .ok (.invokevirtual 125, 3) := kd_dk2 kd_o182 kd_ncL_law rfl
theorem dL_law_905 : decode cL_law 905 = .ok (.pop, 1) := kd_dk0 kd_o87 kd_ncL_law rfl
theorem dL_law_906 : decode cL_law 906 = .ok (.aload_n 2, 1) := kd_dk0 kd_o44 kd_ncL_law rfl
theorem dL_law_907 : decode cL_law 907 = .ok (.aload_n 0, 1) := kd_dk0 kd_o42 kd_ncL_law rfl
theorem dL_law_908 : decode cL_law 908 = .ok (.iload_n 3, 1) := kd_dk0 kd_o29 kd_ncL_law rfl
theorem dL_law_909 : decode cL_law 909 = .ok (.iconst 1, 1) := kd_dk0 kd_o4 kd_ncL_law rfl
theorem dL_law_910 : decode cL_law 910 = .ok (.iadd, 1) := kd_dk0 kd_o96 kd_ncL_law rfl
theorem dL_law_911 : decode cL_law 911 = .ok (.iaload, 1) := kd_dk0 kd_o46 kd_ncL_law rfl
theorem dL_law_912 : decode cL_law 912 = .ok (.invokevirtual 128, 3) := kd_dk2 kd_o182 kd_ncL_law rfl
theorem dL_law_915 : decode cL_law 915 = .ok (.pop, 1) := kd_dk0 kd_o87 kd_ncL_law rfl
theorem dL_law_916 : decode cL_law 916 = .ok (.goto 421, 3) := kd_dj2 kd_o167 (w := 421) kd_ncL_law rfl rfl
theorem dL_law_919 : decode cL_law 919 = .ok (.aload_n 1, 1) := kd_dk0 kd_o43 kd_ncL_law rfl
theorem dL_law_920 : decode cL_law 920 = .ok (.aload_n 0, 1) := kd_dk0 kd_o42 kd_ncL_law rfl
theorem dL_law_921 : decode cL_law 921 = .ok (.iload_n 3, 1) := kd_dk0 kd_o29 kd_ncL_law rfl
theorem dL_law_922 : decode cL_law 922 = .ok (.iconst 1, 1) := kd_dk0 kd_o4 kd_ncL_law rfl
theorem dL_law_923 : decode cL_law 923 = .ok (.iadd, 1) := kd_dk0 kd_o96 kd_ncL_law rfl
theorem dL_law_924 : decode cL_law 924 = .ok (.iaload, 1) := kd_dk0 kd_o46 kd_ncL_law rfl
theorem dL_law_925 : decode cL_law 925 = .ok (.aload_n 0, 1) := kd_dk0 kd_o42 kd_ncL_law rfl
theorem dL_law_926 : decode cL_law 926 = .ok (.iload_n 3, 1) := kd_dk0 kd_o29 kd_ncL_law rfl
theorem dL_law_927 : decode cL_law 927 = .ok (.iconst 2, 1) := kd_dk0 kd_o5 kd_ncL_law rfl
theorem dL_law_928 : decode cL_law 928 = .ok (.iadd, 1) := kd_dk0 kd_o96 kd_ncL_law rfl
theorem dL_law_929 : decode cL_law 929 = .ok (.iaload, 1) := kd_dk0 kd_o46 kd_ncL_law rfl
theorem dL_law_930 : decode cL_law 930 = .ok (.invokevirtual 129, 3) := kd_dk2 kd_o182 kd_ncL_law rfl
theorem dL_law_933 : decode cL_law 933 = .ok (.pop, 1) := kd_dk0 kd_o87 kd_ncL_law rfl
theorem dL_law_934 : decode cL_law 934 = .ok (.aload_n 2, 1) := kd_dk0 kd_o44 kd_ncL_law rfl
theorem dL_law_935 : decode cL_law 935 = .ok (.aload_n 0, 1) := kd_dk0 kd_o42 kd_ncL_law rfl
theorem dL_law_936 : decode cL_law 936 = .ok (.iload_n 3, 1) := kd_dk0 kd_o29 kd_ncL_law rfl
theorem dL_law_937 : decode cL_law 937 = .ok (.iconst 1, 1) := kd_dk0 kd_o4 kd_ncL_law rfl
theorem dL_law_938 : decode cL_law 938 = .ok (.iadd, 1) := kd_dk0 kd_o96 kd_ncL_law rfl
theorem dL_law_939 : decode cL_law 939 = .ok (.iaload, 1) := kd_dk0 kd_o46 kd_ncL_law rfl
theorem dL_law_940 : decode cL_law 940 = .ok (.aload_n 0, 1) := kd_dk0 kd_o42 kd_ncL_law rfl
theorem dL_law_941 : decode cL_law 941 = .ok (.iload_n 3, 1) := kd_dk0 kd_o29 kd_ncL_law rfl
theorem dL_law_942 : decode cL_law 942 = .ok (.iconst 2, 1) := kd_dk0 kd_o5 kd_ncL_law rfl
theorem dL_law_943 : decode cL_law 943 = .ok (.iadd, 1) := kd_dk0 kd_o96 kd_ncL_law rfl
theorem dL_law_944 : decode cL_law 944 = .ok (.iaload, 1) := kd_dk0 kd_o46 kd_ncL_law rfl
theorem dL_law_945 : decode cL_law 945 = .ok (.invokevirtual 132, 3) := kd_dk2 kd_o182 kd_ncL_law rfl
theorem dL_law_948 : decode cL_law 948 = .ok (.pop, 1) := kd_dk0 kd_o87 kd_ncL_law rfl
theorem dL_law_949 : decode cL_law 949 = .ok (.goto 388, 3) := kd_dj2 kd_o167 (w := 388) kd_ncL_law rfl rfl
theorem dL_law_952 : decode cL_law 952 = .ok (.aload_n 1, 1) := kd_dk0 kd_o43 kd_ncL_law rfl
theorem dL_law_953 : decode cL_law 953 = .ok (.aload_n 0, 1) := kd_dk0 kd_o42 kd_ncL_law rfl
theorem dL_law_954 : decode cL_law 954 = .ok (.iload_n 3, 1) := kd_dk0 kd_o29 kd_ncL_law rfl
theorem dL_law_955 : decode cL_law 955 = .ok (.iconst 1, 1) := kd_dk0 kd_o4 kd_ncL_law rfl
theorem dL_law_956 : decode cL_law 956 = .ok (.iadd, 1) := kd_dk0 kd_o96 kd_ncL_law rfl
theorem dL_law_957 : decode cL_law 957 = .ok (.iaload, 1) := kd_dk0 kd_o46 kd_ncL_law rfl
theorem dL_law_958 : decode cL_law 958 = .ok (.invokevirtual 133, 3) := kd_dk2 kd_o182 kd_ncL_law rfl
theorem dL_law_961 : decode cL_law 961 = .ok (.pop, 1) := kd_dk0 kd_o87 kd_ncL_law rfl
theorem dL_law_962 : decode cL_law 962 = .ok (.aload_n 2, 1) := kd_dk0 kd_o44 kd_ncL_law rfl
theorem dL_law_963 : decode cL_law 963 = .ok (.aload_n 0, 1) := kd_dk0 kd_o42 kd_ncL_law rfl
theorem dL_law_964 : decode cL_law 964 = .ok (.iload_n 3, 1) := kd_dk0 kd_o29 kd_ncL_law rfl
theorem dL_law_965 : decode cL_law 965 = .ok (.iconst 1, 1) := kd_dk0 kd_o4 kd_ncL_law rfl
theorem dL_law_966 : decode cL_law 966 = .ok (.iadd, 1) := kd_dk0 kd_o96 kd_ncL_law rfl
theorem dL_law_967 : decode cL_law 967 = .ok (.iaload, 1) := kd_dk0 kd_o46 kd_ncL_law rfl
end zzm63
section zzm64
theorem dL_law_968 : decode cL_law 968 = .ok (.invokevirtual 136, 3) := kd_dk2 kd_o182 kd_ncL_law rfl
theorem dL_law_971 : decode cL_law 971 = .ok (.pop, 1) := kd_dk0 kd_o87 kd_ncL_law rfl
theorem dL_law_972 : decode cL_law 972 = .ok (.goto 365, 3) := kd_dj2 kd_o167 (w := 365) kd_ncL_law rfl rfl
theorem dL_law_975 : decode cL_law 975 = .ok (.aload_n 1, 1) := kd_dk0 kd_o43 kd_ncL_law rfl
theorem dL_law_976 : decode cL_law 976 = .ok (.invokevirtual 137, 3) := kd_dk2 kd_o182 kd_ncL_law rfl
theorem dL_law_979 : decode cL_law 979 = .ok (.pop, 1) := kd_dk0 kd_o87 kd_ncL_law rfl
theorem dL_law_980 : decode cL_law 980 = .ok (.aload_n 2, 1) := kd_dk0 kd_o44 kd_ncL_law rfl
theorem dL_law_981 : decode cL_law 981 = .ok (.invokevirtual 140, 3) := kd_dk2 kd_o182 kd_ncL_law rfl
theorem dL_law_984 : decode cL_law 984 = .ok (.pop, 1) := kd_dk0 kd_o87 kd_ncL_law rfl
theorem dL_law_985 : decode cL_law 985 = .ok (.goto 352, 3) := kd_dj2 kd_o167 (w := 352) kd_ncL_law rfl rfl
theorem dL_law_988 : decode cL_law 988 = .ok (.aload_n 1, 1) := kd_dk0 kd_o43 kd_ncL_law rfl
theorem dL_law_989 : decode cL_law 989 = .ok (.aload_n 0, 1) := kd_dk0 kd_o42 kd_ncL_law rfl
theorem dL_law_990 : decode cL_law 990 = .ok (.iload_n 3, 1) := kd_dk0 kd_o29 kd_ncL_law rfl
theorem dL_law_991 : decode cL_law 991 = .ok (.iconst 1, 1) := kd_dk0 kd_o4 kd_ncL_law rfl
theorem dL_law_992 : decode cL_law 992 = .ok (.iadd, 1) := kd_dk0 kd_o96 kd_ncL_law rfl
theorem dL_law_993 : decode cL_law 993 = .ok (.iaload, 1) := kd_dk0 kd_o46 kd_ncL_law rfl
theorem dL_law_994 : decode cL_law 994 = .ok (.aload_n 0, 1) := kd_dk0 kd_o42 kd_ncL_law rfl
theorem dL_law_995 : decode cL_law 995 = .ok (.iload_n 3, 1) := kd_dk0 kd_o29 kd_ncL_law rfl
theorem dL_law_996 : decode cL_law 996 = .ok (.iconst 2, 1) := kd_dk0 kd_o5 kd_ncL_law rfl
theorem dL_law_997 : decode cL_law 997 = .ok (.iadd, 1) := kd_dk0 kd_o96 kd_ncL_law rfl
theorem dL_law_998 : decode cL_law 998 = .ok (.iaload, 1) := kd_dk0 kd_o46 kd_ncL_law rfl
theorem dL_law_999 : decode cL_law 999 = .ok (.aload_n 0, 1) := kd_dk0 kd_o42 kd_ncL_law rfl
theorem dL_law_1000 : decode cL_law 1000 = .ok (.iload_n 3, 1) := kd_dk0 kd_o29 kd_ncL_law rfl
theorem dL_law_1001 : decode cL_law 1001 = .ok (.iconst 3, 1) := kd_dk0 kd_o6 kd_ncL_law rfl
theorem dL_law_1002 : decode cL_law 1002 = .ok (.iadd, 1) := kd_dk0 kd_o96 kd_ncL_law rfl
theorem dL_law_1003 : decode cL_law 1003 = .ok (.iaload, 1) := kd_dk0 kd_o46 kd_ncL_law rfl
theorem dL_law_1004 : decode cL_law 1004 = .ok (.invokevirtual 141, 3) := kd_dk2 kd_o182 kd_ncL_law rfl
theorem dL_law_1007 : decode cL_law 1007 = .ok (.pop, 1) := kd_dk0 kd_o87 kd_ncL_law rfl
theorem dL_law_1008 : decode cL_law 1008 = .ok (.aload_n 2, 1) := kd_dk0 kd_o44 kd_ncL_law rfl
theorem dL_law_1009 : decode cL_law 1009 = .ok (.aload_n 0, 1) := kd_dk0 kd_o42 kd_ncL_law rfl
theorem dL_law_1010 : decode cL_law 1010 = .ok (.iload_n 3, 1) := kd_dk0 kd_o29 kd_ncL_law rfl
theorem dL_law_1011 : decode cL_law 1011 = .ok (.iconst 1, 1) := kd_dk0 kd_o4 kd_ncL_law rfl
theorem dL_law_1012 : decode cL_law 1012 = .ok (.iadd, 1) := kd_dk0 kd_o96 kd_ncL_law rfl
theorem dL_law_1013 : decode cL_law 1013 = .ok (.iaload, 1) := kd_dk0 kd_o46 kd_ncL_law rfl
theorem dL_law_1014 : decode cL_law 1014 = .ok (.aload_n 0, 1) := kd_dk0 kd_o42 kd_ncL_law rfl
theorem dL_law_1015 : decode cL_law 1015 = .ok (.iload_n 3, 1) := kd_dk0 kd_o29 kd_ncL_law rfl
theorem dL_law_1016 : decode cL_law 1016 = .ok (.iconst 2, 1) := kd_dk0 kd_o5 kd_ncL_law rfl
theorem dL_law_1017 : decode cL_law 1017 = .ok (.iadd, 1) := kd_dk0 kd_o96 kd_ncL_law rfl
theorem dL_law_1018 : decode cL_law 1018 = .ok (.iaload, 1) := kd_dk0 kd_o46 kd_ncL_law rfl
theorem dL_law_1019 : decode cL_law 1019 = .ok (.aload_n 0, 1) := kd_dk0 kd_o42 kd_ncL_law rfl
theorem dL_law_1020 : decode cL_law 1020 = .ok (.iload_n 3, 1) := kd_dk0 kd_o29 kd_ncL_law rfl
theorem dL_law_1021 : decode cL_law 1021 = .ok (.iconst 3, 1) := kd_dk0 kd_o6 kd_ncL_law rfl
theorem dL_law_1022 : decode cL_law 1022 = .ok (.iadd, 1) := kd_dk0 kd_o96 kd_ncL_law rfl
theorem dL_law_1023 : decode cL_law 1023 = .ok (.iaload, 1) := kd_dk0 kd_o46 kd_ncL_law rfl
theorem dL_law_1024 : decode cL_law 1024 = .ok (.invokevirtual 144, 3) := kd_dk2 kd_o182 kd_ncL_law rfl
theorem dL_law_1027 : decode cL_law 1027 = .ok (.pop, 1) := kd_dk0 kd_o87 kd_ncL_law rfl
theorem dL_law_1028 : decode cL_law 1028 = .ok (.goto 309, 3) := kd_dj2 kd_o167 (w := 309) kd_ncL_law rfl rfl
theorem dL_law_1031 : decode cL_law 1031 = .ok (.aload_n 1, 1) := kd_dk0 kd_o43 kd_ncL_law rfl
theorem dL_law_1032 : decode cL_law 1032 = .ok (.aload_n 0, 1) := kd_dk0 kd_o42 kd_ncL_law rfl
theorem dL_law_1033 : decode cL_law 1033 = .ok (.iload_n 3, 1) := kd_dk0 kd_o29 kd_ncL_law rfl
theorem dL_law_1034 : decode cL_law 1034 = .ok (.iconst 1, 1) := kd_dk0 kd_o4 kd_ncL_law rfl
theorem dL_law_1035 : decode cL_law 1035 = .ok (.iadd, 1) := kd_dk0 kd_o96 kd_ncL_law rfl
theorem dL_law_1036 : decode cL_law 1036 = .ok (.iaload, 1) := kd_dk0 kd_o46 kd_ncL_law rfl
theorem dL_law_1037 : decode cL_law 1037 = .ok (.aload_n 0, 1) := kd_dk0 kd_o42 kd_ncL_law rfl
theorem dL_law_1038 : decode cL_law 1038 = .ok (.iload_n 3, 1) := kd_dk0 kd_o29 kd_ncL_law rfl
theorem dL_law_1039 : decode cL_law 1039 = .ok (.iconst 2, 1) := kd_dk0 kd_o5 kd_ncL_law rfl
theorem dL_law_1040 : decode cL_law 1040 = .ok (.iadd, 1) := kd_dk0 kd_o96 kd_ncL_law rfl
theorem dL_law_1041 : decode cL_law 1041 = .ok (.iaload, 1) := kd_dk0 kd_o46 kd_ncL_law rfl
theorem dL_law_1042 : decode cL_law 1042 = .ok (.invokevirtual 145, 3) := kd_dk2 kd_o182 kd_ncL_law rfl
theorem dL_law_1045 : decode cL_law 1045 = .ok (.pop, 1) := kd_dk0 kd_o87 kd_ncL_law rfl
theorem dL_law_1046 : decode cL_law 1046 = .ok (.aload_n 2, 1) := kd_dk0 kd_o44 kd_ncL_law rfl
theorem dL_law_1047 : decode cL_law 1047 = .ok (.aload_n 0, 1) := kd_dk0 kd_o42 kd_ncL_law rfl
theorem dL_law_1048 : decode cL_law 1048 = .ok (.iload_n 3, 1) := kd_dk0 kd_o29 kd_ncL_law rfl
theorem dL_law_1049 : decode cL_law 1049 = .ok (.iconst 1, 1) := kd_dk0 kd_o4 kd_ncL_law rfl
theorem dL_law_1050 : decode cL_law 1050 = .ok (.iadd, 1) := kd_dk0 kd_o96 kd_ncL_law rfl
theorem dL_law_1051 : decode cL_law 1051 = .ok (.iaload, 1) := kd_dk0 kd_o46 kd_ncL_law rfl
theorem dL_law_1052 : decode cL_law 1052 = .ok (.aload_n 0, 1) := kd_dk0 kd_o42 kd_ncL_law rfl
theorem dL_law_1053 : decode cL_law 1053 = .ok (.iload_n 3, 1) := kd_dk0 kd_o29 kd_ncL_law rfl
theorem dL_law_1054 : decode cL_law 1054 = .ok (.iconst 2, 1) := kd_dk0 kd_o5 kd_ncL_law rfl
theorem dL_law_1055 : decode cL_law 1055 = .ok (.iadd, 1) := kd_dk0 kd_o96 kd_ncL_law rfl
theorem dL_law_1056 : decode cL_law 1056 = .ok (.iaload, 1) := kd_dk0 kd_o46 kd_ncL_law rfl
theorem dL_law_1057 : decode cL_law 1057 = .ok (.invokevirtual 148, 3) := kd_dk2 kd_o182 kd_ncL_law rfl
theorem dL_law_1060 : decode cL_law 1060 = .ok (.pop, 1) := kd_dk0 kd_o87 kd_ncL_law rfl
theorem dL_law_1061 : decode cL_law 1061 = .ok (.goto 276, 3) := kd_dj2 kd_o167 (w := 276) kd_ncL_law rfl rfl
theorem dL_law_1064 : decode cL_law 1064 = .ok (.aload_n 1, 1) := kd_dk0 kd_o43 kd_ncL_law rfl
theorem dL_law_1065 : decode cL_law 1065 = .ok (.aload_n 0, 1) := kd_dk0 kd_o42 kd_ncL_law rfl
theorem dL_law_1066 : decode cL_law 1066 = .ok (.iload_n 3, 1) := kd_dk0 kd_o29 kd_ncL_law rfl
theorem dL_law_1067 : decode cL_law 1067 = .ok (.iconst 1, 1) := kd_dk0 kd_o4 kd_ncL_law rfl
theorem dL_law_1068 : decode cL_law 1068 = .ok (.iadd, 1) := kd_dk0 kd_o96 kd_ncL_law rfl
theorem dL_law_1069 : decode cL_law 1069 = .ok (.iaload, 1) := kd_dk0 kd_o46 kd_ncL_law rfl
theorem dL_law_1070 : decode cL_law 1070 = .ok (.aload_n 0, 1) := kd_dk0 kd_o42 kd_ncL_law rfl
theorem dL_law_1071 : decode cL_law 1071 = .ok (.iload_n 3, 1) := kd_dk0 kd_o29 kd_ncL_law rfl
theorem dL_law_1072 : decode cL_law 1072 = .ok (.iconst 2, 1) := kd_dk0 kd_o5 kd_ncL_law rfl
theorem dL_law_1073 : decode cL_law 1073 = .ok (.iadd, 1) := kd_dk0 kd_o96 kd_ncL_law rfl
theorem dL_law_1074 : decode cL_law 1074 = .ok (.iaload, 1) := kd_dk0 kd_o46 kd_ncL_law rfl
theorem dL_law_1075 : decode cL_law 1075 = .ok (.invokevirtual 149, 3) := kd_dk2 kd_o182 kd_ncL_law rfl
theorem dL_law_1078 : decode cL_law 1078 = .ok (.pop, 1) := kd_dk0 kd_o87 kd_ncL_law rfl
theorem dL_law_1079 : decode cL_law 1079 = .ok (.aload_n 2, 1) := kd_dk0 kd_o44 kd_ncL_law rfl
theorem dL_law_1080 : decode cL_law 1080 = .ok (.aload_n 0, 1) := kd_dk0 kd_o42 kd_ncL_law rfl
theorem dL_law_1081 : decode cL_law 1081 = .ok (.iload_n 3, 1) := kd_dk0 kd_o29 kd_ncL_law rfl
theorem dL_law_1082 : decode cL_law 1082 = .ok (.iconst 1, 1) := kd_dk0 kd_o4 kd_ncL_law rfl
theorem dL_law_1083 : decode cL_law 1083 = .ok (.iadd, 1) := kd_dk0 kd_o96 kd_ncL_law rfl
theorem dL_law_1084 : decode cL_law 1084 = .ok (.iaload, 1) := kd_dk0 kd_o46 kd_ncL_law rfl
theorem dL_law_1085 : decode cL_law 1085 = .ok (.aload_n 0, 1) := kd_dk0 kd_o42 kd_ncL_law rfl
theorem dL_law_1086 : decode cL_law 1086 = .ok (.iload_n 3, 1) := kd_dk0 kd_o29 kd_ncL_law rfl
theorem dL_law_1087 : decode cL_law 1087 = .ok (.iconst 2, 1) := kd_dk0 kd_o5 kd_ncL_law rfl
theorem dL_law_1088 : decode cL_law 1088 = .ok (.iadd, 1) := kd_dk0 kd_o96 kd_ncL_law rfl
theorem dL_law_1089 : decode cL_law 1089 = .ok (.iaload, 1) := kd_dk0 kd_o46 kd_ncL_law rfl
theorem dL_law_1090 : decode cL_law 1090 = .ok (.invokevirtual 152, 3) := kd_dk2 kd_o182 kd_ncL_law rfl
theorem dL_law_1093 : decode cL_law 1093 = .ok (.pop, 1) := kd_dk0 kd_o87 kd_ncL_law rfl
theorem dL_law_1094 : decode cL_law 1094 = .ok (.goto 243, 3) := kd_dj2 kd_o167 (w := 243) kd_ncL_law rfl rfl
theorem dL_law_1097 : decode cL_law 1097 = .ok (.aload_n 1, 1) := kd_dk0 kd_o43 kd_ncL_law rfl
theorem dL_law_1098 : decode cL_law 1098 = .ok (.aload_n 0, 1) := kd_dk0 kd_o42 kd_ncL_law rfl
theorem dL_law_1099 : decode cL_law 1099 = .ok (.iload_n 3, 1) := kd_dk0 kd_o29 kd_ncL_law rfl
theorem dL_law_1100 : decode cL_law 1100 = .ok (.iconst 1, 1) := kd_dk0 kd_o4 kd_ncL_law rfl
theorem dL_law_1101 : decode cL_law 1101 = .ok (.iadd, 1) := kd_dk0 kd_o96 kd_ncL_law rfl
theorem dL_law_1102 : decode cL_law 1102 = .ok (.iaload, 1) := kd_dk0 kd_o46 kd_ncL_law rfl
theorem dL_law_1103 : decode cL_law 1103 = .ok (.aload_n 0, 1) := kd_dk0 kd_o42 kd_ncL_law rfl
theorem dL_law_1104 : decode cL_law 1104 = .ok (.iload_n 3, 1) := kd_dk0 kd_o29 kd_ncL_law rfl
theorem dL_law_1105 : decode cL_law 1105 = .ok (.iconst 2, 1) := kd_dk0 kd_o5 kd_ncL_law rfl
theorem dL_law_1106 : decode cL_law 1106 = .ok (.iadd, 1) := kd_dk0 kd_o96 kd_ncL_law rfl
theorem dL_law_1107 : decode cL_law 1107 = .ok (.iaload, 1) := kd_dk0 kd_o46 kd_ncL_law rfl
theorem dL_law_1108 : decode cL_law 1108 = .ok (.invokevirtual 153, 3) := kd_dk2 kd_o182 kd_ncL_law rfl
theorem dL_law_1111 : decode cL_law 1111 = .ok (.pop, 1) := kd_dk0 kd_o87 kd_ncL_law rfl
theorem dL_law_1112 : decode cL_law 1112 = .ok (.aload_n 2, 1) := kd_dk0 kd_o44 kd_ncL_law rfl
theorem dL_law_1113 : decode cL_law 1113 = .ok (.aload_n 0, 1) := kd_dk0 kd_o42 kd_ncL_law rfl
theorem dL_law_1114 : decode cL_law 1114 = .ok (.iload_n 3, 1) := kd_dk0 kd_o29 kd_ncL_law rfl
theorem dL_law_1115 : decode cL_law 1115 = .ok (.iconst 1, 1) := kd_dk0 kd_o4 kd_ncL_law rfl
theorem dL_law_1116 : decode cL_law 1116 = .ok (.iadd, 1) := kd_dk0 kd_o96 kd_ncL_law rfl
theorem dL_law_1117 : decode cL_law 1117 = .ok (.iaload, 1) := kd_dk0 kd_o46 kd_ncL_law rfl
theorem dL_law_1118 : decode cL_law 1118 = .ok (.aload_n 0, 1) := kd_dk0 kd_o42 kd_ncL_law rfl
theorem dL_law_1119 : decode cL_law 1119 = .ok (.iload_n 3, 1) := kd_dk0 kd_o29 kd_ncL_law rfl
theorem dL_law_1120 : decode cL_law 1120 = .ok (.iconst 2, 1) := kd_dk0 kd_o5 kd_ncL_law rfl
theorem dL_law_1121 : decode cL_law 1121 = .ok (.iadd, 1) := kd_dk0 kd_o96 kd_ncL_law rfl
theorem dL_law_1122 : decode cL_law 1122 = .ok (.iaload, 1) := kd_dk0 kd_o46 kd_ncL_law rfl
theorem dL_law_1123 : decode cL_law 1123 = .ok (.invokevirtual 156, 3) := kd_dk2 kd_o182 kd_ncL_law rfl
theorem dL_law_1126 : decode cL_law 1126 = .ok (.pop, 1) := kd_dk0 kd_o87 kd_ncL_law rfl
theorem dL_law_1127 : decode cL_law 1127 = .ok (.goto 210, 3) := kd_dj2 kd_o167 (w := 210) kd_ncL_law rfl rfl
theorem dL_law_1130 : decode cL_law 1130 = .ok (.aload_n 1, 1) := kd_dk0 kd_o43 kd_ncL_law rfl
theorem dL_law_1131 : decode cL_law 1131 = .ok (.aload_n 0, 1) := kd_dk0 kd_o42 kd_ncL_law rfl
theorem dL_law_1132 : decode cL_law 1132 = .ok (.iload_n 3, 1) := kd_dk0 kd_o29 kd_ncL_law rfl
theorem dL_law_1133 : decode cL_law 1133 = .ok (.iconst 1, 1) := kd_dk0 kd_o4 kd_ncL_law rfl
theorem dL_law_1134 : decode cL_law 1134 = .ok (.iadd, 1) := kd_dk0 kd_o96 kd_ncL_law rfl
theorem dL_law_1135 : decode cL_law 1135 = .ok (.iaload, 1) := kd_dk0 kd_o46 kd_ncL_law rfl
theorem dL_law_1136 : decode cL_law 1136 = .ok (.aload_n 0, 1) := kd_dk0 kd_o42 kd_ncL_law rfl
theorem dL_law_1137 : decode cL_law 1137 = .ok (.iload_n 3, 1) := kd_dk0 kd_o29 kd_ncL_law rfl
theorem dL_law_1138 : decode cL_law 1138 = .ok (.iconst 2, 1) := kd_dk0 kd_o5 kd_ncL_law rfl
theorem dL_law_1139 : decode cL_law 1139 = .ok (.iadd, 1) := kd_dk0 kd_o96 kd_ncL_law rfl
theorem dL_law_1140 : decode cL_law 1140 = .ok (.iaload, 1) := kd_dk0 kd_o46 kd_ncL_law rfl
theorem dL_law_1141 : decode cL_law 1141 = .ok (.aload_n 0, 1) := kd_dk0 kd_o42 kd_ncL_law rfl
theorem dL_law_1142 : decode cL_law 1142 = .ok (.iload_n 3, 1) := kd_dk0 kd_o29 kd_ncL_law rfl
theorem dL_law_1143 : decode cL_law 1143 = .ok (.iconst 3, 1) := kd_dk0 kd_o6 kd_ncL_law rfl
theorem dL_law_1144 : decode cL_law 1144 = .ok (.iadd, 1) := kd_dk0 kd_o96 kd_ncL_law rfl
theorem dL_law_1145 : decode cL_law 1145 = .ok (.iaload, 1) := kd_dk0 kd_o46 kd_ncL_law rfl
theorem dL_law_1146 : decode cL_law 1146 = .ok (.ifCond .eq 7, 3) := kd_dj2 kd_o153 (w := 7) kd_ncL_law rfl rfl
theorem dL_law_1149 : decode cL_law 1149 = .ok (.iconst 1, 1) := kd_dk0 kd_o4 kd_ncL_law rfl
theorem dL_law_1150 : decode cL_law 1150 = .ok (.goto 4, 3) := kd_dj2 kd_o167 (w := 4) kd_ncL_law rfl rfl
theorem dL_law_1153 : decode cL_law 1153 = .ok (.iconst 0, 1) := kd_dk0 kd_o3 kd_ncL_law rfl
theorem dL_law_1154 : decode cL_law 1154 = .ok (.invokevirtual 157, 3) := kd_dk2 kd_o182 kd_ncL_law rfl
theorem dL_law_1157 : decode cL_law 1157 = .ok (.pop, 1) := kd_dk0 kd_o87 kd_ncL_law rfl
end zzm64
