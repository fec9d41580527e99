section zzm57
theorem zz_hCa {ws pl wc : va_W} {is : List Nat} (h : is.map (fun i => ws[i]?) = wc.map some) : is.map (fun i => (ws ++ pl)[i]?) = wc.map some := by
  induction is generalizing wc with
  | nil => exact h
  | cons i is ih =>
    cases wc with
    | nil => simp at h
    | cons a t =>
      simp only [List.map_cons, List.cons.injEq] at h ⊢
      refine ⟨?_, ih h.2⟩
      rw [List.getElem?_append_left (List.getElem?_eq_some_iff.mp h.1).1]
      exact h.1
section ZQR
variable {p : Program} {l : Launch} {e : Env} {R : Room} {s : State} {m : MethodId} {args : Array Value} {below : List Frame} {meth : Method} {c : Code} {H : Heap} {locs : List Loc} {cells slots : Nat} {Q : State → Prop}
variable {cc : ByteArray} {pc : Nat} {ls : Array Slot} {rest : List Value} {G : zz_G} {K : zz_K} {A : Nat → Prop} {a : Nat} {ws ws' pl : va_W} {nL : Nat} {own : String} {index : Nat}
theorem zz_w.swap {x y z : va_W} (h : zz_w G A s ((x ++ y) ++ z) H locs) : zz_w G A s ((x ++ z) ++ y) H locs := ⟨h.1, h.2.1.swap, h.2.2.1.swap, h.2.2.2⟩
theorem zz_w.part {x y : va_W} (h : zz_w G A s (x ++ pl) H locs) (is : List Nat) (hn : va_nd is = true) (hs : is.map (fun i => x[i]?) = y.map some) : zz_w G A s (y ++ pl) H locs := ⟨h.1, h.2.1.part is hs, h.2.2.1.part is hn hs, h.2.2.2⟩
theorem zz_goQ {mc ms : Nat} {st0 : List Value} {av : Array Value} {wc wr : va_W} {post : Option Value → va_W → Prop} (hr : va_Run p l e R s m args below meth c H locs cells slots mc ms (F0 m pc ls st0) rest (zz_Q G wc H.size post av) (va_A wc H.size)) (hw : zz_w G A s (ws ++ pl) H locs) (isC isR : List Nat) (hC : isC.map (fun i => ws[i]?) = wc.map some) (hR : isR.map (fun i => ws[i]?) = wr.map some) (hn : va_nd isR = true) (hdis : ∀ i ∈ isR, i ∉ isC)
    (kk : ∀ (r : Option Value) (u : va_W) (H1 : Heap) (locs1 : List Loc), post r u → zz_w G A s ((wr ++ u) ++ pl) H1 locs1 → W p l e R s m args below meth c H1 locs1 (cells + mc) (slots + ms) Q (F0 m (pc + 3) ls (r.toList ++ rest))) : W p l e R s m args below meth c H locs cells slots Q (F0 m pc ls st0) := by
  obtain ⟨hK, hP, hD, hS, hA, hN⟩ := hw
  have hF := va_free (wc := wc) hD hS hA isC (zz_hCa hC)
  intro T hT X
  obtain ⟨v, st₀, t, T', L, h0, X', hL, e1, e2, ⟨⟨r, u, hv, hp, hP1, hK1, hD1⟩, hz, hk⟩, st⟩ := hr T hT X
  cases hv
  rw [h0] at hz hk
  obtain ⟨hP2, hD2⟩ := va_joinQ (wr := wr) (w1 := u) hP hD isC isR hC hR hn hdis hk hF hP1 hD1
  obtain ⟨t2, a1, b1⟩ := kk _ u T'.heap (locs ++ L) hp
    ⟨hK, by rw [e1]; exact hP2, hD2, ⟨Nat.le_trans hS.1 (by rw [e1]; exact hz), fun q h1 h2 => by rw [e1, hk q (Nat.lt_of_lt_of_le h1 hS.1) (fun z => h2 (hF q z))]; exact hS.2.1 q h1 h2, fun q hq => by
      rcases List.mem_append.mp hq with h | h
      · exact hS.2.2 q h
      · exact hF _ (hL q h)⟩, hA, hN⟩ T' rfl X'
  exact ⟨t2, st t2 a1, b1⟩
theorem zz_callVQ {Y : zz_Y} {n d mc ms ci qb b : Nat} {As st0 : List Value} {wc wr : va_W} {post : Option Value → va_W → Prop} {fs : List Value} (S : CallFix p m c cc nL s args zz_T own) (hw : zz_w G A s (ws ++ pl) H locs) (hl : ls.size = nL) (lk : zz_LV own index Y n) (ct : zz_M l G Y d mc ms (.ref b :: As) wc post) (hRm : d + 1 ≤ R.frames ∧ 8 + (Y.2.2.1 + 11) + 40 * d ≤ R.locals) (hf : cells + mc ≤ R.cells ∧ slots + ms ≤ R.slots) (isC isR : List Nat) (hnC : va_nd isC = true) (hC : isC.map (fun i => ws[i]?) = wc.map some) (hR : isR.map (fun i => ws[i]?) = wr.map some) (hn : va_nd isR = true) (hdis : ∀ i ∈ isR, i ∉ isC) (hqb : (ws ++ pl)[qb]? = some (b, .inr (ci, fs))) (hci : (zz_cl[ci]?).map (fun q => q.1) = some Y.1.cls) (hA : As.length = n) (hst : st0 = As.reverse ++ .ref b :: rest) (hW : (rest.map fun v => v.category).sum ≤ 8) (hdg : decode cc pc = .ok (.invokevirtual index, 3))
    (kk : ∀ (r : Option Value) (u : va_W) (H1 : Heap) (locs1 : List Loc), post r u → zz_w G A s ((wr ++ u) ++ pl) H1 locs1 → W p l e R s m args below meth c H1 locs1 (cells + mc) (slots + ms) Q (F0 m (pc + 3) ls (r.toList ++ rest))) : W p l e R s m args below meth c H locs cells slots Q (F0 m pc ls st0) := by
  obtain ⟨hlk, hin, hsel, hini, hcode, hy1, hy2, hpar⟩ := lk
  have hts := S.2.2.2.2
  have hrecv : ∃ cell : Cell, H[b]? = some cell ∧ cell.vm.isStatics = false ∧ s.vm.findClass Y.1.cls = some cell.cls := by
    cases hq : zz_cl[ci]? with
    | none => rw [hq] at hci; cases hci
    | some q =>
      rw [hq] at hci
      have e : q.1 = Y.1.cls := Option.some.inj hci
      rw [← e]
      exact va_recv hw.1 hw.2.1 hq hqb
  refine zz_goQ (rest := rest) (av := (Value.ref b :: As).toArray) ?_ hw isC isR hC hR hn hdis kk
  rcases hlk with hlk | ⟨host, hlk⟩
  · exact va_runV (n := n) S (ct H.size) ⟨callB_of n hts (zz_good hcode) rfl rfl rfl (hts _ hini) (hts _ hlk) ⟨hy1, hy2, hpar⟩ hRm, hts _ hin, hts _ hsel⟩ ⟨zz_Pre.blind, hrecv, zz_pre hw isC hnC (zz_hCa hC)⟩ rfl hA hl hst (by show 2 * 0 + _ ≤ _; omega) hdg hf
  · exact va_runVN (n := n) (host := host) (C := Y.1.cls) S (ct H.size) ⟨va_cnB n hts (zz_good hcode) rfl rfl rfl (hw.2.2.2.2.2.1 _ hlk) (hts _ hini) ⟨hy1, hy2, hpar⟩ hRm, hts _ hin, hts _ hsel⟩ ⟨zz_Pre.blind, hrecv, zz_pre hw isC hnC (zz_hCa hC)⟩ rfl hA hl hst (by show 2 * 0 + _ ≤ _; omega) hdg hf
theorem zz_callIQ {y : MethodName} {bytes : ByteArray} {mL n d mc ms b : Nat} {As st0 : List Value} {wc wr : va_W} {post : Option Value → va_W → Prop} (S : CallFix p m c cc nL s args zz_T own) (hw : zz_w G A s (ws ++ pl) H locs) (hl : ls.size = nL) (lk : zz_LI own index (y, bytes, mL, none) n) (ct : zz_M l G (y, bytes, mL, none) d mc ms (.ref b :: As) wc post) (hRm : d + 1 ≤ R.frames ∧ 8 + (mL + 11) + 40 * d ≤ R.locals) (hf : cells + mc ≤ R.cells ∧ slots + ms ≤ R.slots) (isC isR : List Nat) (hnC : va_nd isC = true) (hC : isC.map (fun i => ws[i]?) = wc.map some) (hR : isR.map (fun i => ws[i]?) = wr.map some) (hn : va_nd isR = true) (hdis : ∀ i ∈ isR, i ∉ isC) (hA : As.length = n) (hst : st0 = As.reverse ++ .ref b :: rest) (hW : (rest.map fun v => v.category).sum ≤ 8) (hdg : decode cc pc = .ok (.invokespecial index, 3))
    (kk : ∀ (r : Option Value) (u : va_W) (H1 : Heap) (locs1 : List Loc), post r u → zz_w G A s ((wr ++ u) ++ pl) H1 locs1 → W p l e R s m args below meth c H1 locs1 (cells + mc) (slots + ms) Q (F0 m (pc + 3) ls (r.toList ++ rest))) : W p l e R s m args below meth c H locs cells slots Q (F0 m pc ls st0) := by
  obtain ⟨hlk, hin, hnm, hini, hcode, hy1, hy2, hpar⟩ := lk
  have hts := S.2.2.2.2
  refine zz_goQ (rest := rest) (av := (Value.ref b :: As).toArray) ?_ hw isC isR hC hR hn hdis kk
  rcases hlk with hlk | ⟨host, hlk⟩
  · exact va_runI (n := n) S (ct H.size) ⟨callB_of n hts (zz_good hcode) rfl rfl rfl (hts _ hini) (hts _ hlk) ⟨hy1, hy2, hpar⟩ hRm, hnm, hts _ hin⟩ ⟨zz_Pre.blind, zz_pre hw isC hnC (zz_hCa hC)⟩ rfl hA hl hst (by show 2 * 0 + _ ≤ _; omega) hdg hf
  · exact va_runIN (n := n) (host := host) S (ct H.size) ⟨va_cnB n hts (zz_good hcode) rfl rfl rfl (hw.2.2.2.2.2.1 _ hlk) (hts _ hini) ⟨hy1, hy2, hpar⟩ hRm, hnm, hts _ hin⟩ ⟨zz_Pre.blind, zz_pre hw isC hnC (zz_hCa hC)⟩ rfl hA hl hst (by show 2 * 0 + _ ≤ _; omega) hdg hf
theorem zz_callSQ {Y : zz_Y} {n d mc ms : Nat} {As st0 : List Value} {wc wr : va_W} {post : Option Value → va_W → Prop} (S : CallFix p m c cc nL s args zz_T own) (hw : zz_w G A s (ws ++ pl) H locs) (hl : ls.size = nL) (lk : zz_LS own index Y n) (ct : zz_M l G Y d mc ms As wc post) (hRm : d + 1 ≤ R.frames ∧ 8 + (Y.2.2.1 + 11) + 40 * d ≤ R.locals) (hf : cells + mc ≤ R.cells ∧ slots + ms ≤ R.slots) (isC isR : List Nat) (hnC : va_nd isC = true) (hC : isC.map (fun i => ws[i]?) = wc.map some) (hR : isR.map (fun i => ws[i]?) = wr.map some) (hn : va_nd isR = true) (hdis : ∀ i ∈ isR, i ∉ isC) (hA : As.length = n) (hst : st0 = As.reverse ++ rest) (hW : (rest.map fun v => v.category).sum ≤ 8) (hdg : decode cc pc = .ok (.invokestatic index, 3))
    (kk : ∀ (r : Option Value) (u : va_W) (H1 : Heap) (locs1 : List Loc), post r u → zz_w G A s ((wr ++ u) ++ pl) H1 locs1 → W p l e R s m args below meth c H1 locs1 (cells + mc) (slots + ms) Q (F0 m (pc + 3) ls (r.toList ++ rest))) : W p l e R s m args below meth c H locs cells slots Q (F0 m pc ls st0) := by
  obtain ⟨hlk, hstt, hini, hcode, hy1, hy2, hpar⟩ := lk
  have hts := S.2.2.2.2
  refine zz_goQ (rest := rest) (av := As.toArray) ?_ hw isC isR hC hR hn hdis kk
  rcases hlk with hlk | ⟨host, hlk⟩
  · exact va_runS (n := n) S (ct H.size) ⟨callB_of n hts (zz_good hcode) rfl rfl rfl (hts _ hini) (hts _ hlk) ⟨hy1, hy2, hpar⟩ hRm, hts _ hstt⟩ ⟨zz_Pre.blind, zz_pre hw isC hnC (zz_hCa hC)⟩ rfl hA hl hst (by show 2 * 0 + _ ≤ _; omega) hdg hf
  · exact va_runSN (n := n) (host := host) S (ct H.size) ⟨va_cnB n hts (zz_good hcode) rfl rfl rfl (hw.2.2.2.2.2.1 _ hlk) (hts _ hini) ⟨hy1, hy2, hpar⟩ hRm, hts _ hstt, trivial⟩ ⟨zz_Pre.blind, zz_pre hw isC hnC (zz_hCa hC)⟩ rfl hA hl hst (by show 2 * 0 + _ ≤ _; omega) hdg hf
theorem zz_callVsQ {Y : zz_Y} {n d mc ms ci qb b : Nat} {As st0 : List Value} {wc wr : va_W} {post : Option Value → va_W → Prop} {fs : List Value} (S : CallFix p m c cc nL s args zz_T own) (hs : zz_SF K A s s.heap) (hw : zz_w G A s (ws ++ pl) H locs) (hl : ls.size = nL) (lk : zz_LV own index Y n) (ct : zz_MS l G K Y d mc ms (.ref b :: As) wc post) (hRm : d + 1 ≤ R.frames ∧ 8 + (Y.2.2.1 + 11) + 40 * d ≤ R.locals) (hf : cells + mc ≤ R.cells ∧ slots + ms ≤ R.slots) (isC isR : List Nat) (hnC : va_nd isC = true) (hC : isC.map (fun i => ws[i]?) = wc.map some) (hR : isR.map (fun i => ws[i]?) = wr.map some) (hn : va_nd isR = true) (hdis : ∀ i ∈ isR, i ∉ isC) (hqb : (ws ++ pl)[qb]? = some (b, .inr (ci, fs))) (hci : (zz_cl[ci]?).map (fun q => q.1) = some Y.1.cls) (hA : As.length = n) (hst : st0 = As.reverse ++ .ref b :: rest) (hW : (rest.map fun v => v.category).sum ≤ 8) (hdg : decode cc pc = .ok (.invokevirtual index, 3))
    (kk : ∀ (r : Option Value) (u : va_W) (H1 : Heap) (locs1 : List Loc), post r u → zz_w G A s ((wr ++ u) ++ pl) H1 locs1 → W p l e R s m args below meth c H1 locs1 (cells + mc) (slots + ms) Q (F0 m (pc + 3) ls (r.toList ++ rest))) : W p l e R s m args below meth c H locs cells slots Q (F0 m pc ls st0) := by
  obtain ⟨hlk, hin, hsel, hini, hcode, hy1, hy2, hpar⟩ := lk
  have hts := S.2.2.2.2
  have hrecv : ∃ cell : Cell, H[b]? = some cell ∧ cell.vm.isStatics = false ∧ s.vm.findClass Y.1.cls = some cell.cls := by
    cases hq : zz_cl[ci]? with
    | none => rw [hq] at hci; cases hci
    | some q =>
      rw [hq] at hci
      have e : q.1 = Y.1.cls := Option.some.inj hci
      rw [← e]
      exact va_recv hw.1 hw.2.1 hq hqb
  refine zz_goQ (rest := rest) (av := (Value.ref b :: As).toArray) ?_ hw isC isR hC hR hn hdis kk
  rcases hlk with hlk | ⟨host, hlk⟩
  · exact va_runV (n := n) S (ct H.size) ⟨callB_of n hts (zz_good hcode) rfl rfl rfl (hts _ hini) (hts _ hlk) ⟨hy1, hy2, hpar⟩ hRm, hts _ hin, hts _ hsel⟩ ⟨zz_SPre.blind, hrecv, zz_Spre hs hw isC hnC (zz_hCa hC)⟩ rfl hA hl hst (by show 2 * 0 + _ ≤ _; omega) hdg hf
  · exact va_runVN (n := n) (host := host) (C := Y.1.cls) S (ct H.size) ⟨va_cnB n hts (zz_good hcode) rfl rfl rfl (hw.2.2.2.2.2.1 _ hlk) (hts _ hini) ⟨hy1, hy2, hpar⟩ hRm, hts _ hin, hts _ hsel⟩ ⟨zz_SPre.blind, hrecv, zz_Spre hs hw isC hnC (zz_hCa hC)⟩ rfl hA hl hst (by show 2 * 0 + _ ≤ _; omega) hdg hf
end ZQR
def zz_bv {α : Type} (m : Nat) (f g : Nat → α) : Nat → α := fun k => cond (Nat.ble k m) (f k) (g k)

def zz_fu {α : Type} (f : Nat → α) : List (Nat × α) → Nat → α
  | [], k => f k
  | (j, x) :: t, k => if j = k then x else zz_fu f t k
/-- a State of the past: its addresses, its arrays, its numbers -/
abbrev zz_sx : Type := (Nat → Nat) × (Nat → Nat → Int32) × (Nat → Int32)
def zz_stc (G : zz_G) (x : zz_sx) : va_W := [((x.1 0), .inr (6, [.ref (x.1 1), .ref (x.1 2), .ref (x.1 3), .ref (x.1 4), .int (x.2.2 1), .int (x.2.2 2), .int (x.2.2 3)])), ((x.1 1), .inl (G.2 0, 7, .inl (x.2.1 1))), ((x.1 2), .inl (G.2 0, 6, .inl (x.2.1 2))), ((x.1 3), .inl (G.2 0, 7, .inl (x.2.1 3))), ((x.1 4), .inl (G.2 0, 42, .inl (x.2.1 4)))]
def zz_PL (G : zz_G) (L : List zz_sx) : va_W := L.flatMap (zz_stc G)
theorem zz_PL_cons {G : zz_G} {x : zz_sx} {L : List zz_sx} : zz_PL G (x :: L) = zz_stc G x ++ zz_PL G L := rfl
theorem zz_PL_app {G : zz_G} {L M : List zz_sx} : zz_PL G (L ++ M) = zz_PL G L ++ zz_PL G M := List.flatMap_append
def zz_pok (pf : Nat → Option Nat) (L : List zz_sx) : Prop := ∀ j, j < L.length → ∃ x, L[j]? = some x ∧ pf j = some (x.1 0)
def zz_CW (G : zz_G) (a : Nat → Nat) (f : Nat → Nat → Int32) (g : Nat → Nat → Int64) (z : Nat → Int32) (n : Nat → Nat) (pf : Nat → Option Nat) : va_W := [((a 0), .inr (9, [.ref (a 1), .int (nI (n 0)), .ref (a 2), .int (z 0), .ref (a 10), .ref (a 20), .ref (a 50), .ref (a 55), .ref (a 60), .ref (a 63), .ref (a 67), .ref (a 74), .ref (a 78), .ref (a 95)])), ((a 1), .inl (G.2 1, 2000, .inl (f 1))), ((a 2), .inr (4, [.ref (a 3), .ref (a 8), .int (nI (n 1)), .int (nI (n 2)), .int (z 1), .int (z 2), .int (z 3), .int (z 4)])), ((a 3), .inr (7, [.ref (a 4), .ref (a 5), .ref (a 6), .ref (a 7)])), ((a 4), .inl (G.2 0, 401, .inl (f 4))), ((a 5), .inl (G.2 0, 401, .inl (f 5))), ((a 6), .inl (G.2 0, 401, .inl (f 6))), ((a 7), .inl (G.2 3, 401, .inr (.inl (g 7)))), ((a 8), .inl (G.2 0, 32, .inl (f 8))), ((a 10), .inr (5, [.ref (a 11), .ref (a 12), .ref (a 13), .ref (a 14), .ref (a 15), .ref (a 16), .ref (a 17), .ref (a 18), .ref (a 19), .int (nI (n 3)), .int (nI (n 4)), .int (z 5), .int (z 6)])), ((a 11), .inl (G.2 3, 13, .inr (.inl (g 11)))), ((a 12), .inl (G.2 0, 7, .inl (f 12))), ((a 13), .inl (G.2 0, 7, .inl (f 13))), ((a 14), .inl (G.2 0, 7, .inl (f 14))), ((a 15), .inl (G.2 0, 6, .inl (f 15))), ((a 16), .inl (G.2 0, 6, .inl (f 16))), ((a 17), .inl (G.2 0, 6, .inl (f 17))), ((a 18), .inl (G.2 4, 4, .inr (.inr (.inr (.inr (va_up (va_up (va_up (va_up (fun _ => none) 0 (some (a 100))) 1 (some (a 104))) 2 (some (a 108))) 3 (some (a 112)))))))), ((a 19), .inl (G.2 0, 9, .inl (f 19))), ((a 100), .inr (2, [.ref (a 101), .ref (a 102), .ref (a 103), .int (nI (n 10)), .int (nI (n 11))])), ((a 101), .inl (G.2 0, 400, .inl (f 101))), ((a 102), .inl (G.2 0, 14, .inl (f 102))), ((a 103), .inl (G.2 0, 32, .inl (f 103))), ((a 104), .inr (2, [.ref (a 105), .ref (a 106), .ref (a 107), .int (nI (n 12)), .int (nI (n 13))])), ((a 105), .inl (G.2 0, 400, .inl (f 105))), ((a 106), .inl (G.2 0, 14, .inl (f 106))), ((a 107), .inl (G.2 0, 32, .inl (f 107))), ((a 108), .inr (2, [.ref (a 109), .ref (a 110), .ref (a 111), .int (nI (n 14)), .int (nI (n 15))])), ((a 109), .inl (G.2 0, 400, .inl (f 109))), ((a 110), .inl (G.2 0, 14, .inl (f 110))), ((a 111), .inl (G.2 0, 32, .inl (f 111))), ((a 112), .inr (2, [.ref (a 113), .ref (a 114), .ref (a 115), .int (nI (n 16)), .int (nI (n 17))])), ((a 113), .inl (G.2 0, 400, .inl (f 113))), ((a 114), .inl (G.2 0, 14, .inl (f 114))), ((a 115), .inl (G.2 0, 32, .inl (f 115))), ((a 20), .inr (5, [.ref (a 21), .ref (a 22), .ref (a 23), .ref (a 24), .ref (a 25), .ref (a 26), .ref (a 27), .ref (a 28), .ref (a 29), .int (nI (n 5)), .int (nI (n 6)), .int (z 7), .int (z 8)])), ((a 21), .inl (G.2 3, 13, .inr (.inl (g 21)))), ((a 22), .inl (G.2 0, 7, .inl (f 22))), ((a 23), .inl (G.2 0, 7, .inl (f 23))), ((a 24), .inl (G.2 0, 7, .inl (f 24))), ((a 25), .inl (G.2 0, 6, .inl (f 25))), ((a 26), .inl (G.2 0, 6, .inl (f 26))), ((a 27), .inl (G.2 0, 6, .inl (f 27))), ((a 28), .inl (G.2 4, 4, .inr (.inr (.inr (.inr (va_up (va_up (va_up (va_up (fun _ => none) 0 (some (a 30))) 1 (some (a 34))) 2 (some (a 38))) 3 (some (a 42)))))))), ((a 29), .inl (G.2 0, 9, .inl (f 29))), ((a 30), .inr (2, [.ref (a 31), .ref (a 32), .ref (a 33), .int (nI (n 20)), .int (nI (n 21))])), ((a 31), .inl (G.2 0, 400, .inl (f 31))), ((a 32), .inl (G.2 0, 14, .inl (f 32))), ((a 33), .inl (G.2 0, 32, .inl (f 33))), ((a 34), .inr (2, [.ref (a 35), .ref (a 36), .ref (a 37), .int (nI (n 22)), .int (nI (n 23))])), ((a 35), .inl (G.2 0, 400, .inl (f 35))), ((a 36), .inl (G.2 0, 14, .inl (f 36))), ((a 37), .inl (G.2 0, 32, .inl (f 37))), ((a 38), .inr (2, [.ref (a 39), .ref (a 40), .ref (a 41), .int (nI (n 24)), .int (nI (n 25))])), ((a 39), .inl (G.2 0, 400, .inl (f 39))), ((a 40), .inl (G.2 0, 14, .inl (f 40))), ((a 41), .inl (G.2 0, 32, .inl (f 41))), ((a 42), .inr (2, [.ref (a 43), .ref (a 44), .ref (a 45), .int (nI (n 26)), .int (nI (n 27))])), ((a 43), .inl (G.2 0, 400, .inl (f 43))), ((a 44), .inl (G.2 0, 14, .inl (f 44))), ((a 45), .inl (G.2 0, 32, .inl (f 45))), ((a 50), .inr (6, [.ref (a 51), .ref (a 52), .ref (a 53), .ref (a 54), .int (z 10), .int (z 11), .int (z 12)])), ((a 51), .inl (G.2 0, 7, .inl (f 51))), ((a 52), .inl (G.2 0, 6, .inl (f 52))), ((a 53), .inl (G.2 0, 7, .inl (f 53))), ((a 54), .inl (G.2 0, 42, .inl (f 54))), ((a 55), .inr (6, [.ref (a 56), .ref (a 57), .ref (a 58), .ref (a 59), .int (z 13), .int (z 14), .int (z 15)])), ((a 56), .inl (G.2 0, 7, .inl (f 56))), ((a 57), .inl (G.2 0, 6, .inl (f 57))), ((a 58), .inl (G.2 0, 7, .inl (f 58))), ((a 59), .inl (G.2 0, 42, .inl (f 59))), ((a 60), .inr (0, [.ref (a 61), .ref (a 62), .int (z 16), .int (z 17)])), ((a 61), .inl (G.2 0, 6, .inl (f 61))), ((a 62), .inl (G.2 0, 7, .inl (f 62))), ((a 63), .inr (1, [.ref (a 64), .ref (a 65), .ref (a 66), .int (z 18), .int (z 19)])), ((a 64), .inl (G.2 0, 42, .inl (f 64))), ((a 65), .inl (G.2 0, 128, .inl (f 65))), ((a 66), .inl (G.2 0, 896, .inl (f 66))), ((a 67), .inr (3, [.ref (a 68), .int (nI (n 7)), .int (nI (n 8))])), ((a 68), .inl (G.2 5, 40, .inr (.inr (.inr (.inr pf))))), ((a 74), .inr (8, [.ref (a 75), .ref (a 76), .ref (a 77), .int (nI (n 9))])), ((a 75), .inl (G.2 0, 20, .inl (f 75))), ((a 76), .inl (G.2 0, 20, .inl (f 76))), ((a 77), .inl (G.2 2, 20, .inl (f 77))), ((a 78), .inl (G.2 5, 3, .inr (.inr (.inr (.inr (va_up (va_up (va_up (fun _ => none) 0 (some (a 80))) 1 (some (a 85))) 2 (some (a 90)))))))), ((a 80), .inr (6, [.ref (a 81), .ref (a 82), .ref (a 83), .ref (a 84), .int (z 20), .int (z 21), .int (z 22)])), ((a 81), .inl (G.2 0, 7, .inl (f 81))), ((a 82), .inl (G.2 0, 6, .inl (f 82))), ((a 83), .inl (G.2 0, 7, .inl (f 83))), ((a 84), .inl (G.2 0, 42, .inl (f 84))), ((a 85), .inr (6, [.ref (a 86), .ref (a 87), .ref (a 88), .ref (a 89), .int (z 23), .int (z 24), .int (z 25)])), ((a 86), .inl (G.2 0, 7, .inl (f 86))), ((a 87), .inl (G.2 0, 6, .inl (f 87))), ((a 88), .inl (G.2 0, 7, .inl (f 88))), ((a 89), .inl (G.2 0, 42, .inl (f 89))), ((a 90), .inr (6, [.ref (a 91), .ref (a 92), .ref (a 93), .ref (a 94), .int (z 26), .int (z 27), .int (z 28)])), ((a 91), .inl (G.2 0, 7, .inl (f 91))), ((a 92), .inl (G.2 0, 6, .inl (f 92))), ((a 93), .inl (G.2 0, 7, .inl (f 93))), ((a 94), .inl (G.2 0, 42, .inl (f 94))), ((a 95), .inl (G.2 2, 3, .inl (f 95)))]
def zz_CF (tl ua : Nat) (tb : Nat → Int32) (pv : Int32) (ob : zz_O) (wt : zy_T) (td : zz_D) (a : Nat → Nat) (f : Nat → Nat → Int32) (g : Nat → Nat → Int64) (z : Nat → Int32) (n : Nat → Nat) (pf : Nat → Option Nat) (L : List zz_sx) : Prop := (a 0 = ua) ∧ (n 0 = tl) ∧ (tl ≤ 2000) ∧ (n 1 ≤ 32) ∧ (n 2 ≤ 400) ∧ (∀ j, j < 401 → f 4 j = 3 → zz_nok (f 6 j)) ∧ (n 3 ≤ 7) ∧ (n 4 ≤ 6) ∧ (n 5 ≤ 7) ∧ (n 6 ≤ 6) ∧ (zz_lwv (f 101) (f 102) (n 10) (n 11)) ∧ (zz_lwv (f 105) (f 106) (n 12) (n 13)) ∧ (zz_lwv (f 109) (f 110) (n 14) (n 15)) ∧ (zz_lwv (f 113) (f 114) (n 16) (n 17)) ∧ (zz_lwv (f 31) (f 32) (n 20) (n 21)) ∧ (zz_lwv (f 35) (f 36) (n 22) (n 23)) ∧ (zz_lwv (f 39) (f 40) (n 24) (n 25)) ∧ (zz_lwv (f 43) (f 44) (n 26) (n 27)) ∧ (∀ j, j < 6 → zz_ok 7 (f 61 j)) ∧ (∀ j, j < 7 → zz_ok 6 (f 62 j)) ∧ (n 7 < 40) ∧ (n 8 ≤ 40) ∧ (n 9 ≤ 20) ∧ (∀ j, j < 20 → ∃ q : Nat, q < 6 ∧ f 75 j = nI q) ∧ (L.length = 40) ∧ (zz_pok pf L) ∧ ((fun k => f 1 k &&& 255) = tb) ∧ (z 0 = pv) ∧ (zz_oC ob (n 4) (n 9) (f 95)) ∧ (zq_C (f 12) (f 13) (f 14) (f 15) (f 16) (f 17) (n 3) (n 4) (z 5) (z 6) (f 101) (f 102) (n 10) (n 11) (f 105) (f 106) (n 12) (n 13) (f 109) (f 110) (n 14) (n 15) (f 113) (f 114) (n 16) (n 17) wt.1) ∧ (zy_RR wt.1 (f 51) (f 52) (f 53) (f 54) (z 10) (z 11) (z 12) wt.2.1) ∧ (zy_PC wt.1 (n 7) (n 8) L wt.2.2.1) ∧ (zy_SC wt.1 (f 95) (f 81) (f 82) (f 83) (f 84) (z 20) (z 21) (z 22) (f 86) (f 87) (f 88) (f 89) (z 23) (z 24) (z 25) (f 91) (f 92) (f 93) (f 94) (z 26) (z 27) (z 28) wt.2.2.2) ∧ (zz_tdE wt.1.2.1.length (n 9) (f 75) (f 76) (f 77) td)
def zz_CI (G : zz_G) (tl ua : Nat) (tb : Nat → Int32) (pv : Int32) (ob : zz_O) (wt : zy_T) (td : zz_D) (X : va_W) : Prop := ∃ (a : Nat → Nat) (f : Nat → Nat → Int32) (g : Nat → Nat → Int64) (z : Nat → Int32) (n : Nat → Nat) (pf : Nat → Option Nat) (L : List zz_sx), zz_CF tl ua tb pv ob wt td a f g z n pf L ∧ X = zz_CW G a f g z n pf ++ zz_PL G L
def zz_RW (G : zz_G) (r : Nat → Nat) (tl : Nat) (c : Nat → Nat → Int32) (cl : Nat → Nat → Int64) (j : Nat → Int32) (m : Nat → Nat) : va_W := [((r 0), .inr (10, (zz_mo r [(0, (j 0)), (2, (nI tl)), (4, (j 4)), (10, (j 10)), (11, (j 11)), (12, (j 12)), (13, (j 13)), (14, (j 14)), (15, (j 15)), (16, (j 16)), (17, (j 17)), (18, (nI (m 0))), (19, (j 19)), (20, (j 20)), (34, (j 34)), (40, (j 40)), (44, (j 44)), (47, (j 47)), (50, (j 50)), (51, (j 51)), (56, (nI (m 1))), (61, (nI (m 2)))]))), ((r 1), .inl (G.2 1, 2000, .inl (c 1))), ((r 3), .inl (G.2 1, 2000, .inl (c 3))), ((r 5), .inl (G.2 0, 403, .inl (c 5))), ((r 6), .inl (G.2 0, 403, .inl (c 6))), ((r 7), .inl (G.2 0, 403, .inl (c 7))), ((r 8), .inl (G.2 3, 403, .inr (.inl (cl 8)))), ((r 9), .inl (G.2 3, 20, .inr (.inl (cl 9)))), ((r 21), .inl (G.2 3, 13, .inr (.inl (cl 21)))), ((r 22), .inl (G.2 0, 2, .inl (c 22))), ((r 23), .inl (G.2 0, 14, .inl (c 23))), ((r 24), .inl (G.2 0, 14, .inl (c 24))), ((r 25), .inl (G.2 0, 14, .inl (c 25))), ((r 26), .inl (G.2 0, 2, .inl (c 26))), ((r 27), .inl (G.2 0, 12, .inl (c 27))), ((r 28), .inl (G.2 0, 12, .inl (c 28))), ((r 29), .inl (G.2 0, 12, .inl (c 29))), ((r 30), .inl (G.2 0, 2, .inl (c 30))), ((r 31), .inl (G.2 0, 2, .inl (c 31))), ((r 32), .inl (G.2 0, 8, .inl (c 32))), ((r 33), .inl (G.2 0, 8, .inl (c 33))), ((r 35), .inl (G.2 2, 260, .inl (c 35))), ((r 36), .inl (G.2 0, 260, .inl (c 36))), ((r 37), .inl (G.2 0, 260, .inl (c 37))), ((r 38), .inl (G.2 0, 260, .inl (c 38))), ((r 39), .inl (G.2 0, 260, .inl (c 39))), ((r 41), .inl (G.2 0, 840, .inl (c 41))), ((r 42), .inl (G.2 0, 840, .inl (c 42))), ((r 43), .inl (G.2 0, 64, .inl (c 43))), ((r 45), .inl (G.2 0, 9, .inl (c 45))), ((r 46), .inl (G.2 0, 400, .inl (c 46))), ((r 48), .inl (G.2 0, 71, .inl (c 48))), ((r 49), .inl (G.2 0, 71, .inl (c 49))), ((r 52), .inl (G.2 0, 6, .inl (c 52))), ((r 53), .inl (G.2 2, 6, .inl (c 53))), ((r 54), .inl (G.2 2, 6, .inl (c 54))), ((r 55), .inl (G.2 0, 6, .inl (c 55))), ((r 57), .inl (G.2 0, 2840, .inl (c 57))), ((r 58), .inl (G.2 0, 42, .inl (c 58))), ((r 59), .inl (G.2 0, 896, .inl (c 59))), ((r 60), .inl (G.2 0, 6, .inl (c 60))), ((r 62), .inl (G.2 0, 20, .inl (c 62))), ((r 63), .inl (G.2 0, 20, .inl (c 63))), ((r 64), .inl (G.2 2, 20, .inl (c 64))), ((r 65), .inl (G.2 2, 3, .inl (c 65))), ((r 66), .inl (G.2 0, 213, .inl (c 66)))]
def zz_RF (tl : Nat) (tb : Nat → Int32) (pv : Int32) (ob : zz_O) (wt : zy_T) (td : zz_D) (c : Nat → Nat → Int32) (cl : Nat → Nat → Int64) (j : Nat → Int32) (m : Nat → Nat) : Prop := (tl ≤ 2000) ∧ (m 0 ≤ 1) ∧ (m 1 ≤ 40) ∧ (m 2 ≤ 20) ∧ (∀ j, j < 403 → ¬ c 5 j < 0) ∧ (∀ j, j < 2 → ∃ p : Nat, p ≤ 7 ∧ c 22 j = nI p) ∧ (∀ j, j < 2 → ∃ p : Nat, p ≤ 6 ∧ c 26 j = nI p) ∧ (zz_LW 2 0 0 (c 32) (c 33) (c 35) (c 36) (c 37) (c 38) (c 39) (c 41) (c 42)) ∧ (∀ j, j < 6 → zz_ok 7 (c 52 j)) ∧ (∀ j, j < 20 → ∃ q : Nat, q < 6 ∧ c 62 j = nI q) ∧ (∀ j, j < 403 → zz_p7 (c 7 j)) ∧ (∀ k, k < 20 → cl 9 k = zl_L 27 (zl_wd k)) ∧ ((fun k => c 1 k &&& 255) = tb) ∧ (j 17 = pv) ∧ (zz_oR ob (m 0) (m 2) (c 26) (c 65)) ∧ (zr_S (m 0) (130 * m 0 + 130) (420 * m 0 + 420) (c 23) (c 24) (c 25) (c 27) (c 28) (c 29) (c 30) (c 31) (c 32) (c 33) (c 35) (c 36) (c 37) (c 38) (c 39) (c 41) (c 42) wt.1.1.length wt.1.2.1.length wt.1) ∧ ((c 22 (m 0) = nI wt.1.1.length ∧ wt.1.1.length ≤ 7) ∧ (c 26 (m 0) = nI wt.1.2.1.length ∧ wt.1.2.1.length ≤ 6)) ∧ (zy_e (c 48) wt.2.1) ∧ (zy_HR (m 1) (c 57) wt.2.2.1) ∧ (zy_SR (c 65) (c 66) wt.2.2.2) ∧ (zz_tdE wt.1.2.1.length (m 2) (c 62) (c 63) (c 64) td)
def zz_RI (G : zz_G) (tl : Nat) (r : Nat → Nat) (tb : Nat → Int32) (pv : Int32) (ob : zz_O) (wt : zy_T) (td : zz_D) (X : va_W) : Prop := ∃ (c : Nat → Nat → Int32) (cl : Nat → Nat → Int64) (j : Nat → Int32) (m : Nat → Nat), zz_RF tl tb pv ob wt td c cl j m ∧ X = zz_RW G r tl c cl j m
/-- what a reading makes of what is seen -/
def zz_rdO (ob : zz_O) (v : Int32) (q : Nat) (o2 : zz_O) : Prop := (v = 0 → o2.1 = q ∧ o2.2.1 = 0 ∧ zz_z0 o2.2.2 3) ∧ (¬ v = 0 → zz_oE o2 ob)
def zz_rdC (tb : Nat → Int32) (tl : Nat) (ob : zz_O) (v p : Int32) (o2 : zz_O) (σ : zq_S) : Prop := ∃ (so pl nu : Nat → Int32) (sp : Nat → Int64) (pp pq : Nat), zt_T tb tl so pl nu sp ∧ zs_R (zs_later pl) so pl nu sp v p pp pq σ ∧ (v = 0 → ∀ k, k < 4 → zw_D (σ.2.2.2.2 k)) ∧ zz_rdO ob v pq o2
def zz_rdR (tb : Nat → Int32) (tl : Nat) (ob : zz_O) (v p : Int32) (o2 : zz_O) (σ : zq_S) : Prop := ∃ (c5 c6 c7 : Nat → Int32) (c8 : Nat → Int64) (pp pq : Nat), zr_T tb tl c5 c6 c7 c8 ∧ zs_R (zs_latR c6) (zr_K c5) c6 c7 c8 v p pp pq σ ∧ (v = 0 → σ.1.length ≤ 7 ∧ σ.2.1.length ≤ 6 ∧ zv_S σ) ∧ zz_rdO ob v pq o2
theorem zz_rdeq {tb : Nat → Int32} {tl : Nat} {ob o1 o2 : zz_O} {v p v2 p2 : Int32} {σ σ2 : zq_S} (hn : tl ≤ 2000) (h1 : zz_rdC tb tl ob v p o1 σ) (h2 : zz_rdR tb tl ob v2 p2 o2 σ2) : v = v2 ∧ p = p2 ∧ zz_oE o2 o1 ∧ (v = 0 → σ = σ2) ∧ (v = 0 → σ.1.length ≤ 7 ∧ σ.2.1.length ≤ 6 ∧ zv_S σ ∧ ∀ k, k < 4 → zw_D (σ.2.2.2.2 k)) := by
  obtain ⟨so, pl, nu, sp, pp, pq, hT, hR, hD, hO⟩ := h1
  obtain ⟨c5, c6, c7, c8, pp2, pq2, hT2, hR2, hG, hO2⟩ := h2
  obtain ⟨rfl, rfl, e⟩ := zf_all hn hT hT2 hR hR2
  refine ⟨rfl, rfl, ?_, fun q => (e q).2.2, fun q => ?_⟩
  · by_cases q : v = 0
    · obtain ⟨a1, a2, a3⟩ := hO.1 q
      obtain ⟨b1, b2, b3⟩ := hO2.1 q
      exact ⟨by rw [a1, b1, (e q).2.1], a2.symm ▸ b2, fun j hj => (b3 j hj).trans (a3 j hj).symm⟩
    · exact (hO2.2 q).tr (hO.2 q).sy
  · obtain ⟨g1, g2, g3⟩ := hG q
    have es := (e q).2.2
    subst es
    exact ⟨g1, g2, g3, hD q⟩
theorem zt_agb {f tb : Nat → Int32} {n : Nat} (h : (fun k => f k &&& 255) = tb) : zt_ag f tb n := by
  subst h
  intro j _
  show f j &&& 255 = (f j &&& 255) &&& 255
  rw [Int32.and_assoc, Int32.and_self]
theorem zg_TC {f g : Nat → Int32} {n : Nat} {so pl nu : Nat → Int32} {sp : Nat → Int64} (h : zt_ag f g n) (hT : zt_T f n so pl nu sp) : zt_T g n so pl nu sp := by
  intro j hj hl
  have e := zg_K h
  rw [← e] at hl
  obtain ⟨b1, b2, b3, b4⟩ := hT j hj hl
  refine ⟨by rw [← e]; exact b1, by rw [← zg_P h]; exact b2, fun z => ?_, fun z => ?_⟩
  · rw [← zg_P h, ← zg_v h]; rw [← e] at z; exact b3 z
  · rw [← zg_P h, ← zg_s h]; rw [← e] at z; exact b4 z
theorem zz_fdC {t1 t2 tb : Nat → Int32} {tl tl2 : Nat} {v a1 a2 a3 a4 a5 : Int32} (h : (tl ≤ 1980 ∧ tl2 = tl + 20 ∧ v = nI (tl + 20) ∧ (fun j => t2 j &&& 255) = zz_p20 (fun j => t1 j &&& 255) tl a1 a2 a3 a4 a5) ∨ (1980 < tl ∧ tl2 = tl ∧ v = -1 ∧ t2 = t1)) (htb : (fun k => t1 k &&& 255) = tb) : (tl ≤ 1980 ∧ tl2 = tl + 20 ∧ v = nI (tl + 20) ∧ (fun k => t2 k &&& 255) = zz_p20 tb tl a1 a2 a3 a4 a5) ∨ (1980 < tl ∧ tl2 = tl ∧ v = -1 ∧ (fun k => t2 k &&& 255) = tb) := by
  subst htb
  rcases h with ⟨x1, x2, x3, x4⟩ | ⟨x1, x2, x3, x4⟩
  · exact Or.inl ⟨x1, x2, x3, x4⟩
  · exact Or.inr ⟨x1, x2, x3, by rw [x4]⟩
theorem zz_rdR1 {tb c1 c5 c6 c7 p1 p2 f1 f2 : Nat → Int32} {c8 : Nat → Int64} {tl l1 l2 t1 t2 q a b : Nat} {ob : zz_O} {v p A : Int32} {σ : zq_S} (htb : (fun k => c1 k &&& 255) = tb) (hob : zz_oR ob l1 t1 p1 f1) (hq : q ≤ 6) (eq : p2 l2 = nI q) (h0 : (¬ v = 0 → l2 = l1 ∧ p2 l1 = p1 l1 ∧ t2 = t1 ∧ f2 = f1) ∧ (v = 0 → t2 = 0 ∧ zz_z0 f2 3)) (h1 : zr_T c1 tl c5 c6 c7 c8) (h7 : ∀ j, j < 403 → zz_p7 (c7 j)) (h : zs_R (zs_latR c6) (zr_K c5) c6 c7 c8 v p a b σ) (k : v = 0 → p2 l2 = nI b ∧ b ≤ 6) : zz_rdR tb tl ob v p (q, t2, f2) σ := by
  refine ⟨c5, c6, c7, c8, a, b, zg_T (zt_agb htb) h1, h, fun z => ?_, fun z => ?_, fun z => ?_⟩
  · subst z
    obtain ⟨g1, g2, g3, g4, g5⟩ := zv_R zv_latR (fun j hj => (h7 j (by omega)).1) h
    exact ⟨by omega, by omega, g5⟩
  · obtain ⟨k2, k4⟩ := k z
    exact ⟨(nI_eq (by omega) (by omega)).mp (eq.symm.trans k2), (h0.2 z).1, (h0.2 z).2⟩
  · obtain ⟨rfl, e2, rfl, rfl⟩ := h0.1 z
    exact zz_oRq hob hq (e2.symm.trans eq)
theorem zz_rdC1 {tb f1 so pl nu : Nat → Int32} {sp : Nat → Int64} {tl pp pq : Nat} {ob o2 : zz_O} {v p : Int32} {σ : zq_S} (htb : (fun k => f1 k &&& 255) = tb) (h1 : zt_T f1 tl so pl nu sp) (h2 : zs_R (zs_later pl) so pl nu sp v p pp pq σ) (hD : v = 0 → ∀ k, k < 4 → zw_D (σ.2.2.2.2 k)) (h3 : zz_rdO ob v pq o2) : zz_rdC tb tl ob v p o2 σ := ⟨so, pl, nu, sp, pp, pq, zg_TC (zt_agb htb) h1, h2, hD, h3⟩
theorem zz_tdR {w : zy_T} {σ : zq_S} {v : Int32} {l1 l2 t1 t2 : Nat} {p1 p2 f1 f2 P W S : Nat → Int32} {td : zz_D} (h0 : (¬ v = 0 → l2 = l1 ∧ p2 l1 = p1 l1 ∧ t2 = t1 ∧ f2 = f1) ∧ (v = 0 → t2 = 0 ∧ zz_z0 f2 3)) (h : zz_tdE w.1.2.1.length t1 P W S td) : zz_tdE (zy_rdT w v σ).1.2.1.length t2 P W S td := by
  by_cases q : v = 0
  · rw [(h0.2 q).1]; exact zz_td00
  · rw [(h0.1 q).2.2.1, show zy_rdT w v σ = w from if_neg q]; exact h
theorem zz_RI.oE {G : zz_G} {tl : Nat} {r : Nat → Nat} {tb : Nat → Int32} {pv : Int32} {ob o2 : zz_O} {wt : zy_T} {td : zz_D} {X : va_W} (k : zz_oE ob o2) (h : zz_RI G tl r tb pv ob wt td X) : zz_RI G tl r tb pv o2 wt td X := by
  obtain ⟨c, cl, j, m, hF, e⟩ := h
  refine hF.elim fun htl zf0 => zf0.elim fun hlv zf1 => zf1.elim fun hun zf2 => zf2.elim fun htn zf3 => zf3.elim fun hk5 zf4 => zf4.elim fun hP7 zf5 => zf5.elim fun hQ6 zf6 => zf6.elim fun hlw zf7 => zf7.elim fun hca zf8 => zf8.elim fun htp zf9 => zf9.elim fun hk7 zf10 => zf10.elim fun hkk zf11 => zf11.elim fun htb zf12 => zf12.elim fun hpl zf13 => zf13.elim fun hob zf14 => zf14.elim fun hsg zf15 => zf15.elim fun hln zf16 => zf16.elim fun hrw zf17 => zf17.elim fun hhi zf18 => zf18.elim fun hsl htd => ?_
  clear hF zf0 zf1 zf2 zf3 zf4 zf5 zf6 zf7 zf8 zf9 zf10 zf11 zf12 zf13 zf14 zf15 zf16 zf17 zf18
  obtain ⟨q, q6, qe, qo⟩ := hob
  exact ⟨c, cl, j, m, ⟨htl, hlv, hun, htn, hk5, hP7, hQ6, hlw, hca, htp, hk7, hkk, htb, hpl, ⟨q, q6, qe, qo.tr k⟩, hsg, hln, hrw, hhi, hsl, htd⟩, e⟩
theorem zz_CI.len {G : zz_G} {tl ua : Nat} {tb : Nat → Int32} {pv : Int32} {ob : zz_O} {wt : zy_T} {td : zz_D} {X : va_W} (h : zz_CI G tl ua tb pv ob wt td X) : tl ≤ 2000 := by
  obtain ⟨a, f, g, z, n, pf, L, hF, -⟩ := h
  exact hF.2.2.1
end zzm57
section zzm58
/-- what stands at d is taken out -/
def km_tk {α : Type} : List α → Nat → Option (α × List α)
  | [], _ => none
  | a :: y, 0 => some (a, y)
  | a :: y, d + 1 => match km_tk y d with
    | some q => some (q.1, a :: q.2)
    | none => none
/-- two rows made one: 0 takes the head of the first, d + 1 what stands at d in the second -/
def km_mg {α : Type} : List Nat → List α → List α → List α
  | [], _, _ => []
  | 0 :: m, x, y => match x with
    | a :: x2 => a :: km_mg m x2 y
    | [] => []
  | (d + 1) :: m, x, y => match km_tk y d with
    | some q => q.1 :: km_mg m x q.2
    | none => []
def km_rg : Nat → Nat → List Nat
  | _, 0 => []
  | i, n + 1 => i :: km_rg (i + 1) n
theorem km_tks {α : Type} (a : α) (y : List α) (d : Nat) : km_tk (a :: y) (d + 1) = (match km_tk y d with | some q => some (q.1, a :: q.2) | none => none) := rfl
theorem km_mgs {α : Type} (m : List Nat) (x y : List α) (d : Nat) : km_mg ((d + 1) :: m) x y = (match km_tk y d with | some q => q.1 :: km_mg m x q.2 | none => []) := rfl
theorem km_tkn {α : Type} {f : Nat → Option α} : ∀ (y : List α) (J : List Nat) (d : Nat), J.map f = y.map some → (km_tk y d = none → km_tk J d = none) ∧ (∀ q, km_tk y d = some q → ∃ r, km_tk J d = some r ∧ f r.1 = some q.1 ∧ r.2.map f = q.2.map some) := by
  intro y
  induction y with
  | nil =>
    intro J d h
    cases J with
    | nil => exact ⟨fun _ => rfl, fun q e => (by cases e)⟩
    | cons j J => cases h
  | cons b y ih =>
    intro J d h
    cases J with
    | nil => cases h
    | cons j J =>
      have h1 : f j = some b := (List.cons.inj h).1
      have h2 : J.map f = y.map some := (List.cons.inj h).2
      cases d with
      | zero =>
        refine ⟨fun e => (by cases e), fun q e => ⟨(j, J), rfl, ?_⟩⟩
        have e2 : (b, y) = q := Option.some.inj e
        subst e2
        exact ⟨h1, h2⟩
      | succ d =>
        have g := ih J d h2
        have u := km_tks b y d
        have v := km_tks j J d
        cases e : km_tk y d with
        | none =>
          rw [u, v, e, g.1 e]
          exact ⟨fun _ => rfl, fun q e => (by cases e)⟩
        | some q0 =>
          obtain ⟨r, r1, r2, r3⟩ := g.2 q0 e
          rw [u, v, e, r1]
          refine ⟨fun e => (by cases e), fun q e => ⟨(r.1, j :: r.2), rfl, ?_⟩⟩
          have e2 : (q0.1, b :: q0.2) = q := Option.some.inj e
          subst e2
          refine ⟨r2, ?_⟩
          show f j :: r.2.map f = some b :: q0.2.map some
          rw [h1, r3]
theorem km_mgn {α : Type} {f : Nat → Option α} : ∀ (m : List Nat) (I J : List Nat) (x y : List α), I.map f = x.map some → J.map f = y.map some → (km_mg m I J).map f = (km_mg m x y).map some := by
  intro m
  induction m with
  | nil => intro I J x y h1 h2; rfl
  | cons c m ih =>
    intro I J x y h1 h2
    cases c with
    | zero =>
      cases x with
      | nil =>
        cases I with
        | nil => rfl
        | cons i I => cases h1
      | cons a x =>
        cases I with
        | nil => cases h1
        | cons i I =>
          have e1 : f i = some a := (List.cons.inj h1).1
          have e2 : I.map f = x.map some := (List.cons.inj h1).2
          show f i :: (km_mg m I J).map f = some a :: (km_mg m x y).map some
          rw [e1, ih I J x y e2 h2]
    | succ d =>
      have g := km_tkn y J d h2
      have u := km_mgs m x y d
      have v := km_mgs m I J d
      cases e : km_tk y d with
      | none => rw [u, v, e, g.1 e]; rfl
      | some q =>
        obtain ⟨r, r1, r2, r3⟩ := g.2 q e
        rw [u, v, e, r1]
        show f r.1 :: (km_mg m I r.2).map f = some q.1 :: (km_mg m x q.2).map some
        rw [r2, ih I r.2 x q.2 h1 r3]
theorem km_rgm {α : Type} {L : List α} : ∀ (z : List α) (i : Nat), (∀ q, q < z.length → L[i + q]? = z[q]?) → (km_rg i z.length).map (fun q => L[q]?) = z.map some := by
  intro z
  induction z with
  | nil => intro i h; rfl
  | cons a z ih =>
    intro i h
    have e : L[i]? = some a := h 0 (Nat.succ_pos _)
    have g := ih (i + 1) (fun q hq => by
      have k := h (q + 1) (Nat.succ_lt_succ hq)
      rw [show i + 1 + q = i + (q + 1) by omega]; exact k)
    show L[i]? :: (km_rg (i + 1) z.length).map (fun q => L[q]?) = some a :: z.map some
    rw [e, g]
theorem km_rg1 {α : Type} (x y : List α) : (km_rg 0 x.length).map (fun q => (x ++ y)[q]?) = x.map some := km_rgm x 0 (fun q hq => by rw [Nat.zero_add]; exact List.getElem?_append_left hq)
theorem km_rg2 {α : Type} (x y : List α) : (km_rg x.length y.length).map (fun q => (x ++ y)[q]?) = y.map some := km_rgm y x.length (fun q hq => by rw [List.getElem?_append_right (Nat.le_add_right _ _), Nat.add_sub_cancel_left])
theorem km_mgX {α : Type} {x y z : List α} (m : List Nat) (hM : km_mg m x y = z) (i : Nat) : z[i]? = ((km_mg m (km_rg 0 x.length) (km_rg x.length y.length))[i]?).bind (fun q => (x ++ y)[q]?) := by
  have h := km_mgn m _ _ x y (km_rg1 x y) (km_rg2 x y)
  rw [hM] at h
  have k := congrArg (fun l => l[i]?) h
  simp only [List.getElem?_map] at k
  revert k
  cases (km_mg m (km_rg 0 x.length) (km_rg x.length y.length))[i]? with
  | none => intro k; cases hz : z[i]? with
    | none => rfl
    | some w => rw [hz] at k; cases k
  | some v => intro k; cases hz : z[i]? with
    | none => rw [hz] at k; cases k
    | some w => rw [hz] at k; exact (Option.some.inj k).symm
theorem km_mgY {α : Type} {x y z : List α} (m : List Nat) (hM : km_mg m x y = z) {is J : List Nat} (hP : is.map (fun i => (km_mg m (km_rg 0 x.length) (km_rg x.length y.length))[i]?) = J.map some) : is.map (fun i => z[i]?) = J.map (fun q => (x ++ y)[q]?) := by
  have e : is.map (fun i => z[i]?) = (is.map (fun i => (km_mg m (km_rg 0 x.length) (km_rg x.length y.length))[i]?)).map (fun o => o.bind (fun q => (x ++ y)[q]?)) := by
    rw [List.map_map]
    exact List.map_congr_left (fun i _ => km_mgX m hM i)
  rw [e, hP, List.map_map]
  rfl
theorem km_mgR {α : Type} {x y z : List α} (m : List Nat) (hM : km_mg m x y = z) {is : List Nat} (hP : is.map (fun i => (km_mg m (km_rg 0 x.length) (km_rg x.length y.length))[i]?) = (km_rg 0 x.length).map some) : is.map (fun i => z[i]?) = x.map some := (km_mgY m hM hP).trans (km_rg1 x y)
theorem km_mgC {α : Type} {x y z : List α} (m : List Nat) (hM : km_mg m x y = z) {is : List Nat} (hP : is.map (fun i => (km_mg m (km_rg 0 x.length) (km_rg x.length y.length))[i]?) = (km_rg x.length y.length).map some) : is.map (fun i => z[i]?) = y.map some := (km_mgY m hM hP).trans (km_rg2 x y)
section ZQM
variable {p : Program} {l : Launch} {e : Env} {R : Room} {s : State} {m : MethodId} {args : Array Value} {below : List Frame} {meth : Method} {c : Code} {H : Heap} {locs : List Loc} {cells slots : Nat} {Q : State → Prop}
variable {cc : ByteArray} {pc : Nat} {ls : Array Slot} {rest : List Value} {G : zz_G} {K : zz_K} {A : Nat → Prop} {a : Nat} {ws ws' pl : va_W} {nL : Nat} {own : String} {index : Nat}
theorem zz_w.mrg {x1 x2 y : va_W} (h : zz_w G A s ((x1 ++ x2) ++ pl) H locs) (mk : List Nat) (k1 k2 : Nat) (hk1 : x1.length = k1) (hk2 : x2.length = k2) (hn : va_nd (km_mg mk (km_rg 0 k1) (km_rg k1 k2)) = true) (hy : km_mg mk x1 x2 = y) : zz_w G A s (y ++ pl) H locs := by
  subst hk1; subst hk2
  refine h.part (km_mg mk (km_rg 0 x1.length) (km_rg x1.length x2.length)) hn ?_
  rw [← hy]
  exact km_mgn mk _ _ x1 x2 (km_rg1 x1 x2) (km_rg2 x1 x2)
theorem km_wV {V U x : va_W} (e : V = U) (h : zz_w G A s (x ++ V) H locs) : zz_w G A s (x ++ U) H locs := by rw [← e]; exact h
theorem km_wU {V U x : va_W} (e : V = U) (h : zz_w G A s (x ++ U) H locs) : zz_w G A s (x ++ V) H locs := by rw [e]; exact h
theorem zz_callVQM {Y : zz_Y} {n d mc ms ci qb b : Nat} {As st0 : List Value} {wc wr : va_W} {post : Option Value → va_W → Prop} {fs : List Value} (S : CallFix p m c cc nL s args zz_T own) (hw : zz_w G A s (ws ++ pl) H locs) (hl : ls.size = nL) (lk : zz_LV own index Y n) (ct : zz_M l G Y d mc ms (.ref b :: As) wc post) (hRm : d + 1 ≤ R.frames ∧ 8 + (Y.2.2.1 + 11) + 40 * d ≤ R.locals) (hf : cells + mc ≤ R.cells ∧ slots + ms ≤ R.slots) (mk : List Nat) (k1 k2 : Nat) (hk1 : wr.length = k1) (hk2 : wc.length = k2) (hM : km_mg mk wr wc = ws) (isC isR : List Nat) (hPC : isC.map (fun i => (km_mg mk (km_rg 0 k1) (km_rg k1 k2))[i]?) = (km_rg k1 k2).map some) (hPR : isR.map (fun i => (km_mg mk (km_rg 0 k1) (km_rg k1 k2))[i]?) = (km_rg 0 k1).map some) (hnC : va_nd isC = true) (hn : va_nd isR = true) (hdis : ∀ i ∈ isR, i ∉ isC) (hqb : (ws ++ pl)[qb]? = some (b, .inr (ci, fs))) (hci : (zz_cl[ci]?).map (fun q => q.1) = some Y.1.cls) (hA : As.length = n) (hst : st0 = As.reverse ++ .ref b :: rest) (hW : (rest.map fun v => v.category).sum ≤ 8) (hdg : decode cc pc = .ok (.invokevirtual index, 3))
    (kk : ∀ (r : Option Value) (u : va_W) (H1 : Heap) (locs1 : List Loc), post r u → zz_w G A s ((wr ++ u) ++ pl) H1 locs1 → W p l e R s m args below meth c H1 locs1 (cells + mc) (slots + ms) Q (F0 m (pc + 3) ls (r.toList ++ rest))) : W p l e R s m args below meth c H locs cells slots Q (F0 m pc ls st0) := by
  subst hk1; subst hk2
  exact zz_callVQ S hw hl lk ct hRm hf isC isR hnC (km_mgC mk hM hPC) (km_mgR mk hM hPR) hn hdis hqb hci hA hst hW hdg kk
theorem zz_callVsQM {Y : zz_Y} {n d mc ms ci qb b : Nat} {As st0 : List Value} {wc wr : va_W} {post : Option Value → va_W → Prop} {fs : List Value} (S : CallFix p m c cc nL s args zz_T own) (hs : zz_SF K A s s.heap) (hw : zz_w G A s (ws ++ pl) H locs) (hl : ls.size = nL) (lk : zz_LV own index Y n) (ct : zz_MS l G K Y d mc ms (.ref b :: As) wc post) (hRm : d + 1 ≤ R.frames ∧ 8 + (Y.2.2.1 + 11) + 40 * d ≤ R.locals) (hf : cells + mc ≤ R.cells ∧ slots + ms ≤ R.slots) (mk : List Nat) (k1 k2 : Nat) (hk1 : wr.length = k1) (hk2 : wc.length = k2) (hM : km_mg mk wr wc = ws) (isC isR : List Nat) (hPC : isC.map (fun i => (km_mg mk (km_rg 0 k1) (km_rg k1 k2))[i]?) = (km_rg k1 k2).map some) (hPR : isR.map (fun i => (km_mg mk (km_rg 0 k1) (km_rg k1 k2))[i]?) = (km_rg 0 k1).map some) (hnC : va_nd isC = true) (hn : va_nd isR = true) (hdis : ∀ i ∈ isR, i ∉ isC) (hqb : (ws ++ pl)[qb]? = some (b, .inr (ci, fs))) (hci : (zz_cl[ci]?).map (fun q => q.1) = some Y.1.cls) (hA : As.length = n) (hst : st0 = As.reverse ++ .ref b :: rest) (hW : (rest.map fun v => v.category).sum ≤ 8) (hdg : decode cc pc = .ok (.invokevirtual index, 3))
    (kk : ∀ (r : Option Value) (u : va_W) (H1 : Heap) (locs1 : List Loc), post r u → zz_w G A s ((wr ++ u) ++ pl) H1 locs1 → W p l e R s m args below meth c H1 locs1 (cells + mc) (slots + ms) Q (F0 m (pc + 3) ls (r.toList ++ rest))) : W p l e R s m args below meth c H locs cells slots Q (F0 m pc ls st0) := by
  subst hk1; subst hk2
  exact zz_callVsQ S hs hw hl lk ct hRm hf isC isR hnC (km_mgC mk hM hPC) (km_mgR mk hM hPR) hn hdis hqb hci hA hst hW hdg kk
end ZQM
end zzm58
