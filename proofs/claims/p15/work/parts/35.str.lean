def zz_S0 : String := ";=+-*/<()"
def zz_S1 : String := "person  part    stands  writes  marks   dogs    least   seed    if      then    else    apart   unlike  odd     day     seen    hour    kind    size    which   "
def zz_lenS : List Nat := [9, 160]
def zz_bytS : List (List Int32) := [[59, 61, 43, 45, 42, 47, 60, 40, 41], [112, 101, 114, 115, 111, 110, 32, 32, 112, 97, 114, 116, 32, 32, 32, 32, 115, 116, 97, 110, 100, 115, 32, 32, 119, 114, 105, 116, 101, 115, 32, 32, 109, 97, 114, 107, 115, 32, 32, 32, 100, 111, 103, 115, 32, 32, 32, 32, 108, 101, 97, 115, 116, 32, 32, 32, 115, 101, 101, 100, 32, 32, 32, 32, 105, 102, 32, 32, 32, 32, 32, 32, 116, 104, 101, 110, 32, 32, 32, 32, 101, 108, 115, 101, 32, 32, 32, 32, 97, 112, 97, 114, 116, 32, 32, 32, 117, 110, 108, 105, 107, 101, 32, 32, 111, 100, 100, 32, 32, 32, 32, 32, 100, 97, 121, 32, 32, 32, 32, 32, 115, 101, 101, 110, 32, 32, 32, 32, 104, 111, 117, 114, 32, 32, 32, 32, 107, 105, 110, 100, 32, 32, 32, 32, 115, 105, 122, 101, 32, 32, 32, 32, 119, 104, 105, 99, 104, 32, 32, 32]]
def zz_ln (i : Nat) : Nat := zz_lenS.getD i 0
def zz_by (i j : Nat) : Int32 := (zz_bytS.getD i []).getD j 0
theorem zz_ln_le {i : Nat} : zz_ln i ≤ 160 := by
  rcases i with _ | _ | i
  · decide
  · decide
  · exact Nat.zero_le _
theorem zz_by3 {i j : Nat} : ¬ zz_by i j = 3 := by
  have h : ∀ l ∈ zz_bytS, ∀ b ∈ l, ¬ b = (3 : Int32) := by decide +kernel
  unfold zz_by
  rw [List.getD_eq_getElem?_getD]
  cases e : (zz_bytS.getD i [])[j]? with
  | none => decide
  | some b =>
    have h1 := List.mem_of_getElem? e
    rw [List.getD_eq_getElem?_getD] at h1
    cases e2 : zz_bytS[i]? with
    | none => rw [e2] at h1; cases h1
    | some l =>
      rw [e2] at h1
      exact h l (List.mem_of_getElem? e2) b h1
abbrev zz_K : Type := (Nat → Nat) × (Nat → Nat)
def zz_SF (K : zz_K) (A : Nat → Prop) (U : State) (H : Heap) : Prop :=
  vk_S 2 zz_lenS zz_bytS K.1 K.2 A U H ∧ vk_R "UnderstudyShow$Tokens" 50 zz_S0 (K.1 0) U ∧ vk_R "UnderstudyShow$Tokens" 64 zz_S1 (K.1 1) U ∧ va_Z "java/lang/String" "COMPACT_STRINGS" "Z" (.int 1) A U H ∧ va_Zq "jdk/internal/util/Preconditions" "SIOOBE_FORMATTER" "Ljava/util/function/BiFunction;" A U H
theorem zz_SF.warm {K : zz_K} {A B : Nat → Prop} {s U : State} {H : Heap} {locs : List Loc} (h : zz_SF K A s s.heap) (hS : va_S A s.heap H locs) (hB : ∀ q, B q → A q) (hU : U.heap = H) (hW : s.WarmedH U.vm) : zz_SF K B U U.heap := by
  subst hU
  obtain ⟨h1, h2, h3, h4, h5⟩ := h
  exact ⟨((h1.kept hS.2.1).narrow hB).moved hW.alike, vk_R.warm hW h2, vk_R.warm hW h3, ((h4.kept hS.2.1).narrow hB).moved hW.alike, ((h5.kept hS.2.1).narrow hB).moved hW.alike⟩
def zz_SPre (K : zz_K) (G : zz_G) (w0 : va_W) (sz : Nat) (U : State) : Prop := zz_Pre G w0 sz U ∧ zz_SF K (va_A w0 sz) U U.heap
def zz_MS (l : Launch) (G : zz_G) (K : zz_K) (Y : zz_Y) (d mc ms : Nat) (vs : List Value) (w0 : va_W) (post : Option Value → va_W → Prop) : Prop := ∀ sz : Nat, Met l Y.1 (zz_ws Y) (zz_rm d mc ms) (va_Pc vs (zz_SPre K G w0 sz)) (zz_Q G w0 sz post) mc ms (va_A w0 sz)
theorem zz_SPre.blind {K : zz_K} {G : zz_G} {w0 : va_W} {sz : Nat} {vs : List Value} : FrameBlind (va_Pc vs (zz_SPre K G w0 sz)) := fun a U g mk q => by
  obtain ⟨q0, ⟨q1, q2, q3, q4, q5⟩, h1, h2, h3, h4, h5⟩ := q
  exact ⟨q0, ⟨q1, q2, va_K.moved (u := U) (U := U.calling g mk a) (Vm.Alike.refl U.vm) q3, q4, q5.calling⟩, vk_S.moved (u := U) (U := U.calling g mk a) (Vm.Alike.refl U.vm) h1, vk_R.same (u := U) (U := U.calling g mk a) rfl h2, vk_R.same (u := U) (U := U.calling g mk a) rfl h3, va_Z.moved (u := U) (U := U.calling g mk a) (Vm.Alike.refl U.vm) h4, va_Zq.moved (u := U) (U := U.calling g mk a) (Vm.Alike.refl U.vm) h5⟩
section ZSE
variable {l : Launch} {G : zz_G} {K : zz_K} {y : MethodName} {cc : ByteArray} {nL d mc ms : Nat} {rt : FieldType} {vs : List Value} {w0 : va_W} {post : Option Value → va_W → Prop}
theorem zz_Senteri (hy : plainName y.cls = true) (hn : (lg_sl vs).length ≤ nL) (body : ∀ (p : Program) (e : Env) (s : State) (m : MethodId) (args : Array Value) (below : List Frame) (meth : Method) (c : Code) (A : Nat → Prop) (Q : State → Prop) (ls : Array Slot), CallFix p m c cc nL s args zz_T y.cls → meth.name = y.name →
    (∀ (H : Heap) (locs : List Loc) (u : va_W) (pc : Nat) (ls : Array Slot) (v : Int32), post (some (.int v)) u → zz_w G A s u H locs → narrow rt (.int v) = .int v → decode cc pc = .ok (.ireturn, 1) → W p l e (zz_rm d mc ms) s m args below meth c H locs mc ms Q (F0 m pc ls [.int v])) →
    zz_SF K A s s.heap → zz_w G A s w0 s.heap [] → lv_has ls nL (lv_args 0 vs) → W p l e (zz_rm d mc ms) s m args below meth c s.heap [] 0 0 Q (F0 m 0 ls [])) : zz_MS l G K (y, cc, nL, some rt) d mc ms vs w0 post := by
  intro sz
  refine Met.ofW (cc := cc) (maxL := nL) (ret := some rt) hy rfl ?_
  intro p e s m args below meth c s₁ B hml hv
  obtain ⟨rfl, ⟨hsz, hP, hK, hD0, hN⟩, hs⟩ := hv
  have hts := atoms_spec (ws := zz_ws (y, cc, nL, some rt)) B.pre
  have hown : s.vm.findClass y.cls = some m.cls := findClass_of_methodNamed B.named
  have hlocks := B.notSynchronized
  have hnm := (name_of_methodNamed B.named B.method).1
  subst hsz
  rw [lg_entry_eq]
  refine body p e s m _ below meth c (va_A w0 s.heap.size) _ _ ⟨B.exec, B.bytes, hml, hown, fun w h => hts w (List.mem_cons_of_mem _ h)⟩ hnm ?_ hs ⟨hK, hP, hD0.self, va_S.rf, fun q h => Or.inr h, hN⟩ (lv_entry vs hn)
  intro H locs u pc ls v hp hw hn hd
  obtain ⟨hK, hP, hD, hS, hA, hN⟩ := hw
  exact W.zret B.exec B.bytes B.returns hn (fun t ht hW => ⟨⟨_, u, rfl, hp, by rw [ht]; exact hP, va_K.moved hW.alike hK, hD⟩, hS.F ht⟩) hS.2.2 hd
theorem zz_Senterl (hy : plainName y.cls = true) (hn : (lg_sl vs).length ≤ nL) (body : ∀ (p : Program) (e : Env) (s : State) (m : MethodId) (args : Array Value) (below : List Frame) (meth : Method) (c : Code) (A : Nat → Prop) (Q : State → Prop) (ls : Array Slot), CallFix p m c cc nL s args zz_T y.cls → meth.name = y.name →
    (∀ (H : Heap) (locs : List Loc) (u : va_W) (pc : Nat) (ls : Array Slot) (v : Int64), post (some (.long v)) u → zz_w G A s u H locs → decode cc pc = .ok (.lreturn, 1) → W p l e (zz_rm d mc ms) s m args below meth c H locs mc ms Q (F0 m pc ls [.long v])) →
    zz_SF K A s s.heap → zz_w G A s w0 s.heap [] → lv_has ls nL (lv_args 0 vs) → W p l e (zz_rm d mc ms) s m args below meth c s.heap [] 0 0 Q (F0 m 0 ls [])) : zz_MS l G K (y, cc, nL, some .long) d mc ms vs w0 post := by
  intro sz
  refine Met.ofW (cc := cc) (maxL := nL) (ret := some .long) hy rfl ?_
  intro p e s m args below meth c s₁ B hml hv
  obtain ⟨rfl, ⟨hsz, hP, hK, hD0, hN⟩, hs⟩ := hv
  have hts := atoms_spec (ws := zz_ws (y, cc, nL, some .long)) B.pre
  have hown : s.vm.findClass y.cls = some m.cls := findClass_of_methodNamed B.named
  have hlocks := B.notSynchronized
  have hnm := (name_of_methodNamed B.named B.method).1
  subst hsz
  rw [lg_entry_eq]
  refine body p e s m _ below meth c (va_A w0 s.heap.size) _ _ ⟨B.exec, B.bytes, hml, hown, fun w h => hts w (List.mem_cons_of_mem _ h)⟩ hnm ?_ hs ⟨hK, hP, hD0.self, va_S.rf, fun q h => Or.inr h, hN⟩ (lv_entry vs hn)
  intro H locs u pc ls v hp hw hd
  obtain ⟨hK, hP, hD, hS, hA, hN⟩ := hw
  exact W.lret B.exec B.bytes B.returns (fun t ht hW => ⟨⟨_, u, rfl, hp, by rw [ht]; exact hP, va_K.moved hW.alike hK, hD⟩, hS.F ht⟩) hS.2.2 hd
theorem zz_Senterv (hy : plainName y.cls = true) (hn : (lg_sl vs).length ≤ nL) (body : ∀ (p : Program) (e : Env) (s : State) (m : MethodId) (args : Array Value) (below : List Frame) (meth : Method) (c : Code) (A : Nat → Prop) (Q : State → Prop) (ls : Array Slot), CallFix p m c cc nL s args zz_T y.cls → meth.name = y.name →
    (∀ (H : Heap) (locs : List Loc) (u : va_W) (pc : Nat) (ls : Array Slot), post none u → zz_w G A s u H locs → decode cc pc = .ok (.return_, 1) → W p l e (zz_rm d mc ms) s m args below meth c H locs mc ms Q (F0 m pc ls [])) →
    zz_SF K A s s.heap → zz_w G A s w0 s.heap [] → lv_has ls nL (lv_args 0 vs) → W p l e (zz_rm d mc ms) s m args below meth c s.heap [] 0 0 Q (F0 m 0 ls [])) : zz_MS l G K (y, cc, nL, none) d mc ms vs w0 post := by
  intro sz
  refine Met.ofW (cc := cc) (maxL := nL) (ret := none) hy rfl ?_
  intro p e s m args below meth c s₁ B hml hv
  obtain ⟨rfl, ⟨hsz, hP, hK, hD0, hN⟩, hs⟩ := hv
  have hts := atoms_spec (ws := zz_ws (y, cc, nL, none)) B.pre
  have hown : s.vm.findClass y.cls = some m.cls := findClass_of_methodNamed B.named
  have hlocks := B.notSynchronized
  have hnm := (name_of_methodNamed B.named B.method).1
  subst hsz
  rw [lg_entry_eq]
  refine body p e s m _ below meth c (va_A w0 s.heap.size) _ _ ⟨B.exec, B.bytes, hml, hown, fun w h => hts w (List.mem_cons_of_mem _ h)⟩ hnm ?_ hs ⟨hK, hP, hD0.self, va_S.rf, fun q h => Or.inr h, hN⟩ (lv_entry vs hn)
  intro H locs u pc ls hp hw hd
  obtain ⟨hK, hP, hD, hS, hA, hN⟩ := hw
  exact W.vret B.exec B.bytes B.returns (fun t ht hW => ⟨⟨_, u, rfl, hp, by rw [ht]; exact hP, va_K.moved hW.alike hK, hD⟩, hS.F ht⟩) hS.2.2 hd
theorem zz_Senterr {cn : String} (hy : plainName y.cls = true) (hn : (lg_sl vs).length ≤ nL) (body : ∀ (p : Program) (e : Env) (s : State) (m : MethodId) (args : Array Value) (below : List Frame) (meth : Method) (c : Code) (A : Nat → Prop) (Q : State → Prop) (ls : Array Slot), CallFix p m c cc nL s args zz_T y.cls → meth.name = y.name →
    (∀ (H : Heap) (locs : List Loc) (u : va_W) (pc : Nat) (ls : Array Slot) (v : Nat), post (some (.ref v)) u → zz_w G A s u H locs → decode cc pc = .ok (.areturn, 1) → W p l e (zz_rm d mc ms) s m args below meth c H locs mc ms Q (F0 m pc ls [.ref v])) →
    zz_SF K A s s.heap → zz_w G A s w0 s.heap [] → lv_has ls nL (lv_args 0 vs) → W p l e (zz_rm d mc ms) s m args below meth c s.heap [] 0 0 Q (F0 m 0 ls [])) : zz_MS l G K (y, cc, nL, some (.object cn)) d mc ms vs w0 post := by
  intro sz
  refine Met.ofW (cc := cc) (maxL := nL) (ret := some (.object cn)) hy rfl ?_
  intro p e s m args below meth c s₁ B hml hv
  obtain ⟨rfl, ⟨hsz, hP, hK, hD0, hN⟩, hs⟩ := hv
  have hts := atoms_spec (ws := zz_ws (y, cc, nL, some (.object cn))) B.pre
  have hown : s.vm.findClass y.cls = some m.cls := findClass_of_methodNamed B.named
  have hlocks := B.notSynchronized
  have hnm := (name_of_methodNamed B.named B.method).1
  subst hsz
  rw [lg_entry_eq]
  refine body p e s m _ below meth c (va_A w0 s.heap.size) _ _ ⟨B.exec, B.bytes, hml, hown, fun w h => hts w (List.mem_cons_of_mem _ h)⟩ hnm ?_ hs ⟨hK, hP, hD0.self, va_S.rf, fun q h => Or.inr h, hN⟩ (lv_entry vs hn)
  intro H locs u pc ls v hp hw hd
  obtain ⟨hK, hP, hD, hS, hA, hN⟩ := hw
  exact W.aret B.exec B.bytes B.returns (Or.inl ⟨_, rfl⟩) (Or.inr ⟨_, rfl⟩) (fun t ht hW => ⟨⟨_, u, rfl, hp, by rw [ht]; exact hP, va_K.moved hW.alike hK, hD⟩, hS.F ht⟩) hS.2.2 hd
end ZSE
section ZSR
variable {p : Program} {l : Launch} {e : Env} {R : Room} {s : State} {m : MethodId} {args : Array Value} {below : List Frame} {meth : Method} {c : Code} {H : Heap} {locs : List Loc} {cells slots : Nat} {Q : State → Prop}
variable {cc : ByteArray} {pc : Nat} {ls : Array Slot} {rest : List Value} {G : zz_G} {K : zz_K} {A : Nat → Prop} {a : Nat} {ws ws' : va_W} {nL : Nat} {own : String} {index : Nat}
theorem zz_Spre {wc : va_W} {vs : List Value} (hs : zz_SF K A s s.heap) (hw : zz_w G A s ws H locs) (isC : List Nat) (hn : va_nd isC = true) (hC : isC.map (fun i => ws[i]?) = wc.map some) : ∀ U : State, U.heap = H → s.WarmedH U.vm → va_Pc vs (zz_SPre K G wc H.size) vs.toArray U := by
  intro U hU hW
  have h := zz_pre (vs := vs) hw isC hn hC U hU hW
  obtain ⟨hK, hP, hD, hS, hA, hN⟩ := hw
  exact ⟨h.1, h.2, hs.warm hS (va_free (wc := wc) hD hS hA isC hC) hU hW⟩
theorem zz_callVs {Y : zz_Y} {n d mc ms ci qb b : Nat} {As st0 : List Value} {wc wr : va_W} {post : Option Value → va_W → Prop} {fs : List Value} (S : CallFix p m c cc nL s args zz_T own) (hs : zz_SF K A s s.heap) (hw : zz_w G A s ws H locs) (hl : ls.size = nL) (lk : zz_LV own index Y n) (ct : zz_MS l G K Y d mc ms (.ref b :: As) wc post) (hRm : d + 1 ≤ R.frames ∧ 8 + (Y.2.2.1 + 11) + 40 * d ≤ R.locals) (hf : cells + mc ≤ R.cells ∧ slots + ms ≤ R.slots) (isC isR : List Nat) (hnC : va_nd isC = true) (hC : isC.map (fun i => ws[i]?) = wc.map some) (hR : isR.map (fun i => ws[i]?) = wr.map some) (hn : va_nd isR = true) (hdis : ∀ i ∈ isR, i ∉ isC) (hqb : ws[qb]? = some (b, .inr (ci, fs))) (hci : (zz_cl[ci]?).map (fun q => q.1) = some Y.1.cls) (hA : As.length = n) (hst : st0 = As.reverse ++ .ref b :: rest) (hW : (rest.map fun v => v.category).sum ≤ 8) (hdg : decode cc pc = .ok (.invokevirtual index, 3))
    (kk : ∀ (r : Option Value) (u : va_W) (H1 : Heap) (locs1 : List Loc), post r u → zz_w G A s (wr ++ u) H1 locs1 → W p l e R s m args below meth c H1 locs1 (cells + mc) (slots + ms) Q (F0 m (pc + 3) ls (r.toList ++ rest))) : W p l e R s m args below meth c H locs cells slots Q (F0 m pc ls st0) := by
  obtain ⟨hlk, hin, hsel, hini, hcode, hy1, hy2, hpar⟩ := lk
  have hts := S.2.2.2.2
  have hrecv : ∃ cell : Cell, H[b]? = some cell ∧ cell.vm.isStatics = false ∧ s.vm.findClass Y.1.cls = some cell.cls := by
    cases hq : zz_cl[ci]? with
    | none => rw [hq] at hci; cases hci
    | some q =>
      rw [hq] at hci
      have e : q.1 = Y.1.cls := Option.some.inj hci
      rw [← e]
      exact va_recv hw.1 hw.2.1 hq hqb
  refine zz_go (rest := rest) (av := (Value.ref b :: As).toArray) ?_ hw isC isR hC hR hn hdis kk
  rcases hlk with hlk | ⟨host, hlk⟩
  · exact va_runV (n := n) S (ct H.size) ⟨callB_of n hts (zz_good hcode) rfl rfl rfl (hts _ hini) (hts _ hlk) ⟨hy1, hy2, hpar⟩ hRm, hts _ hin, hts _ hsel⟩ ⟨zz_SPre.blind, hrecv, zz_Spre hs hw isC hnC hC⟩ rfl hA hl hst (by show 2 * 0 + _ ≤ _; omega) hdg hf
  · exact va_runVN (n := n) (host := host) (C := Y.1.cls) S (ct H.size) ⟨va_cnB n hts (zz_good hcode) rfl rfl rfl (hw.2.2.2.2.2.1 _ hlk) (hts _ hini) ⟨hy1, hy2, hpar⟩ hRm, hts _ hin, hts _ hsel⟩ ⟨zz_SPre.blind, hrecv, zz_Spre hs hw isC hnC hC⟩ rfl hA hl hst (by show 2 * 0 + _ ≤ _; omega) hdg hf
theorem zz_callKs {Y : zz_Y} {n d mc ms : Nat} {i : Nat} {As st0 : List Value} {wc wr : va_W} {post : Option Value → va_W → Prop} (S : CallFix p m c cc nL s args zz_T own) (hs : zz_SF K A s s.heap) (hw : zz_w G A s ws H locs) (hl : ls.size = nL) (lk : zz_LV own index Y n) (ct : zz_MS l G K Y d mc ms (.ref (K.1 i) :: As) wc post) (hRm : d + 1 ≤ R.frames ∧ 8 + (Y.2.2.1 + 11) + 40 * d ≤ R.locals) (hf : cells + mc ≤ R.cells ∧ slots + ms ≤ R.slots) (isC isR : List Nat) (hnC : va_nd isC = true) (hC : isC.map (fun i => ws[i]?) = wc.map some) (hR : isR.map (fun i => ws[i]?) = wr.map some) (hn : va_nd isR = true) (hdis : ∀ i ∈ isR, i ∉ isC) (hi : i < 2) (hcl : Y.1.cls = "java/lang/String") (hA : As.length = n) (hst : st0 = As.reverse ++ .ref (K.1 i) :: rest) (hW : (rest.map fun v => v.category).sum ≤ 8) (hdg : decode cc pc = .ok (.invokevirtual index, 3))
    (kk : ∀ (r : Option Value) (u : va_W) (H1 : Heap) (locs1 : List Loc), post r u → zz_w G A s (wr ++ u) H1 locs1 → W p l e R s m args below meth c H1 locs1 (cells + mc) (slots + ms) Q (F0 m (pc + 3) ls (r.toList ++ rest))) : W p l e R s m args below meth c H locs cells slots Q (F0 m pc ls st0) := by
  obtain ⟨hlk, hin, hsel, hini, hcode, hy1, hy2, hpar⟩ := lk
  have hts := S.2.2.2.2
  have hrecv : ∃ cell : Cell, H[K.1 i]? = some cell ∧ cell.vm.isStatics = false ∧ s.vm.findClass Y.1.cls = some cell.cls := by
    rw [hcl]; exact vk_recv hs.1 hi hw.2.2.2.1
  refine zz_go (rest := rest) (av := (Value.ref (K.1 i) :: As).toArray) ?_ hw isC isR hC hR hn hdis kk
  rcases hlk with hlk | ⟨host, hlk⟩
  · exact va_runV (n := n) S (ct H.size) ⟨callB_of n hts (zz_good hcode) rfl rfl rfl (hts _ hini) (hts _ hlk) ⟨hy1, hy2, hpar⟩ hRm, hts _ hin, hts _ hsel⟩ ⟨zz_SPre.blind, hrecv, zz_Spre hs hw isC hnC hC⟩ rfl hA hl hst (by show 2 * 0 + _ ≤ _; omega) hdg hf
  · exact va_runVN (n := n) (host := host) (C := Y.1.cls) S (ct H.size) ⟨va_cnB n hts (zz_good hcode) rfl rfl rfl (hw.2.2.2.2.2.1 _ hlk) (hts _ hini) ⟨hy1, hy2, hpar⟩ hRm, hts _ hin, hts _ hsel⟩ ⟨zz_SPre.blind, hrecv, zz_Spre hs hw isC hnC hC⟩ rfl hA hl hst (by show 2 * 0 + _ ≤ _; omega) hdg hf
theorem zz_callSs {Y : zz_Y} {n d mc ms : Nat} {As st0 : List Value} {wc wr : va_W} {post : Option Value → va_W → Prop} (S : CallFix p m c cc nL s args zz_T own) (hs : zz_SF K A s s.heap) (hw : zz_w G A s ws H locs) (hl : ls.size = nL) (lk : zz_LS own index Y n) (ct : zz_MS l G K Y d mc ms As wc post) (hRm : d + 1 ≤ R.frames ∧ 8 + (Y.2.2.1 + 11) + 40 * d ≤ R.locals) (hf : cells + mc ≤ R.cells ∧ slots + ms ≤ R.slots) (isC isR : List Nat) (hnC : va_nd isC = true) (hC : isC.map (fun i => ws[i]?) = wc.map some) (hR : isR.map (fun i => ws[i]?) = wr.map some) (hn : va_nd isR = true) (hdis : ∀ i ∈ isR, i ∉ isC) (hA : As.length = n) (hst : st0 = As.reverse ++ rest) (hW : (rest.map fun v => v.category).sum ≤ 8) (hdg : decode cc pc = .ok (.invokestatic index, 3))
    (kk : ∀ (r : Option Value) (u : va_W) (H1 : Heap) (locs1 : List Loc), post r u → zz_w G A s (wr ++ u) H1 locs1 → W p l e R s m args below meth c H1 locs1 (cells + mc) (slots + ms) Q (F0 m (pc + 3) ls (r.toList ++ rest))) : W p l e R s m args below meth c H locs cells slots Q (F0 m pc ls st0) := by
  obtain ⟨hlk, hstt, hini, hcode, hy1, hy2, hpar⟩ := lk
  have hts := S.2.2.2.2
  refine zz_go (rest := rest) (av := As.toArray) ?_ hw isC isR hC hR hn hdis kk
  rcases hlk with hlk | ⟨host, hlk⟩
  · exact va_runS (n := n) S (ct H.size) ⟨callB_of n hts (zz_good hcode) rfl rfl rfl (hts _ hini) (hts _ hlk) ⟨hy1, hy2, hpar⟩ hRm, hts _ hstt⟩ ⟨zz_SPre.blind, zz_Spre hs hw isC hnC hC⟩ rfl hA hl hst (by show 2 * 0 + _ ≤ _; omega) hdg hf
  · exact va_runSN (n := n) (host := host) S (ct H.size) ⟨va_cnB n hts (zz_good hcode) rfl rfl rfl (hw.2.2.2.2.2.1 _ hlk) (hts _ hini) ⟨hy1, hy2, hpar⟩ hRm, hts _ hstt, trivial⟩ ⟨zz_SPre.blind, zz_Spre hs hw isC hnC hC⟩ rfl hA hl hst (by show 2 * 0 + _ ≤ _; omega) hdg hf
theorem zz_ldS0 (S : CallFix p m c cc nL s args zz_T "UnderstudyShow$Tokens") (hs : zz_SF K A s s.heap) (hdg : decode cc pc = .ok (.ldc 50, 2)) (kk : W p l e R s m args below meth c H locs cells slots Q (F0 m (pc + 2) ls (.ref (K.1 0) :: rest))) : W p l e R s m args below meth c H locs cells slots Q (F0 m pc ls rest) := va_ldcS S.1 S.2.1 S.2.2.2.1 hs.2.1 hdg kk
theorem zz_ldS1 (S : CallFix p m c cc nL s args zz_T "UnderstudyShow$Tokens") (hs : zz_SF K A s s.heap) (hdg : decode cc pc = .ok (.ldc 64, 2)) (kk : W p l e R s m args below meth c H locs cells slots Q (F0 m (pc + 2) ls (.ref (K.1 1) :: rest))) : W p l e R s m args below meth c H locs cells slots Q (F0 m pc ls rest) := va_ldcS S.1 S.2.1 S.2.2.2.1 hs.2.2.1 hdg kk
theorem zz_gcs (S : CallFix p m c cc nL s args zz_T "java/lang/String") (hs : zz_SF K A s s.heap) (hw : zz_w G A s ws H locs) (hlk : Cond.fieldLink "java/lang/String" 38 "java/lang/String" "COMPACT_STRINGS" "Z" ∈ zz_T) (hdg : decode cc pc = .ok (.getstatic 38, 3)) (kk : W p l e R s m args below meth c H locs cells slots Q (F0 m (pc + 3) ls (.int 1 :: rest))) : W p l e R s m args below meth c H locs cells slots Q (F0 m pc ls rest) := va_gets S.1 S.2.1 hs.2.2.2.1 hw.2.2.2.1 S.2.2.2.1 (S.2.2.2.2 _ hlk) (fun _ h => h) hdg kk
theorem zz_gsf (S : CallFix p m c cc nL s args zz_T "java/lang/String") (hs : zz_SF K A s s.heap) (hw : zz_w G A s ws H locs) (hlk : Cond.fieldLink "java/lang/String" 1053 "jdk/internal/util/Preconditions" "SIOOBE_FORMATTER" "Ljava/util/function/BiFunction;" ∈ zz_T) (hdg : decode cc pc = .ok (.getstatic 1053, 3)) (k1 : W p l e R s m args below meth c H locs cells slots Q (F0 m (pc + 3) ls (.null :: rest))) (k2 : ∀ t : Nat, W p l e R s m args below meth c H locs cells slots Q (F0 m (pc + 3) ls (.ref t :: rest))) : W p l e R s m args below meth c H locs cells slots Q (F0 m pc ls rest) := by
  rcases hs.2.2.2.2 with h | ⟨t, h⟩
  · exact va_gets S.1 S.2.1 h hw.2.2.2.1 S.2.2.2.1 (S.2.2.2.2 _ hlk) (fun _ h => h) hdg k1
  · exact va_gets S.1 S.2.1 h hw.2.2.2.1 S.2.2.2.1 (S.2.2.2.2 _ hlk) (fun _ h => h) hdg (k2 t)
theorem zz_gcod {i : Nat} (S : CallFix p m c cc nL s args zz_T "java/lang/String") (hs : zz_SF K A s s.heap) (hw : zz_w G A s ws H locs) (hi : i < 2) (hlk : Cond.fieldLink "java/lang/String" 15 "java/lang/String" "coder" "B" ∈ zz_T) (hdg : decode cc pc = .ok (.getfield 15, 3)) (kk : W p l e R s m args below meth c H locs cells slots Q (F0 m (pc + 3) ls (.int 0 :: rest))) : W p l e R s m args below meth c H locs cells slots Q (F0 m pc ls (.ref (K.1 i) :: rest)) := vk_getf S.1 S.2.1 (hs.1.1 i hi).2.1 hw.2.2.2.1 S.2.2.2.1 (S.2.2.2.2 _ hlk) (fun _ h => h) hdg kk
theorem zz_gval {i : Nat} (S : CallFix p m c cc nL s args zz_T "java/lang/String") (hs : zz_SF K A s s.heap) (hw : zz_w G A s ws H locs) (hi : i < 2) (hlk : Cond.fieldLink "java/lang/String" 9 "java/lang/String" "value" "[B" ∈ zz_T) (hdg : decode cc pc = .ok (.getfield 9, 3)) (kk : W p l e R s m args below meth c H locs cells slots Q (F0 m (pc + 3) ls (.ref (K.2 i) :: rest))) : W p l e R s m args below meth c H locs cells slots Q (F0 m pc ls (.ref (K.1 i) :: rest)) := vk_getf S.1 S.2.1 (hs.1.1 i hi).2.2.1 hw.2.2.2.1 S.2.2.2.1 (S.2.2.2.2 _ hlk) (fun _ h => h) hdg kk
theorem zz_slen {i : Nat} (S : CallFix p m c cc nL s args zz_T own) (hs : zz_SF K A s s.heap) (hw : zz_w G A s ws H locs) (hi : i < 2) (hdg : decode cc pc = .ok (.arraylength, 1)) (kk : W p l e R s m args below meth c H locs cells slots Q (F0 m (pc + 1) ls (.int (nI (zz_ln i)) :: rest))) : W p l e R s m args below meth c H locs cells slots Q (F0 m pc ls (.ref (K.2 i) :: rest)) := va_tlen S.1 S.2.1 (hs.1.1 i hi).2.2.2 hw.2.2.2.1 (v := nI (zz_ln i)) rfl hdg kk
theorem zz_sbld {i : Nat} (S : CallFix p m c cc nL s args zz_T own) (hs : zz_SF K A s s.heap) (hw : zz_w G A s ws H locs) (hi : i < 2) {j : Nat} (hj : j < zz_ln i) (hdg : decode cc pc = .ok (.baload, 1)) (kk : W p l e R s m args below meth c H locs cells slots Q (F0 m (pc + 1) ls (.int (zz_by i j) :: rest))) : W p l e R s m args below meth c H locs cells slots Q (F0 m pc ls (.int (nI j) :: .ref (K.2 i) :: rest)) := by
  have hl := @zz_ln_le i
  exact va_tb S.1 S.2.1 (hs.1.1 i hi).2.2.2 hw.2.2.2.1 (i := nI j) (vp_in_nI (n := j) hj (Nat.lt_of_le_of_lt (show zz_lenS.getD i 0 ≤ 160 from hl) (by decide))) (v := .int (zz_by i j)) (by show Value.int _ = Value.int _; rw [nI_clamp (by omega)]; rfl) hdg kk
theorem zz_shr0 {x : Int32} : x >>> ((0 : Int32) &&& 31) = x := by
  rw [show ((0 : Int32) &&& 31) = 0 by decide]
  exact Int32.shiftRight_zero
theorem zz_nchar {x z : Int32} (h : (x.toUInt32 % 65536).toInt32 = z) : narrow .char (.int z) = .int z := by
  subst h
  have e : (x.toUInt32 % 65536 % 65536) = x.toUInt32 % 65536 := by
    apply UInt32.toNat_inj.mp
    rw [UInt32.toNat_mod, UInt32.toNat_mod]
    exact Nat.mod_mod _ _
  simp [narrow, e]
theorem zz_noch {z b ch : Int32} (h3 : ¬ z = 3) (e : ch.toInt8.toInt32 = b) (h : z = b) : ¬ ch = 3 := by
  intro q
  subst q
  apply h3
  rw [h, ← e]
  decide
end ZSR
abbrev mJ0_length_8abf5 : zz_Y := (yJ0_length_8abf5, cJ0_length_8abf5, 1, (some .int))
theorem y_J0_length_8abf5 : zz_yy mJ0_length_8abf5 0 := ⟨(zz_c1 12 rfl rfl), (zz_c2 183 rfl rfl), by decide, by decide, by decide +kernel⟩
abbrev mJ0_charAt_5068e : zz_Y := (yJ0_charAt_5068e, cJ0_charAt_5068e, 2, (some .char))
theorem y_J0_charAt_5068e : zz_yy mJ0_charAt_5068e 1 := ⟨(zz_c1 12 rfl rfl), (zz_c2 196 rfl rfl), by decide, by decide, by decide +kernel⟩
abbrev mJ0_indexOf_0f7a4 : zz_Y := (yJ0_indexOf_0f7a4, cJ0_indexOf_0f7a4, 2, (some .int))
theorem y_J0_indexOf_0f7a4 : zz_yy mJ0_indexOf_0f7a4 1 := ⟨(zz_c1 12 rfl rfl), (zz_c3 2 rfl rfl), by decide, by decide, by decide +kernel⟩
abbrev mJ0_indexOf_7cf53 : zz_Y := (yJ0_indexOf_7cf53, cJ0_indexOf_7cf53, 3, (some .int))
theorem y_J0_indexOf_7cf53 : zz_yy mJ0_indexOf_7cf53 2 := ⟨(zz_c1 12 rfl rfl), (zz_c3 6 rfl rfl), by decide, by decide, by decide +kernel⟩
abbrev mJ0_coder_7d493 : zz_Y := (yJ0_coder_7d493, cJ0_coder_7d493, 1, (some .byte))
theorem y_J0_coder_7d493 : zz_yy mJ0_coder_7d493 0 := ⟨(zz_c1 12 rfl rfl), (zz_c2 187 rfl rfl), by decide, by decide, by decide +kernel⟩
abbrev mJ0_isLatin1_aae02 : zz_Y := (yJ0_isLatin1_aae02, cJ0_isLatin1_aae02, 1, (some .boolean))
theorem y_J0_isLatin1_aae02 : zz_yy mJ0_isLatin1_aae02 0 := ⟨(zz_c1 12 rfl rfl), (zz_c2 200 rfl rfl), by decide, by decide, by decide +kernel⟩
abbrev mJ0_checkIndex_df160 : zz_Y := (yJ0_checkIndex_df160, cJ0_checkIndex_df160, 2, none)
theorem y_J0_checkIndex_df160 : zz_yy mJ0_checkIndex_df160 2 := ⟨(zz_c1 12 rfl rfl), (zz_c2 206 rfl rfl), by decide, by decide, by decide +kernel⟩
abbrev mJ1_charAt_3b067 : zz_Y := (yJ1_charAt_3b067, cJ1_charAt_3b067, 2, (some .char))
theorem y_J1_charAt_3b067 : zz_yy mJ1_charAt_3b067 2 := ⟨(zz_c1 13 rfl rfl), (zz_c2 203 rfl rfl), by decide, by decide, by decide +kernel⟩
abbrev mJ1_canEncode_9a6ad : zz_Y := (yJ1_canEncode_9a6ad, cJ1_canEncode_9a6ad, 1, (some .boolean))
theorem y_J1_canEncode_9a6ad : zz_yy mJ1_canEncode_9a6ad 1 := ⟨(zz_c1 13 rfl rfl), (zz_c3 13 rfl rfl), by decide, by decide, by decide +kernel⟩
abbrev mJ1_indexOf_4cfef : zz_Y := (yJ1_indexOf_4cfef, cJ1_indexOf_4cfef, 4, (some .int))
theorem y_J1_indexOf_4cfef : zz_yy mJ1_indexOf_4cfef 4 := ⟨(zz_c1 13 rfl rfl), (zz_c3 10 rfl rfl), by decide, by decide, by decide +kernel⟩
abbrev mJ1_indexOfChar_4cfef : zz_Y := (yJ1_indexOfChar_4cfef, cJ1_indexOfChar_4cfef, 6, (some .int))
theorem y_J1_indexOfChar_4cfef : zz_yy mJ1_indexOfChar_4cfef 4 := ⟨(zz_c1 13 rfl rfl), (zz_c3 22 rfl rfl), by decide, by decide, by decide +kernel⟩
abbrev mJ3_checkIndex_8e157 : zz_Y := (yJ3_checkIndex_8e157, cJ3_checkIndex_8e157, 3, (some .int))
theorem y_J3_checkIndex_8e157 : zz_yy mJ3_checkIndex_8e157 3 := ⟨(zz_c1 14 rfl rfl), (zz_c2 211 rfl rfl), by decide, by decide, by decide +kernel⟩
theorem lJ0_335 : zz_LV RJ0 335 mJ0_coder_7d493 0 := ⟨Or.inl (zz_c2 184 rfl rfl), (zz_c2 185 rfl rfl), (zz_c2 186 rfl rfl), y_J0_coder_7d493⟩
theorem lJ0_492 : zz_LV RJ0 492 mJ0_isLatin1_aae02 0 := ⟨Or.inl (zz_c2 197 rfl rfl), (zz_c2 198 rfl rfl), (zz_c2 199 rfl rfl), y_J0_isLatin1_aae02⟩
theorem lJ0_495 : zz_LS RJ0 495 mJ1_charAt_3b067 2 := ⟨Or.inl (zz_c2 201 rfl rfl), (zz_c2 202 rfl rfl), y_J1_charAt_3b067⟩
theorem lJ0_633 : zz_LV RJ0 633 mJ0_indexOf_7cf53 2 := ⟨Or.inl (zz_c3 3 rfl rfl), (zz_c3 4 rfl rfl), (zz_c3 5 rfl rfl), y_J0_indexOf_7cf53⟩
theorem lJ0_505 : zz_LV RJ0 505 mJ0_length_8abf5 0 := ⟨Or.inl (zz_c3 7 rfl rfl), (zz_c2 181 rfl rfl), (zz_c2 182 rfl rfl), y_J0_length_8abf5⟩
theorem lJ0_637 : zz_LS RJ0 637 mJ1_indexOf_4cfef 4 := ⟨Or.inl (zz_c3 8 rfl rfl), (zz_c3 9 rfl rfl), y_J1_indexOf_4cfef⟩
theorem lJ0_1059 : zz_LS RJ0 1059 mJ3_checkIndex_8e157 3 := ⟨Or.inl (zz_c2 209 rfl rfl), (zz_c2 210 rfl rfl), y_J3_checkIndex_8e157⟩
theorem lJ1_9 : zz_LS RJ1 9 mJ0_checkIndex_df160 2 := ⟨Or.inl (zz_c2 204 rfl rfl), (zz_c2 205 rfl rfl), y_J0_checkIndex_df160⟩
theorem lJ1_88 : zz_LS RJ1 88 mJ1_canEncode_9a6ad 1 := ⟨Or.inl (zz_c3 11 rfl rfl), (zz_c3 12 rfl rfl), y_J1_canEncode_9a6ad⟩
theorem lJ1_95 : zz_LS RJ1 95 mJ1_indexOfChar_4cfef 4 := ⟨Or.inl (zz_c3 20 rfl rfl), (zz_c3 21 rfl rfl), y_J1_indexOfChar_4cfef⟩
theorem lX7_52 : zz_LV RX7 52 mJ0_indexOf_0f7a4 1 := ⟨Or.inl (zz_c2 239 rfl rfl), (zz_c3 0 rfl rfl), (zz_c3 1 rfl rfl), y_J0_indexOf_0f7a4⟩
theorem lX7_66 : zz_LV RX7 66 mJ0_length_8abf5 0 := ⟨Or.inl (zz_c2 180 rfl rfl), (zz_c2 181 rfl rfl), (zz_c2 182 rfl rfl), y_J0_length_8abf5⟩
theorem lX7_74 : zz_LV RX7 74 mJ0_charAt_5068e 1 := ⟨Or.inl (zz_c2 193 rfl rfl), (zz_c2 194 rfl rfl), (zz_c2 195 rfl rfl), y_J0_charAt_5068e⟩
def zz_chr (i j : Nat) : Int32 := ((zz_by i j &&& 255).toUInt32 % 65536).toInt32
/-- a byte of the constant is the character -/
def zz_iC (i : Nat) (ch : Int32) : Prop := ∃ j, j < zz_ln i ∧ zz_by i j = ch.toInt8.toInt32
theorem zz_iCn {i j : Nat} {z b ch : Int32} (ez : z = zz_by i j) (eb : ch.toInt8.toInt32 = b) (h : ¬ z = b) : ¬ zz_by i j = ch.toInt8.toInt32 := by
  rw [← ez, eb]; exact h
theorem zz_iCy {i j : Nat} {z b ch : Int32} (ez : z = zz_by i j) (eb : ch.toInt8.toInt32 = b) (h : z = b) : zz_by i j = ch.toInt8.toInt32 := by
  rw [← ez, eb]; exact h
theorem zz_iCs {i k : Nat} {x : Int32} (h : ∀ j, j < k → ¬ zz_by i j = x) (hk : ¬ zz_by i k = x) : ∀ j, j < k + 1 → ¬ zz_by i j = x := by
  intro j hj
  by_cases q : j = k
  · subst q; exact hk
  · exact h j (by omega)
theorem zz_ce0 {r x : Int32} (h : (r = 1 ∧ (¬ x < 0 ∧ ¬ 255 < x)) ∨ (r = 0 ∧ (x < 0 ∨ 255 < x))) (c : r = 0) : x < 0 ∨ 255 < x := by
  rcases h with ⟨h, -⟩ | ⟨-, h⟩
  · subst h; exact absurd c (by decide)
  · exact h
theorem zz_ce1 {r x : Int32} (h : (r = 1 ∧ (¬ x < 0 ∧ ¬ 255 < x)) ∨ (r = 0 ∧ (x < 0 ∨ 255 < x))) (c : ¬ r = 0) : ¬ x < 0 ∧ ¬ 255 < x := by
  rcases h with ⟨-, h⟩ | ⟨h, -⟩
  · exact h
  · exact absurd h c
theorem zz_iE0 {i : Nat} {ch : Int32} (h : ch < 0 ∨ 255 < ch) : (¬ (-1 : Int32) < 0 ∧ (zz_iC i ch ∧ ¬ ch < 0 ∧ ¬ 255 < ch)) ∨ ((-1 : Int32) < 0 ∧ ¬ (zz_iC i ch ∧ ¬ ch < 0 ∧ ¬ 255 < ch)) := Or.inr ⟨by decide, fun z => h.elim z.2.1 z.2.2⟩
theorem zz_iE1 {i : Nat} {rv ch : Int32} (h : (¬ rv < 0 ∧ zz_iC i ch) ∨ (rv < 0 ∧ ¬ zz_iC i ch)) (h2 : ¬ ch < 0 ∧ ¬ 255 < ch) : (¬ rv < 0 ∧ (zz_iC i ch ∧ ¬ ch < 0 ∧ ¬ 255 < ch)) ∨ (rv < 0 ∧ ¬ (zz_iC i ch ∧ ¬ ch < 0 ∧ ¬ 255 < ch)) := by
  rcases h with ⟨a, b⟩ | ⟨a, b⟩
  · exact Or.inl ⟨a, b, h2⟩
  · exact Or.inr ⟨a, fun z => b z.1⟩
theorem kd_ncJ0_coder_7d493 : kd_ck 893156506421016476201377522195497138 15 cJ0_coder_7d493.data.toList 0 = true := by decide +kernel
theorem dJ0_coder_7d493_0 : decode cJ0_coder_7d493 0 = .ok (.getstatic 38, 3) := kd_dk2 kd_o178 kd_ncJ0_coder_7d493 rfl
theorem dJ0_coder_7d493_3 : decode cJ0_coder_7d493 3 = .ok (.ifCond .eq 10, 3) := kd_dj2 kd_o153 (w := 10) kd_ncJ0_coder_7d493 rfl rfl
theorem dJ0_coder_7d493_6 : decode cJ0_coder_7d493 6 = .ok (.aload_n 0, 1) := kd_dk0 kd_o42 kd_ncJ0_coder_7d493 rfl
theorem dJ0_coder_7d493_7 : decode cJ0_coder_7d493 7 = .ok (.getfield 15, 3) := kd_dk2 kd_o180 kd_ncJ0_coder_7d493 rfl
theorem dJ0_coder_7d493_10 : decode cJ0_coder_7d493 10 = .ok (.goto 4, 3) := kd_dj2 kd_o167 (w := 4) kd_ncJ0_coder_7d493 rfl rfl
theorem dJ0_coder_7d493_13 : decode cJ0_coder_7d493 13 = .ok (.iconst 1, 1) := kd_dk0 kd_o4 kd_ncJ0_coder_7d493 rfl
theorem dJ0_coder_7d493_14 : decode cJ0_coder_7d493 14 = .ok (.ireturn, 1) := kd_dk0 kd_o172 kd_ncJ0_coder_7d493 rfl
set_option maxHeartbeats 8000000 in
set_option maxRecDepth 100000 in
theorem c_jcoder (l : Launch) (G : zz_G) (K : zz_K) (ki : Nat) (hki : ki < 2) : zz_MS l G K mJ0_coder_7d493 0 0 0 [.ref (K.1 ki)] [] (fun rr u => rr = some (.int 0) ∧ u = []) := by
  refine zz_Senteri (by decide +kernel) (Nat.le_of_ble_eq_true rfl) ?_
  intro p e s m args below meth c A Q ls S hnm hret hs hw hl
  have hl : lv_has ls 1 [(0, .ref (K.1 ki))] := hl
  have hx := S.1
  have hb := S.2.1
  refine zz_gcs S hs hw (zz_c2 188 rfl rfl) dJ0_coder_7d493_0 ?_
  refine lv_if_eq (tgt := 13) hx hb dJ0_coder_7d493_3 (by decide) (fun cc => absurd cc (by decide)) (fun _ => ?_)
  refine lv_aload_n hx hb dJ0_coder_7d493_6 rfl (lv_at hl 0 rfl) ?_
  refine zz_gcod S hs hw (by omega) (zz_c8 56 rfl rfl) dJ0_coder_7d493_7 ?_
  refine lv_goto (tgt := 14) hx hb dJ0_coder_7d493_10 (by decide) ?_
  exact hret _ _ _ _ _ _ ⟨rfl, rfl⟩ hw rfl dJ0_coder_7d493_14
theorem kd_ncJ0_isLatin1_aae02 : kd_ck 3835990873001725404635051113289207544044454066 19 cJ0_isLatin1_aae02.data.toList 0 = true := by decide +kernel
theorem dJ0_isLatin1_aae02_0 : decode cJ0_isLatin1_aae02 0 = .ok (.getstatic 38, 3) := kd_dk2 kd_o178 kd_ncJ0_isLatin1_aae02 rfl
theorem dJ0_isLatin1_aae02_3 : decode cJ0_isLatin1_aae02 3 = .ok (.ifCond .eq 14, 3) := kd_dj2 kd_o153 (w := 14) kd_ncJ0_isLatin1_aae02 rfl rfl
theorem dJ0_isLatin1_aae02_6 : decode cJ0_isLatin1_aae02 6 = .ok (.aload_n 0, 1) := kd_dk0 kd_o42 kd_ncJ0_isLatin1_aae02 rfl
theorem dJ0_isLatin1_aae02_7 : decode cJ0_isLatin1_aae02 7 = .ok (.getfield 15, 3) := kd_dk2 kd_o180 kd_ncJ0_isLatin1_aae02 rfl
theorem dJ0_isLatin1_aae02_10 : decode cJ0_isLatin1_aae02 10 = .ok (.ifCond .ne 7, 3) := kd_dj2 kd_o154 (w := 7) kd_ncJ0_isLatin1_aae02 rfl rfl
theorem dJ0_isLatin1_aae02_13 : decode cJ0_isLatin1_aae02 13 = .ok (.iconst 1, 1) := kd_dk0 kd_o4 kd_ncJ0_isLatin1_aae02 rfl
theorem dJ0_isLatin1_aae02_14 : decode cJ0_isLatin1_aae02 14 = .ok (.goto 4, 3) := kd_dj2 kd_o167 (w := 4) kd_ncJ0_isLatin1_aae02 rfl rfl
theorem dJ0_isLatin1_aae02_17 : decode cJ0_isLatin1_aae02 17 = .ok (.iconst 0, 1) := kd_dk0 kd_o3 kd_ncJ0_isLatin1_aae02 rfl
theorem dJ0_isLatin1_aae02_18 : decode cJ0_isLatin1_aae02 18 = .ok (.ireturn, 1) := kd_dk0 kd_o172 kd_ncJ0_isLatin1_aae02 rfl
set_option maxHeartbeats 8000000 in
set_option maxRecDepth 100000 in
theorem c_jisLatin (l : Launch) (G : zz_G) (K : zz_K) (ki : Nat) (hki : ki < 2) : zz_MS l G K mJ0_isLatin1_aae02 0 0 0 [.ref (K.1 ki)] [] (fun rr u => rr = some (.int 1) ∧ u = []) := by
  refine zz_Senteri (by decide +kernel) (Nat.le_of_ble_eq_true rfl) ?_
  intro p e s m args below meth c A Q ls S hnm hret hs hw hl
  have hl : lv_has ls 1 [(0, .ref (K.1 ki))] := hl
  have hx := S.1
  have hb := S.2.1
  refine zz_gcs S hs hw (zz_c2 188 rfl rfl) dJ0_isLatin1_aae02_0 ?_
  refine lv_if_eq (tgt := 17) hx hb dJ0_isLatin1_aae02_3 (by decide) (fun cc => absurd cc (by decide)) (fun _ => ?_)
  refine lv_aload_n hx hb dJ0_isLatin1_aae02_6 rfl (lv_at hl 0 rfl) ?_
  refine zz_gcod S hs hw (by omega) (zz_c8 56 rfl rfl) dJ0_isLatin1_aae02_7 ?_
  refine lv_if_ne (tgt := 17) hx hb dJ0_isLatin1_aae02_10 (by decide) (fun cc => absurd cc (by decide)) (fun _ => ?_)
  refine lv_iconst (v := 1) hx hb dJ0_isLatin1_aae02_13 (by decide) ?_
  refine lv_goto (tgt := 18) hx hb dJ0_isLatin1_aae02_14 (by decide) ?_
  exact hret _ _ _ _ _ _ ⟨rfl, rfl⟩ hw rfl dJ0_isLatin1_aae02_18
theorem kd_ncJ0_length_8abf5 : kd_ck 208512827100741173302572074 11 cJ0_length_8abf5.data.toList 0 = true := by decide +kernel
theorem dJ0_length_8abf5_0 : decode cJ0_length_8abf5 0 = .ok (.aload_n 0, 1) := kd_dk0 kd_o42 kd_ncJ0_length_8abf5 rfl
theorem dJ0_length_8abf5_1 : decode cJ0_length_8abf5 1 = .ok (.getfield 9, 3) := kd_dk2 kd_o180 kd_ncJ0_length_8abf5 rfl
theorem dJ0_length_8abf5_4 : decode cJ0_length_8abf5 4 = .ok (.arraylength, 1) := kd_dk0 kd_o190 kd_ncJ0_length_8abf5 rfl
theorem dJ0_length_8abf5_5 : decode cJ0_length_8abf5 5 = .ok (.aload_n 0, 1) := kd_dk0 kd_o42 kd_ncJ0_length_8abf5 rfl
theorem dJ0_length_8abf5_6 : decode cJ0_length_8abf5 6 = .ok (.invokevirtual 335, 3) := kd_dk2 kd_o182 kd_ncJ0_length_8abf5 rfl
theorem dJ0_length_8abf5_9 : decode cJ0_length_8abf5 9 = .ok (.ishr, 1) := kd_dk0 kd_o122 kd_ncJ0_length_8abf5 rfl
theorem dJ0_length_8abf5_10 : decode cJ0_length_8abf5 10 = .ok (.ireturn, 1) := kd_dk0 kd_o172 kd_ncJ0_length_8abf5 rfl
set_option maxHeartbeats 8000000 in
set_option maxRecDepth 100000 in
theorem c_jlength (l : Launch) (G : zz_G) (K : zz_K) (ki : Nat) (hki : ki < 2) : zz_MS l G K mJ0_length_8abf5 1 0 0 [.ref (K.1 ki)] [] (fun rr u => rr = some (.int (nI (zz_ln ki))) ∧ u = []) := by
  refine zz_Senteri (by decide +kernel) (Nat.le_of_ble_eq_true rfl) ?_
  intro p e s m args below meth c A Q ls S hnm hret hs hw hl
  have hl : lv_has ls 1 [(0, .ref (K.1 ki))] := hl
  have hx := S.1
  have hb := S.2.1
  refine lv_aload_n hx hb dJ0_length_8abf5_0 rfl (lv_at hl 0 rfl) ?_
  refine zz_gval S hs hw (by omega) (zz_c8 55 rfl rfl) dJ0_length_8abf5_1 ?_
  refine zz_slen S hs hw (by omega) dJ0_length_8abf5_4 ?_
  refine lv_aload_n hx hb dJ0_length_8abf5_5 rfl (lv_at hl 0 rfl) ?_
  refine zz_callKs (As := []) (rest := [.int (nI (zz_ln ki))]) (wr := []) S hs hw hl.1 lJ0_335 (c_jcoder l G K ki (by first | assumption | omega | exact Or.inr ⟨_, by omega, rfl⟩ | (unfold zz_sok; decide) | decide | exact (fun j hj => (hv7 j hj).1))) ⟨Nat.le_of_ble_eq_true rfl, Nat.le_of_ble_eq_true rfl⟩ ⟨Nat.le_of_ble_eq_true rfl, Nat.le_of_ble_eq_true rfl⟩ [] [] (by decide) rfl rfl (by decide) (by decide) (by omega) rfl rfl rfl (Nat.le_of_ble_eq_true rfl) dJ0_length_8abf5_6 ?_
  clear hw
  intro rr u H locs hp hw
  refine hp.elim fun zee1 zee2 => ?_
  clear hp
  subst zee1
  subst zee2
  replace hw : zz_w G A s [] H _ := hw
  refine W.eq (g2 := F0 m 9 ls [.int 0, .int (nI (zz_ln ki))]) rfl ?_
  refine lv_ishr hx hb dJ0_length_8abf5_9 ?_
  refine zz_topi (y := (nI (zz_ln ki))) (zz_shr0) ?_
  exact hret _ _ _ _ _ _ ⟨rfl, rfl⟩ hw rfl dJ0_length_8abf5_10
theorem kd_ncJ3_checkIndex_8e157 : kd_ck 14992414897632689672647637554223206233053978 18 cJ3_checkIndex_8e157.data.toList 0 = true := by decide +kernel
theorem dJ3_checkIndex_8e157_0 : decode cJ3_checkIndex_8e157 0 = .ok (.iload_n 0, 1) := kd_dk0 kd_o26 kd_ncJ3_checkIndex_8e157 rfl
theorem dJ3_checkIndex_8e157_1 : decode cJ3_checkIndex_8e157 1 = .ok (.ifCond .lt 8, 3) := kd_dj2 kd_o155 (w := 8) kd_ncJ3_checkIndex_8e157 rfl rfl
theorem dJ3_checkIndex_8e157_4 : decode cJ3_checkIndex_8e157 4 = .ok (.iload_n 0, 1) := kd_dk0 kd_o26 kd_ncJ3_checkIndex_8e157 rfl
theorem dJ3_checkIndex_8e157_5 : decode cJ3_checkIndex_8e157 5 = .ok (.iload_n 1, 1) := kd_dk0 kd_o27 kd_ncJ3_checkIndex_8e157 rfl
theorem dJ3_checkIndex_8e157_6 : decode cJ3_checkIndex_8e157 6 = .ok (.if_icmp .lt 10, 3) := kd_dj2 kd_o161 (w := 10) kd_ncJ3_checkIndex_8e157 rfl rfl
theorem dJ3_checkIndex_8e157_9 : decode cJ3_checkIndex_8e157 9 = .ok (.aload_n 2, 1) := kd_dk0 kd_o44 kd_ncJ3_checkIndex_8e157 rfl
theorem dJ3_checkIndex_8e157_10 : decode cJ3_checkIndex_8e157 10 = .ok (.iload_n 0, 1) := kd_dk0 kd_o26 kd_ncJ3_checkIndex_8e157 rfl
theorem dJ3_checkIndex_8e157_11 : decode cJ3_checkIndex_8e157 11 = .ok (.iload_n 1, 1) := kd_dk0 kd_o27 kd_ncJ3_checkIndex_8e157 rfl
theorem dJ3_checkIndex_8e157_12 : decode cJ3_checkIndex_8e157 12 = .ok (.invokestatic 95, 3) := kd_dk2 kd_o184 kd_ncJ3_checkIndex_8e157 rfl
theorem dJ3_checkIndex_8e157_15 : decode cJ3_checkIndex_8e157 15 = .ok (.athrow, 1) := kd_dk0 kd_o191 kd_ncJ3_checkIndex_8e157 rfl
theorem dJ3_checkIndex_8e157_16 : decode cJ3_checkIndex_8e157 16 = .ok (.iload_n 0, 1) := kd_dk0 kd_o26 kd_ncJ3_checkIndex_8e157 rfl
theorem dJ3_checkIndex_8e157_17 : decode cJ3_checkIndex_8e157 17 = .ok (.ireturn, 1) := kd_dk0 kd_o172 kd_ncJ3_checkIndex_8e157 rfl
set_option maxHeartbeats 8000000 in
set_option maxRecDepth 100000 in
theorem c_jcheck0 (l : Launch) (G : zz_G) (kx : Nat) (kn : Nat) (hkx : kx < kn) (hkn : kn ≤ 160) : zz_M l G mJ3_checkIndex_8e157 0 0 0 [.int (nI kx), .int (nI kn), .null] [] (fun rr u => rr = some (.int (nI kx)) ∧ u = []) := by
  refine zz_enteri (by decide +kernel) (Nat.le_of_ble_eq_true rfl) ?_
  intro p e s m args below meth c A Q ls S hnm hret hw hl
  have hl : lv_has ls 3 [(0, .int (nI kx)), (1, .int (nI kn)), (2, .null)] := hl
  have hx := S.1
  have hb := S.2.1
  refine lv_iload_n hx hb dJ3_checkIndex_8e157_0 rfl (lv_at hl 0 rfl) ?_
  refine lv_if_lt (tgt := 9) hx hb dJ3_checkIndex_8e157_1 (by decide) (fun cc => absurd cc (nI_pos (n := kx) (by omega))) (fun _ => ?_)
  refine lv_iload_n hx hb dJ3_checkIndex_8e157_4 rfl (lv_at hl 0 rfl) ?_
  refine lv_iload_n hx hb dJ3_checkIndex_8e157_5 rfl (lv_at hl 1 rfl) ?_
  refine lv_icmp_lt (tgt := 16) hx hb dJ3_checkIndex_8e157_6 (by decide) (fun _ => ?_) (fun cc => absurd ((zz_lt (a := kx) (b := kn) rfl rfl (by omega) (by omega)).mpr (by omega)) cc)
  refine lv_iload_n hx hb dJ3_checkIndex_8e157_16 rfl (lv_at hl 0 rfl) ?_
  exact hret _ _ _ _ _ _ ⟨rfl, rfl⟩ hw rfl dJ3_checkIndex_8e157_17
set_option maxHeartbeats 8000000 in
set_option maxRecDepth 100000 in
theorem c_jcheck1 (l : Launch) (G : zz_G) (kx : Nat) (kn : Nat) (tt : Nat) (hkx : kx < kn) (hkn : kn ≤ 160) : zz_M l G mJ3_checkIndex_8e157 0 0 0 [.int (nI kx), .int (nI kn), .ref tt] [] (fun rr u => rr = some (.int (nI kx)) ∧ u = []) := by
  refine zz_enteri (by decide +kernel) (Nat.le_of_ble_eq_true rfl) ?_
  intro p e s m args below meth c A Q ls S hnm hret hw hl
  have hl : lv_has ls 3 [(0, .int (nI kx)), (1, .int (nI kn)), (2, .ref tt)] := hl
  have hx := S.1
  have hb := S.2.1
  refine lv_iload_n hx hb dJ3_checkIndex_8e157_0 rfl (lv_at hl 0 rfl) ?_
  refine lv_if_lt (tgt := 9) hx hb dJ3_checkIndex_8e157_1 (by decide) (fun cc => absurd cc (nI_pos (n := kx) (by omega))) (fun _ => ?_)
  refine lv_iload_n hx hb dJ3_checkIndex_8e157_4 rfl (lv_at hl 0 rfl) ?_
  refine lv_iload_n hx hb dJ3_checkIndex_8e157_5 rfl (lv_at hl 1 rfl) ?_
  refine lv_icmp_lt (tgt := 16) hx hb dJ3_checkIndex_8e157_6 (by decide) (fun _ => ?_) (fun cc => absurd ((zz_lt (a := kx) (b := kn) rfl rfl (by omega) (by omega)).mpr (by omega)) cc)
  refine lv_iload_n hx hb dJ3_checkIndex_8e157_16 rfl (lv_at hl 0 rfl) ?_
  exact hret _ _ _ _ _ _ ⟨rfl, rfl⟩ hw rfl dJ3_checkIndex_8e157_17
theorem kd_ncJ0_checkIndex_df160 : kd_ck 837466257546465940478746 10 cJ0_checkIndex_df160.data.toList 0 = true := by decide +kernel
theorem dJ0_checkIndex_df160_0 : decode cJ0_checkIndex_df160 0 = .ok (.iload_n 0, 1) := kd_dk0 kd_o26 kd_ncJ0_checkIndex_df160 rfl
theorem dJ0_checkIndex_df160_1 : decode cJ0_checkIndex_df160 1 = .ok (.iload_n 1, 1) := kd_dk0 kd_o27 kd_ncJ0_checkIndex_df160 rfl
theorem dJ0_checkIndex_df160_2 : decode cJ0_checkIndex_df160 2 = .ok (.getstatic 1053, 3) := kd_dk2 kd_o178 kd_ncJ0_checkIndex_df160 rfl
theorem dJ0_checkIndex_df160_5 : decode cJ0_checkIndex_df160 5 = .ok (.invokestatic 1059, 3) := kd_dk2 kd_o184 kd_ncJ0_checkIndex_df160 rfl
theorem dJ0_checkIndex_df160_8 : decode cJ0_checkIndex_df160 8 = .ok (.pop, 1) := kd_dk0 kd_o87 kd_ncJ0_checkIndex_df160 rfl
theorem dJ0_checkIndex_df160_9 : decode cJ0_checkIndex_df160 9 = .ok (.return_, 1) := kd_dk0 kd_o177 kd_ncJ0_checkIndex_df160 rfl
set_option maxHeartbeats 8000000 in
set_option maxRecDepth 100000 in
theorem c_jcheckI (l : Launch) (G : zz_G) (K : zz_K) (kx : Nat) (kn : Nat) (hkx : kx < kn) (hkn : kn ≤ 160) : zz_MS l G K mJ0_checkIndex_df160 1 0 0 [.int (nI kx), .int (nI kn)] [] (fun rr u => rr = none ∧ u = []) := by
  refine zz_Senterv (by decide +kernel) (Nat.le_of_ble_eq_true rfl) ?_
  intro p e s m args below meth c A Q ls S hnm hret hs hw hl
  have hl : lv_has ls 2 [(0, .int (nI kx)), (1, .int (nI kn))] := hl
  have hx := S.1
  have hb := S.2.1
  refine lv_iload_n hx hb dJ0_checkIndex_df160_0 rfl (lv_at hl 0 rfl) ?_
  refine lv_iload_n hx hb dJ0_checkIndex_df160_1 rfl (lv_at hl 1 rfl) ?_
  refine zz_gsf S hs hw (zz_c2 207 rfl rfl) dJ0_checkIndex_df160_2 ?_ (fun vt1 => ?_)
  · skip
    refine zz_callS (As := [.int (nI kx), .int (nI kn), .null]) (rest := []) (wr := []) S hw hl.1 lJ0_1059 (c_jcheck0 l G kx kn (by first | assumption | omega | exact Or.inr ⟨_, by omega, rfl⟩ | (unfold zz_sok; decide) | decide | exact (fun j hj => (hv7 j hj).1)) (by first | assumption | omega | exact Or.inr ⟨_, by omega, rfl⟩ | (unfold zz_sok; decide) | decide | exact (fun j hj => (hv7 j hj).1))) ⟨Nat.le_of_ble_eq_true rfl, Nat.le_of_ble_eq_true rfl⟩ ⟨Nat.le_of_ble_eq_true rfl, Nat.le_of_ble_eq_true rfl⟩ [] [] (by decide) rfl rfl (by decide) (by decide) rfl rfl (Nat.le_of_ble_eq_true rfl) dJ0_checkIndex_df160_5 ?_
    clear hw
    intro rr u H locs hp hw
    refine hp.elim fun zee1 zee2 => ?_
    clear hp
    subst zee1
    subst zee2
    replace hw : zz_w G A s [] H _ := hw
    refine W.eq (g2 := F0 m 8 ls [.int (nI kx)]) rfl ?_
    refine lv_pop hx hb dJ0_checkIndex_df160_8 rfl ?_
    exact hret _ _ _ _ _ ⟨rfl, rfl⟩ hw dJ0_checkIndex_df160_9
  · skip
    refine zz_callS (As := [.int (nI kx), .int (nI kn), .ref vt1]) (rest := []) (wr := []) S hw hl.1 lJ0_1059 (c_jcheck1 l G kx kn vt1 (by first | assumption | omega | exact Or.inr ⟨_, by omega, rfl⟩ | (unfold zz_sok; decide) | decide | exact (fun j hj => (hv7 j hj).1)) (by first | assumption | omega | exact Or.inr ⟨_, by omega, rfl⟩ | (unfold zz_sok; decide) | decide | exact (fun j hj => (hv7 j hj).1))) ⟨Nat.le_of_ble_eq_true rfl, Nat.le_of_ble_eq_true rfl⟩ ⟨Nat.le_of_ble_eq_true rfl, Nat.le_of_ble_eq_true rfl⟩ [] [] (by decide) rfl rfl (by decide) (by decide) rfl rfl (Nat.le_of_ble_eq_true rfl) dJ0_checkIndex_df160_5 ?_
    clear hw
    intro rr u H locs hp hw
    refine hp.elim fun zee1 zee2 => ?_
    clear hp
    subst zee1
    subst zee2
    replace hw : zz_w G A s [] H _ := hw
    refine W.eq (g2 := F0 m 8 ls [.int (nI kx)]) rfl ?_
    refine lv_pop hx hb dJ0_checkIndex_df160_8 rfl ?_
    exact hret _ _ _ _ _ ⟨rfl, rfl⟩ hw dJ0_checkIndex_df160_9
theorem kd_ncJ1_charAt_3b067 : kd_ck 896046353137359020710214408576313883 15 cJ1_charAt_3b067.data.toList 0 = true := by decide +kernel
theorem dJ1_charAt_3b067_0 : decode cJ1_charAt_3b067 0 = .ok (.iload_n 1, 1) := kd_dk0 kd_o27 kd_ncJ1_charAt_3b067 rfl
theorem dJ1_charAt_3b067_1 : decode cJ1_charAt_3b067 1 = .ok (.aload_n 0, 1) := kd_dk0 kd_o42 kd_ncJ1_charAt_3b067 rfl
theorem dJ1_charAt_3b067_2 : decode cJ1_charAt_3b067 2 = .ok (.arraylength, 1) := kd_dk0 kd_o190 kd_ncJ1_charAt_3b067 rfl
theorem dJ1_charAt_3b067_3 : decode cJ1_charAt_3b067 3 = .ok (.invokestatic 9, 3) := kd_dk2 kd_o184 kd_ncJ1_charAt_3b067 rfl
theorem dJ1_charAt_3b067_6 : decode cJ1_charAt_3b067 6 = .ok (.aload_n 0, 1) := kd_dk0 kd_o42 kd_ncJ1_charAt_3b067 rfl
theorem dJ1_charAt_3b067_7 : decode cJ1_charAt_3b067 7 = .ok (.iload_n 1, 1) := kd_dk0 kd_o27 kd_ncJ1_charAt_3b067 rfl
theorem dJ1_charAt_3b067_8 : decode cJ1_charAt_3b067 8 = .ok (.baload, 1) := kd_dk0 kd_o51 kd_ncJ1_charAt_3b067 rfl
theorem dJ1_charAt_3b067_9 : decode cJ1_charAt_3b067 9 = .ok (.sipush 255, 3) := kd_dj2 kd_o17 (w := 255) kd_ncJ1_charAt_3b067 rfl rfl
theorem dJ1_charAt_3b067_12 : decode cJ1_charAt_3b067 12 = .ok (.iand, 1) := kd_dk0 kd_o126 kd_ncJ1_charAt_3b067 rfl
theorem dJ1_charAt_3b067_13 : decode cJ1_charAt_3b067 13 = .ok (.i2c, 1) := kd_dk0 kd_o146 kd_ncJ1_charAt_3b067 rfl
theorem dJ1_charAt_3b067_14 : decode cJ1_charAt_3b067 14 = .ok (.ireturn, 1) := kd_dk0 kd_o172 kd_ncJ1_charAt_3b067 rfl
set_option maxHeartbeats 8000000 in
set_option maxRecDepth 100000 in
theorem c_jcharAtL (l : Launch) (G : zz_G) (K : zz_K) (ki : Nat) (kx : Nat) (hki : ki < 2) (hkx : kx < zz_ln ki) : zz_MS l G K mJ1_charAt_3b067 2 0 0 [.ref (K.2 ki), .int (nI kx)] [] (fun rr u => ∃ (rv : Int32), rr = some (.int rv) ∧ u = [] ∧ (narrow .char (.int rv) = .int rv) ∧ (rv = zz_chr ki kx)) := by
  refine zz_Senteri (by decide +kernel) (Nat.le_of_ble_eq_true rfl) ?_
  intro p e s m args below meth c A Q ls S hnm hret hs hw hl
  have hl : lv_has ls 2 [(0, .ref (K.2 ki)), (1, .int (nI kx))] := hl
  have hx := S.1
  have hb := S.2.1
  have hln := @zz_ln_le ki
  refine lv_iload_n hx hb dJ1_charAt_3b067_0 rfl (lv_at hl 1 rfl) ?_
  refine lv_aload_n hx hb dJ1_charAt_3b067_1 rfl (lv_at hl 0 rfl) ?_
  refine zz_slen S hs hw (by omega) dJ1_charAt_3b067_2 ?_
  refine zz_callSs (As := [.int (nI kx), .int (nI (zz_ln ki))]) (rest := []) (wr := []) S hs hw hl.1 lJ1_9 (c_jcheckI l G K kx (zz_ln ki) (by first | assumption | omega | exact Or.inr ⟨_, by omega, rfl⟩ | (unfold zz_sok; decide) | decide | exact (fun j hj => (hv7 j hj).1)) (by first | assumption | omega | exact Or.inr ⟨_, by omega, rfl⟩ | (unfold zz_sok; decide) | decide | exact (fun j hj => (hv7 j hj).1))) ⟨Nat.le_of_ble_eq_true rfl, Nat.le_of_ble_eq_true rfl⟩ ⟨Nat.le_of_ble_eq_true rfl, Nat.le_of_ble_eq_true rfl⟩ [] [] (by decide) rfl rfl (by decide) (by decide) rfl rfl (Nat.le_of_ble_eq_true rfl) dJ1_charAt_3b067_3 ?_
  clear hw
  intro rr u H locs hp hw
  refine hp.elim fun zee1 zee2 => ?_
  clear hp
  subst zee1
  subst zee2
  replace hw : zz_w G A s [] H _ := hw
  refine W.eq (g2 := F0 m 6 ls []) rfl ?_
  refine lv_aload_n hx hb dJ1_charAt_3b067_6 rfl (lv_at hl 0 rfl) ?_
  refine lv_iload_n hx hb dJ1_charAt_3b067_7 rfl (lv_at hl 1 rfl) ?_
  refine zz_sbld (j := kx) S hs hw (by omega) (by omega) dJ1_charAt_3b067_8 ?_
  refine lv_topi (fun vz1 evz1 => ?_)
  have h3vz1 : ¬ vz1 = 3 := by rw [evz1]; exact zz_by3
  refine lv_sipush (v := 255) hx hb dJ1_charAt_3b067_9 (by decide) ?_
  refine lv_iand hx hb dJ1_charAt_3b067_12 ?_
  refine lv_topi (fun z2 ez2 => ?_)
  obtain ⟨z3, ez3⟩ : ∃ z : Int32, (z2.toUInt32 % 65536).toInt32 = z := ⟨_, rfl⟩
  refine lv_i2c (v := z3) hx hb dJ1_charAt_3b067_13 ez3 ?_
  exact hret _ _ _ _ _ _ ⟨z3, rfl, rfl, (by first | assumption | exact zz_nchar (by assumption)), (by subst_vars; rfl)⟩ hw (by first | assumption | exact zz_nchar (by assumption)) dJ1_charAt_3b067_14
theorem kd_ncJ0_charAt_5068e : kd_ck 1085595485883798182811828995627738532365839674420030395758122 25 cJ0_charAt_5068e.data.toList 0 = true := by decide +kernel
theorem dJ0_charAt_5068e_0 : decode cJ0_charAt_5068e 0 = .ok (.aload_n 0, 1) := kd_dk0 kd_o42 kd_ncJ0_charAt_5068e rfl
theorem dJ0_charAt_5068e_1 : decode cJ0_charAt_5068e 1 = .ok (.invokevirtual 492, 3) := kd_dk2 kd_o182 kd_ncJ0_charAt_5068e rfl
theorem dJ0_charAt_5068e_4 : decode cJ0_charAt_5068e 4 = .ok (.ifCond .eq 12, 3) := kd_dj2 kd_o153 (w := 12) kd_ncJ0_charAt_5068e rfl rfl
theorem dJ0_charAt_5068e_7 : decode cJ0_charAt_5068e 7 = .ok (.aload_n 0, 1) := kd_dk0 kd_o42 kd_ncJ0_charAt_5068e rfl
theorem dJ0_charAt_5068e_8 : decode cJ0_charAt_5068e 8 = .ok (.getfield 9, 3) := kd_dk2 kd_o180 kd_ncJ0_charAt_5068e rfl
theorem dJ0_charAt_5068e_11 : decode cJ0_charAt_5068e 11 = .ok (.iload_n 1, 1) := kd_dk0 kd_o27 kd_ncJ0_charAt_5068e rfl
theorem dJ0_charAt_5068e_12 : decode cJ0_charAt_5068e 12 = .ok (.invokestatic 495, 3) := kd_dk2 kd_o184 kd_ncJ0_charAt_5068e rfl
theorem dJ0_charAt_5068e_15 : decode cJ0_charAt_5068e 15 = .ok (.ireturn, 1) := kd_dk0 kd_o172 kd_ncJ0_charAt_5068e rfl
theorem dJ0_charAt_5068e_16 : decode cJ0_charAt_5068e 16 = .ok (.aload_n 0, 1) := kd_dk0 kd_o42 kd_ncJ0_charAt_5068e rfl
theorem dJ0_charAt_5068e_17 : decode cJ0_charAt_5068e 17 = .ok (.getfield 9, 3) := kd_dk2 kd_o180 kd_ncJ0_charAt_5068e rfl
theorem dJ0_charAt_5068e_20 : decode cJ0_charAt_5068e 20 = .ok (.iload_n 1, 1) := kd_dk0 kd_o27 kd_ncJ0_charAt_5068e rfl
theorem dJ0_charAt_5068e_21 : decode cJ0_charAt_5068e 21 = .ok (.invokestatic 498, 3) := kd_dk2 kd_o184 kd_ncJ0_charAt_5068e rfl
theorem dJ0_charAt_5068e_24 : decode cJ0_charAt_5068e 24 = .ok (.ireturn, 1) := kd_dk0 kd_o172 kd_ncJ0_charAt_5068e rfl
set_option maxHeartbeats 8000000 in
set_option maxRecDepth 100000 in
theorem c_jcharAt (l : Launch) (G : zz_G) (K : zz_K) (ki : Nat) (kx : Nat) (hki : ki < 2) (hkx : kx < zz_ln ki) : zz_MS l G K mJ0_charAt_5068e 6 0 0 [.ref (K.1 ki), .int (nI kx)] [] (fun rr u => ∃ (rv : Int32), rr = some (.int rv) ∧ u = [] ∧ (narrow .char (.int rv) = .int rv) ∧ (rv = zz_chr ki kx)) := by
  refine zz_Senteri (by decide +kernel) (Nat.le_of_ble_eq_true rfl) ?_
  intro p e s m args below meth c A Q ls S hnm hret hs hw hl
  have hl : lv_has ls 2 [(0, .ref (K.1 ki)), (1, .int (nI kx))] := hl
  have hx := S.1
  have hb := S.2.1
  have hln := @zz_ln_le ki
  refine lv_aload_n hx hb dJ0_charAt_5068e_0 rfl (lv_at hl 0 rfl) ?_
  refine zz_callKs (As := []) (rest := []) (wr := []) S hs hw hl.1 lJ0_492 (c_jisLatin l G K ki (by first | assumption | omega | exact Or.inr ⟨_, by omega, rfl⟩ | (unfold zz_sok; decide) | decide | exact (fun j hj => (hv7 j hj).1))) ⟨Nat.le_of_ble_eq_true rfl, Nat.le_of_ble_eq_true rfl⟩ ⟨Nat.le_of_ble_eq_true rfl, Nat.le_of_ble_eq_true rfl⟩ [] [] (by decide) rfl rfl (by decide) (by decide) (by omega) rfl rfl rfl (Nat.le_of_ble_eq_true rfl) dJ0_charAt_5068e_1 ?_
  clear hw
  intro rr u H locs hp hw
  refine hp.elim fun zee1 zee2 => ?_
  clear hp
  subst zee1
  subst zee2
  replace hw : zz_w G A s [] H _ := hw
  refine W.eq (g2 := F0 m 4 ls [.int 1]) rfl ?_
  refine lv_if_eq (tgt := 16) hx hb dJ0_charAt_5068e_4 (by decide) (fun cc => absurd cc (by decide)) (fun _ => ?_)
  refine lv_aload_n hx hb dJ0_charAt_5068e_7 rfl (lv_at hl 0 rfl) ?_
  refine zz_gval S hs hw (by omega) (zz_c8 55 rfl rfl) dJ0_charAt_5068e_8 ?_
  refine lv_iload_n hx hb dJ0_charAt_5068e_11 rfl (lv_at hl 1 rfl) ?_
  refine zz_callSs (As := [.ref (K.2 ki), .int (nI kx)]) (rest := []) (wr := []) S hs hw hl.1 lJ0_495 (c_jcharAtL l G K ki kx (by first | assumption | omega | exact Or.inr ⟨_, by omega, rfl⟩ | (unfold zz_sok; decide) | decide | exact (fun j hj => (hv7 j hj).1)) (by first | assumption | omega | exact Or.inr ⟨_, by omega, rfl⟩ | (unfold zz_sok; decide) | decide | exact (fun j hj => (hv7 j hj).1))) ⟨Nat.le_of_ble_eq_true rfl, Nat.le_of_ble_eq_true rfl⟩ ⟨Nat.le_of_ble_eq_true rfl, Nat.le_of_ble_eq_true rfl⟩ [] [] (by decide) rfl rfl (by decide) (by decide) rfl rfl (Nat.le_of_ble_eq_true rfl) dJ0_charAt_5068e_12 ?_
  clear hw
  intro rr u H locs hp hw
  refine hp.elim fun rv_1 zg0 => zg0.elim fun zee1 zg1 => zg1.elim fun zee2 zg2 => zg2.elim fun hq12_0 hq12_1 => ?_
  clear hp zg0 zg1 zg2
  subst zee1
  subst zee2
  replace hw : zz_w G A s [] H _ := hw
  refine W.eq (g2 := F0 m 15 ls [.int rv_1]) rfl ?_
  exact hret _ _ _ _ _ _ ⟨rv_1, rfl, rfl, (by first | assumption | exact zz_nchar (by assumption)), (by assumption)⟩ hw (by first | assumption | exact zz_nchar (by assumption)) dJ0_charAt_5068e_15
theorem kd_ncJ1_canEncode_9a6ad : kd_ck 58532575576808554148057019071529182337818 17 cJ1_canEncode_9a6ad.data.toList 0 = true := by decide +kernel
theorem dJ1_canEncode_9a6ad_0 : decode cJ1_canEncode_9a6ad 0 = .ok (.iload_n 0, 1) := kd_dk0 kd_o26 kd_ncJ1_canEncode_9a6ad rfl
theorem dJ1_canEncode_9a6ad_1 : decode cJ1_canEncode_9a6ad 1 = .ok (.ifCond .lt 14, 3) := kd_dj2 kd_o155 (w := 14) kd_ncJ1_canEncode_9a6ad rfl rfl
theorem dJ1_canEncode_9a6ad_4 : decode cJ1_canEncode_9a6ad 4 = .ok (.iload_n 0, 1) := kd_dk0 kd_o26 kd_ncJ1_canEncode_9a6ad rfl
theorem dJ1_canEncode_9a6ad_5 : decode cJ1_canEncode_9a6ad 5 = .ok (.sipush 255, 3) := kd_dj2 kd_o17 (w := 255) kd_ncJ1_canEncode_9a6ad rfl rfl
theorem dJ1_canEncode_9a6ad_8 : decode cJ1_canEncode_9a6ad 8 = .ok (.if_icmp .gt 7, 3) := kd_dj2 kd_o163 (w := 7) kd_ncJ1_canEncode_9a6ad rfl rfl
theorem dJ1_canEncode_9a6ad_11 : decode cJ1_canEncode_9a6ad 11 = .ok (.iconst 1, 1) := kd_dk0 kd_o4 kd_ncJ1_canEncode_9a6ad rfl
theorem dJ1_canEncode_9a6ad_12 : decode cJ1_canEncode_9a6ad 12 = .ok (.goto 4, 3) := kd_dj2 kd_o167 (w := 4) kd_ncJ1_canEncode_9a6ad rfl rfl
theorem dJ1_canEncode_9a6ad_15 : decode cJ1_canEncode_9a6ad 15 = .ok (.iconst 0, 1) := kd_dk0 kd_o3 kd_ncJ1_canEncode_9a6ad rfl
theorem dJ1_canEncode_9a6ad_16 : decode cJ1_canEncode_9a6ad 16 = .ok (.ireturn, 1) := kd_dk0 kd_o172 kd_ncJ1_canEncode_9a6ad rfl
set_option maxHeartbeats 8000000 in
set_option maxRecDepth 100000 in
theorem c_jcanEncode (l : Launch) (G : zz_G) (ar1 : Int32) : zz_M l G mJ1_canEncode_9a6ad 0 0 0 [.int ar1] [] (fun rr u => ∃ (rv : Int32), rr = some (.int rv) ∧ u = [] ∧ (rv = 0 ∨ rv = 1) ∧ ((rv = 1 ∧ (¬ ar1 < 0 ∧ ¬ 255 < ar1)) ∨ (rv = 0 ∧ (ar1 < 0 ∨ 255 < ar1)))) := by
  refine zz_enteri (by decide +kernel) (Nat.le_of_ble_eq_true rfl) ?_
  intro p e s m args below meth c A Q ls S hnm hret hw hl
  have hl : lv_has ls 1 [(0, .int ar1)] := hl
  have hx := S.1
  have hb := S.2.1
  refine lv_iload_n hx hb dJ1_canEncode_9a6ad_0 rfl (lv_at hl 0 rfl) ?_
  refine lv_if_lt (tgt := 15) hx hb dJ1_canEncode_9a6ad_1 (by decide) (fun c1_1 => ?_) (fun c1_1 => ?_)
  · skip
    refine lv_iconst (v := 0) hx hb dJ1_canEncode_9a6ad_15 (by decide) ?_
    exact hret _ _ _ _ _ _ ⟨0, rfl, rfl, (by first | exact Or.inl rfl | exact Or.inr rfl | assumption), (by first | exact Or.inl ⟨rfl, by assumption, by assumption⟩ | exact Or.inr ⟨rfl, Or.inl (by assumption)⟩ | exact Or.inr ⟨rfl, Or.inr (by assumption)⟩)⟩ hw rfl dJ1_canEncode_9a6ad_16
  · skip
    have hlo2 : ¬ ar1 < 0 := zz_lo0 c1_1
    refine lv_iload_n hx hb dJ1_canEncode_9a6ad_4 rfl (lv_at hl 0 rfl) ?_
    refine lv_sipush (v := 255) hx hb dJ1_canEncode_9a6ad_5 (by decide) ?_
    refine lv_icmp_gt (tgt := 15) hx hb dJ1_canEncode_9a6ad_8 (by decide) (fun c8_3 => ?_) (fun c8_3 => ?_)
    · skip
      refine lv_iconst (v := 0) hx hb dJ1_canEncode_9a6ad_15 (by decide) ?_
      exact hret _ _ _ _ _ _ ⟨0, rfl, rfl, (by first | exact Or.inl rfl | exact Or.inr rfl | assumption), (by first | exact Or.inl ⟨rfl, by assumption, by assumption⟩ | exact Or.inr ⟨rfl, Or.inl (by assumption)⟩ | exact Or.inr ⟨rfl, Or.inr (by assumption)⟩)⟩ hw rfl dJ1_canEncode_9a6ad_16
    · skip
      obtain ⟨vq4, hvq4, rfl⟩ : ∃ k : Nat, k ≤ 255 ∧ ar1 = nI k := zz_rng hlo2 (c8_3) (by decide)
      refine lv_iconst (v := 1) hx hb dJ1_canEncode_9a6ad_11 (by decide) ?_
      refine lv_goto (tgt := 16) hx hb dJ1_canEncode_9a6ad_12 (by decide) ?_
      exact hret _ _ _ _ _ _ ⟨1, rfl, rfl, (by first | exact Or.inl rfl | exact Or.inr rfl | assumption), (by first | exact Or.inl ⟨rfl, by assumption, by assumption⟩ | exact Or.inr ⟨rfl, Or.inl (by assumption)⟩ | exact Or.inr ⟨rfl, Or.inr (by assumption)⟩)⟩ hw rfl dJ1_canEncode_9a6ad_16
theorem kd_ncJ1_indexOfChar_4cfef : kd_ck 19917560948023512173324303948956434287826536942648512521683599426814109055095067 33 cJ1_indexOfChar_4cfef.data.toList 0 = true := by decide +kernel
theorem dJ1_indexOfChar_4cfef_0 : decode cJ1_indexOfChar_4cfef 0 = .ok (.iload_n 1, 1) := kd_dk0 kd_o27 kd_ncJ1_indexOfChar_4cfef rfl
theorem dJ1_indexOfChar_4cfef_1 : decode cJ1_indexOfChar_4cfef 1 = .ok (.i2b, 1) := kd_dk0 kd_o145 kd_ncJ1_indexOfChar_4cfef rfl
theorem dJ1_indexOfChar_4cfef_2 : decode cJ1_indexOfChar_4cfef 2 = .ok (.istore 4, 2) := kd_dk1 kd_o54 kd_ncJ1_indexOfChar_4cfef rfl
theorem dJ1_indexOfChar_4cfef_4 : decode cJ1_indexOfChar_4cfef 4 = .ok (.iload_n 2, 1) := kd_dk0 kd_o28 kd_ncJ1_indexOfChar_4cfef rfl
theorem dJ1_indexOfChar_4cfef_5 : decode cJ1_indexOfChar_4cfef 5 = .ok (.istore 5, 2) := kd_dk1 kd_o54 kd_ncJ1_indexOfChar_4cfef rfl
theorem dJ1_indexOfChar_4cfef_7 : decode cJ1_indexOfChar_4cfef 7 = .ok (.iload 5, 2) := kd_dk1 kd_o21 kd_ncJ1_indexOfChar_4cfef rfl
theorem dJ1_indexOfChar_4cfef_9 : decode cJ1_indexOfChar_4cfef 9 = .ok (.iload_n 3, 1) := kd_dk0 kd_o29 kd_ncJ1_indexOfChar_4cfef rfl
theorem dJ1_indexOfChar_4cfef_10 : decode cJ1_indexOfChar_4cfef 10 = .ok (.if_icmp .ge 21, 3) := kd_dj2 kd_o162 (w := 21) kd_ncJ1_indexOfChar_4cfef rfl rfl
theorem dJ1_indexOfChar_4cfef_13 : decode cJ1_indexOfChar_4cfef 13 = .ok (.aload_n 0, 1) := kd_dk0 kd_o42 kd_ncJ1_indexOfChar_4cfef rfl
theorem dJ1_indexOfChar_4cfef_14 : decode cJ1_indexOfChar_4cfef 14 = .ok (.iload 5, 2) := kd_dk1 kd_o21 kd_ncJ1_indexOfChar_4cfef rfl
theorem dJ1_indexOfChar_4cfef_16 : decode cJ1_indexOfChar_4cfef 16 = .ok (.baload, 1) := kd_dk0 kd_o51 kd_ncJ1_indexOfChar_4cfef rfl
theorem dJ1_indexOfChar_4cfef_17 : decode cJ1_indexOfChar_4cfef 17 = .ok (.iload 4, 2) := kd_dk1 kd_o21 kd_ncJ1_indexOfChar_4cfef rfl
theorem dJ1_indexOfChar_4cfef_19 : decode cJ1_indexOfChar_4cfef 19 = .ok (.if_icmp .ne 6, 3) := kd_dj2 kd_o160 (w := 6) kd_ncJ1_indexOfChar_4cfef rfl rfl
theorem dJ1_indexOfChar_4cfef_22 : decode cJ1_indexOfChar_4cfef 22 = .ok (.iload 5, 2) := kd_dk1 kd_o21 kd_ncJ1_indexOfChar_4cfef rfl
theorem dJ1_indexOfChar_4cfef_24 : decode cJ1_indexOfChar_4cfef 24 = .ok (.ireturn, 1) := kd_dk0 kd_o172 kd_ncJ1_indexOfChar_4cfef rfl
theorem dJ1_indexOfChar_4cfef_25 : decode cJ1_indexOfChar_4cfef 25 = .ok (.iinc 5 1, 3) := kd_dji kd_o132 (w := 1) kd_ncJ1_indexOfChar_4cfef rfl rfl
theorem dJ1_indexOfChar_4cfef_28 : decode cJ1_indexOfChar_4cfef 28 = .ok (.goto (-21), 3) := kd_dj2 kd_o167 (w := 65515) kd_ncJ1_indexOfChar_4cfef rfl rfl
theorem dJ1_indexOfChar_4cfef_31 : decode cJ1_indexOfChar_4cfef 31 = .ok (.iconst (-1), 1) := kd_dk0 kd_o2 kd_ncJ1_indexOfChar_4cfef rfl
theorem dJ1_indexOfChar_4cfef_32 : decode cJ1_indexOfChar_4cfef 32 = .ok (.ireturn, 1) := kd_dk0 kd_o172 kd_ncJ1_indexOfChar_4cfef rfl
set_option maxHeartbeats 8000000 in
set_option maxRecDepth 100000 in
theorem c_jindexOfChar (l : Launch) (G : zz_G) (K : zz_K) (ki : Nat) (ch : Int32) (hki : ki < 2) : zz_MS l G K mJ1_indexOfChar_4cfef 0 0 0 [.ref (K.2 ki), .int ch, .int 0, .int (nI (zz_ln ki))] [] (fun rr u => ∃ (rv : Int32), rr = some (.int rv) ∧ u = [] ∧ (ch = 3 → rv = -1) ∧ ((¬ rv < 0 ∧ zz_iC ki ch) ∨ (rv < 0 ∧ ¬ zz_iC ki ch))) := by
  refine zz_Senteri (by decide +kernel) (Nat.le_of_ble_eq_true rfl) ?_
  intro p e s m args below meth c A Q ls S hnm hret hs hw hl
  have hl : lv_has ls 6 [(0, .ref (K.2 ki)), (1, .int ch), (2, .int 0), (3, .int (nI (zz_ln ki)))] := hl
  have hx := S.1
  have hb := S.2.1
  have hln := @zz_ln_le ki
  refine lv_iload_n hx hb dJ1_indexOfChar_4cfef_0 rfl (lv_at hl 1 rfl) ?_
  obtain ⟨z1, ez1⟩ : ∃ z : Int32, ch.toInt8.toInt32 = z := ⟨_, rfl⟩
  refine lv_i2b (v := z1) hx hb dJ1_indexOfChar_4cfef_1 ez1 ?_
  refine lv_istore (lv' := [(4, .int z1), (0, .ref (K.2 ki)), (1, .int ch), (2, .int 0), (3, .int (nI (zz_ln ki)))]) hx hb dJ1_indexOfChar_4cfef_2 hl (by decide) rfl (fun ls hl => ?_)
  refine lv_iload_n hx hb dJ1_indexOfChar_4cfef_4 rfl (lv_at hl 3 rfl) ?_
  refine lv_istore (lv' := [(5, .int 0), (4, .int z1), (0, .ref (K.2 ki)), (1, .int ch), (2, .int 0), (3, .int (nI (zz_ln ki)))]) hx hb dJ1_indexOfChar_4cfef_5 hl (by decide) rfl (fun ls hl => ?_)
  have lp7_8 : ∀ (vn3 vi2 : Nat) (H : Heap) (locs : List Loc) (ls : Array Slot), vi2 ≤ (zz_ln ki) → (zz_ln ki) < vi2 + vn3 → (∀ j, j < vi2 → ¬ zz_by ki j = ch.toInt8.toInt32) → zz_w G A s [] H locs → lv_has ls 6 [(5, .int (nI vi2)), (4, .int z1), (0, .ref (K.2 ki)), (1, .int ch), (2, .int 0), (3, .int (nI (zz_ln ki)))] → W p l e (zz_rm 0 0 0) s m args below meth c H locs (0) (0) Q (F0 m 7 ls []) := by
    intro vn3
    induction vn3 with
    | zero => intro vi2  H locs ls hi1 hi2; exact absurd hi2 (by omega)
    | succ vn3 ih7 =>
      intro vi2  H locs ls hi7a hi7b hv7_7 hw hl
      refine lv_iload hx hb dJ1_indexOfChar_4cfef_7 (lv_at hl 0 rfl) ?_
      refine lv_iload_n hx hb dJ1_indexOfChar_4cfef_9 rfl (lv_at hl 5 rfl) ?_
      refine lv_icmp_ge (tgt := 31) hx hb dJ1_indexOfChar_4cfef_10 (by decide) (fun c10_9 => ?_) (fun c10_9 => ?_)
      · skip
        have c10_9n : (zz_ln ki) ≤ vi2 := (zz_le (a := (zz_ln ki)) (b := vi2) rfl rfl (by omega) (by omega)).mp c10_9
        refine lv_iconst (v := (-1)) hx hb dJ1_indexOfChar_4cfef_31 (by decide) ?_
        exact hret _ _ _ _ _ _ ⟨(-1), rfl, rfl, (by first | exact fun _ => rfl | exact fun z => absurd z hq3), (by first | exact Or.inl ⟨nI_pos (by omega), _, by omega, hyb⟩ | exact Or.inr ⟨by decide, fun z => by obtain ⟨j, h1, h2⟩ := z; exact hv7_7 j (by omega) h2⟩)⟩ hw rfl dJ1_indexOfChar_4cfef_32
      · skip
        have c10_9n : ¬ ((zz_ln ki) ≤ vi2) := fun z => c10_9 ((zz_le (a := (zz_ln ki)) (b := vi2) rfl rfl (by omega) (by omega)).mpr z)
        refine lv_aload_n hx hb dJ1_indexOfChar_4cfef_13 rfl (lv_at hl 2 rfl) ?_
        refine lv_iload hx hb dJ1_indexOfChar_4cfef_14 (lv_at hl 0 rfl) ?_
        refine zz_sbld (j := vi2) S hs hw (by omega) (by omega) dJ1_indexOfChar_4cfef_16 ?_
        refine lv_topi (fun vz10 evz10 => ?_)
        have h3vz10 : ¬ vz10 = 3 := by rw [evz10]; exact zz_by3
        refine lv_iload hx hb dJ1_indexOfChar_4cfef_17 (lv_at hl 1 rfl) ?_
        refine lv_icmp_ne (tgt := 25) hx hb dJ1_indexOfChar_4cfef_19 (by decide) (fun c19_11 => ?_) (fun c19_11 => ?_)
        · skip
          have hnb := zz_iCn evz10 ez1 c19_11
          refine lv_iinc (v := (nI (vi2 + 1))) (lv' := [(5, .int (nI (vi2 + 1))), (4, .int z1), (0, .ref (K.2 ki)), (1, .int ch), (2, .int 0), (3, .int (nI (zz_ln ki)))]) hx hb dJ1_indexOfChar_4cfef_25 hl (k := 0) rfl (nI_add _ 1) (by decide) rfl (fun ls hl => ?_)
          refine lv_goto (tgt := 7) hx hb dJ1_indexOfChar_4cfef_28 (by decide) ?_
          refine W.eq (g2 := F0 m 7 ls []) rfl ?_
          exact ih7 (vi2 + 1) _ _ _ (by omega) (by omega) (zz_iCs hv7_7 hnb) hw (lv_sub hl [0, 1, 2, 3, 4, 5] rfl)
        · skip
          have hq3 : ¬ ch = 3 := zz_noch h3vz10 ez1 c19_11
          have hyb := zz_iCy evz10 ez1 c19_11
          refine lv_iload hx hb dJ1_indexOfChar_4cfef_22 (lv_at hl 0 rfl) ?_
          exact hret _ _ _ _ _ _ ⟨(nI vi2), rfl, rfl, (by first | exact fun _ => rfl | exact fun z => absurd z hq3), (by first | exact Or.inl ⟨nI_pos (by omega), _, by omega, hyb⟩ | exact Or.inr ⟨by decide, fun z => by obtain ⟨j, h1, h2⟩ := z; exact hv7_7 j (by omega) h2⟩)⟩ hw rfl dJ1_indexOfChar_4cfef_24
  exact lp7_8 ((zz_ln ki) + 1 - 0) 0 _ _ _ (by omega) (by omega) (fun j hj => absurd hj (by omega)) hw (lv_sub hl [0, 1, 2, 3, 4, 5] rfl)
theorem kd_ncJ1_indexOf_4cfef : kd_ck 85724155664886001494029085011252957078685823134669407171091150169782182685062819970332699 37 cJ1_indexOf_4cfef.data.toList 0 = true := by decide +kernel
theorem dJ1_indexOf_4cfef_0 : decode cJ1_indexOf_4cfef 0 = .ok (.iload_n 1, 1) := kd_dk0 kd_o27 kd_ncJ1_indexOf_4cfef rfl
theorem dJ1_indexOf_4cfef_1 : decode cJ1_indexOf_4cfef 1 = .ok (.invokestatic 88, 3) := kd_dk2 kd_o184 kd_ncJ1_indexOf_4cfef rfl
theorem dJ1_indexOf_4cfef_4 : decode cJ1_indexOf_4cfef 4 = .ok (.ifCond .ne 5, 3) := kd_dj2 kd_o154 (w := 5) kd_ncJ1_indexOf_4cfef rfl rfl
theorem dJ1_indexOf_4cfef_7 : decode cJ1_indexOf_4cfef 7 = .ok (.iconst (-1), 1) := kd_dk0 kd_o2 kd_ncJ1_indexOf_4cfef rfl
theorem dJ1_indexOf_4cfef_8 : decode cJ1_indexOf_4cfef 8 = .ok (.ireturn, 1) := kd_dk0 kd_o172 kd_ncJ1_indexOf_4cfef rfl
theorem dJ1_indexOf_4cfef_9 : decode cJ1_indexOf_4cfef 9 = .ok (.iload_n 2, 1) := kd_dk0 kd_o28 kd_ncJ1_indexOf_4cfef rfl
theorem dJ1_indexOf_4cfef_10 : decode cJ1_indexOf_4cfef 10 = .ok (.iconst 0, 1) := kd_dk0 kd_o3 kd_ncJ1_indexOf_4cfef rfl
theorem dJ1_indexOf_4cfef_11 : decode cJ1_indexOf_4cfef 11 = .ok (.invokestatic 92, 3) := kd_dk2 kd_o184 kd_ncJ1_indexOf_4cfef rfl
theorem dJ1_indexOf_4cfef_14 : decode cJ1_indexOf_4cfef 14 = .ok (.istore_n 2, 1) := kd_dk0 kd_o61 kd_ncJ1_indexOf_4cfef rfl
theorem dJ1_indexOf_4cfef_15 : decode cJ1_indexOf_4cfef 15 = .ok (.iload_n 3, 1) := kd_dk0 kd_o29 kd_ncJ1_indexOf_4cfef rfl
theorem dJ1_indexOf_4cfef_16 : decode cJ1_indexOf_4cfef 16 = .ok (.aload_n 0, 1) := kd_dk0 kd_o42 kd_ncJ1_indexOf_4cfef rfl
theorem dJ1_indexOf_4cfef_17 : decode cJ1_indexOf_4cfef 17 = .ok (.arraylength, 1) := kd_dk0 kd_o190 kd_ncJ1_indexOf_4cfef rfl
theorem dJ1_indexOf_4cfef_18 : decode cJ1_indexOf_4cfef 18 = .ok (.invokestatic 38, 3) := kd_dk2 kd_o184 kd_ncJ1_indexOf_4cfef rfl
theorem dJ1_indexOf_4cfef_21 : decode cJ1_indexOf_4cfef 21 = .ok (.istore_n 3, 1) := kd_dk0 kd_o62 kd_ncJ1_indexOf_4cfef rfl
theorem dJ1_indexOf_4cfef_22 : decode cJ1_indexOf_4cfef 22 = .ok (.iload_n 2, 1) := kd_dk0 kd_o28 kd_ncJ1_indexOf_4cfef rfl
theorem dJ1_indexOf_4cfef_23 : decode cJ1_indexOf_4cfef 23 = .ok (.iload_n 3, 1) := kd_dk0 kd_o29 kd_ncJ1_indexOf_4cfef rfl
theorem dJ1_indexOf_4cfef_24 : decode cJ1_indexOf_4cfef 24 = .ok (.if_icmp .lt 5, 3) := kd_dj2 kd_o161 (w := 5) kd_ncJ1_indexOf_4cfef rfl rfl
theorem dJ1_indexOf_4cfef_27 : decode cJ1_indexOf_4cfef 27 = .ok (.iconst (-1), 1) := kd_dk0 kd_o2 kd_ncJ1_indexOf_4cfef rfl
theorem dJ1_indexOf_4cfef_28 : decode cJ1_indexOf_4cfef 28 = .ok (.ireturn, 1) := kd_dk0 kd_o172 kd_ncJ1_indexOf_4cfef rfl
theorem dJ1_indexOf_4cfef_29 : decode cJ1_indexOf_4cfef 29 = .ok (.aload_n 0, 1) := kd_dk0 kd_o42 kd_ncJ1_indexOf_4cfef rfl
theorem dJ1_indexOf_4cfef_30 : decode cJ1_indexOf_4cfef 30 = .ok (.iload_n 1, 1) := kd_dk0 kd_o27 kd_ncJ1_indexOf_4cfef rfl
theorem dJ1_indexOf_4cfef_31 : decode cJ1_indexOf_4cfef 31 = .ok (.iload_n 2, 1) := kd_dk0 kd_o28 kd_ncJ1_indexOf_4cfef rfl
theorem dJ1_indexOf_4cfef_32 : decode cJ1_indexOf_4cfef 32 = .ok (.iload_n 3, 1) := kd_dk0 kd_o29 kd_ncJ1_indexOf_4cfef rfl
theorem dJ1_indexOf_4cfef_33 : decode cJ1_indexOf_4cfef 33 = .ok (.invokestatic 95, 3) := kd_dk2 kd_o184 kd_ncJ1_indexOf_4cfef rfl
theorem dJ1_indexOf_4cfef_36 : decode cJ1_indexOf_4cfef 36 = .ok (.ireturn, 1) := kd_dk0 kd_o172 kd_ncJ1_indexOf_4cfef rfl
set_option maxHeartbeats 8000000 in
set_option maxRecDepth 100000 in
theorem c_jindexOfL (l : Launch) (G : zz_G) (K : zz_K) (ki : Nat) (ch : Int32) (hki : ki < 2) (hln0 : 0 < zz_ln ki) : zz_MS l G K mJ1_indexOf_4cfef 1 0 0 [.ref (K.2 ki), .int ch, .int 0, .int (nI (zz_ln ki))] [] (fun rr u => ∃ (rv : Int32), rr = some (.int rv) ∧ u = [] ∧ (ch = 3 → rv = -1) ∧ ((¬ rv < 0 ∧ (zz_iC ki ch ∧ ¬ ch < 0 ∧ ¬ 255 < ch)) ∨ (rv < 0 ∧ ¬ (zz_iC ki ch ∧ ¬ ch < 0 ∧ ¬ 255 < ch)))) := by
  refine zz_Senteri (by decide +kernel) (Nat.le_of_ble_eq_true rfl) ?_
  intro p e s m args below meth c A Q ls S hnm hret hs hw hl
  have hl : lv_has ls 4 [(0, .ref (K.2 ki)), (1, .int ch), (2, .int 0), (3, .int (nI (zz_ln ki)))] := hl
  have hx := S.1
  have hb := S.2.1
  have hln := @zz_ln_le ki
  refine lv_iload_n hx hb dJ1_indexOf_4cfef_0 rfl (lv_at hl 1 rfl) ?_
  refine zz_callS (As := [.int ch]) (rest := []) (wr := []) S hw hl.1 lJ1_88 (c_jcanEncode l G ch) ⟨Nat.le_of_ble_eq_true rfl, Nat.le_of_ble_eq_true rfl⟩ ⟨Nat.le_of_ble_eq_true rfl, Nat.le_of_ble_eq_true rfl⟩ [] [] (by decide) rfl rfl (by decide) (by decide) rfl rfl (Nat.le_of_ble_eq_true rfl) dJ1_indexOf_4cfef_1 ?_
  clear hw
  intro rr u H locs hp hw
  refine hp.elim fun rv_1 zg0 => zg0.elim fun zee1 zg1 => zg1.elim fun zee2 zg2 => zg2.elim fun hq1_0 hq1_1 => ?_
  clear hp zg0 zg1 zg2
  subst zee1
  subst zee2
  replace hw : zz_w G A s [] H _ := hw
  refine W.eq (g2 := F0 m 4 ls [.int rv_1]) rfl ?_
  refine lv_if_ne (tgt := 9) hx hb dJ1_indexOf_4cfef_4 (by decide) (fun c4_2 => ?_) (fun c4_2 => ?_)
  · skip
    refine lv_iload_n hx hb dJ1_indexOf_4cfef_9 rfl (lv_at hl 2 rfl) ?_
    refine lv_iconst (v := 0) hx hb dJ1_indexOf_4cfef_10 (by decide) ?_
    refine zz_max S hl.1 (zz_c3 14 rfl rfl) (Nat.le_of_ble_eq_true rfl) (Nat.le_of_ble_eq_true rfl) (Nat.le_of_ble_eq_true rfl) (Nat.le_of_ble_eq_true rfl) dJ1_indexOf_4cfef_11 ?_
    refine zz_topi (y := 0) (by decide) ?_
    refine lv_istore_n (lv' := [(2, .int 0), (0, .ref (K.2 ki)), (1, .int ch), (3, .int (nI (zz_ln ki)))]) hx hb dJ1_indexOf_4cfef_14 rfl hl (by decide) rfl (fun ls hl => ?_)
    refine lv_iload_n hx hb dJ1_indexOf_4cfef_15 rfl (lv_at hl 3 rfl) ?_
    refine lv_aload_n hx hb dJ1_indexOf_4cfef_16 rfl (lv_at hl 1 rfl) ?_
    refine zz_slen S hs hw (by omega) dJ1_indexOf_4cfef_17 ?_
    refine zz_min S hl.1 (zz_c3 17 rfl rfl) (Nat.le_of_ble_eq_true rfl) (Nat.le_of_ble_eq_true rfl) (Nat.le_of_ble_eq_true rfl) (Nat.le_of_ble_eq_true rfl) dJ1_indexOf_4cfef_18 ?_
    refine zz_topi (y := (nI (zz_ln ki))) (ite_self _) ?_
    refine lv_istore_n (lv' := [(3, .int (nI (zz_ln ki))), (2, .int 0), (0, .ref (K.2 ki)), (1, .int ch)]) hx hb dJ1_indexOf_4cfef_21 rfl hl (by decide) rfl (fun ls hl => ?_)
    refine lv_iload_n hx hb dJ1_indexOf_4cfef_22 rfl (lv_at hl 1 rfl) ?_
    refine lv_iload_n hx hb dJ1_indexOf_4cfef_23 rfl (lv_at hl 0 rfl) ?_
    refine lv_icmp_lt (tgt := 29) hx hb dJ1_indexOf_4cfef_24 (by decide) (fun _ => ?_) (fun cc => absurd ((zz_lt (a := 0) (b := (zz_ln ki)) rfl rfl (by omega) (by omega)).mpr (by omega)) cc)
    refine W.eq (g2 := F0 m 29 ls []) rfl ?_
    refine lv_aload_n hx hb dJ1_indexOf_4cfef_29 rfl (lv_at hl 2 rfl) ?_
    refine lv_iload_n hx hb dJ1_indexOf_4cfef_30 rfl (lv_at hl 3 rfl) ?_
    refine lv_iload_n hx hb dJ1_indexOf_4cfef_31 rfl (lv_at hl 1 rfl) ?_
    refine lv_iload_n hx hb dJ1_indexOf_4cfef_32 rfl (lv_at hl 0 rfl) ?_
    refine zz_callSs (As := [.ref (K.2 ki), .int ch, .int 0, .int (nI (zz_ln ki))]) (rest := []) (wr := []) S hs hw hl.1 lJ1_95 (c_jindexOfChar l G K ki ch (by first | assumption | omega | exact Or.inr ⟨_, by omega, rfl⟩ | (unfold zz_sok; decide) | decide | exact (fun j hj => (hv7 j hj).1))) ⟨Nat.le_of_ble_eq_true rfl, Nat.le_of_ble_eq_true rfl⟩ ⟨Nat.le_of_ble_eq_true rfl, Nat.le_of_ble_eq_true rfl⟩ [] [] (by decide) rfl rfl (by decide) (by decide) rfl rfl (Nat.le_of_ble_eq_true rfl) dJ1_indexOf_4cfef_33 ?_
    clear hw
    intro rr u H locs hp hw
    refine hp.elim fun rv_3 zg0 => zg0.elim fun zee1 zg1 => zg1.elim fun zee2 zg2 => zg2.elim fun hq33_0 hq33_1 => ?_
    clear hp zg0 zg1 zg2
    subst zee1
    subst zee2
    replace hw : zz_w G A s [] H _ := hw
    refine W.eq (g2 := F0 m 36 ls [.int rv_3]) rfl ?_
    exact hret _ _ _ _ _ _ ⟨rv_3, rfl, rfl, (by first | assumption | exact fun _ => rfl), (by first | exact zz_iE0 (zz_ce0 hq1_1 (by assumption)) | exact zz_iE1 hq33_1 (zz_ce1 hq1_1 (by assumption)))⟩ hw rfl dJ1_indexOf_4cfef_36
  · skip
    refine lv_iconst (v := (-1)) hx hb dJ1_indexOf_4cfef_7 (by decide) ?_
    exact hret _ _ _ _ _ _ ⟨(-1), rfl, rfl, (by first | assumption | exact fun _ => rfl), (by first | exact zz_iE0 (zz_ce0 hq1_1 (by assumption)) | exact zz_iE1 hq33_1 (zz_ce1 hq1_1 (by assumption)))⟩ hw rfl dJ1_indexOf_4cfef_8
theorem kd_ncJ0_indexOf_7cf53 : kd_ck 85788278940892492109591051395591064262152221142736780804819923492729130546395754967184938 37 cJ0_indexOf_7cf53.data.toList 0 = true := by decide +kernel
theorem dJ0_indexOf_7cf53_0 : decode cJ0_indexOf_7cf53 0 = .ok (.aload_n 0, 1) := kd_dk0 kd_o42 kd_ncJ0_indexOf_7cf53 rfl
theorem dJ0_indexOf_7cf53_1 : decode cJ0_indexOf_7cf53 1 = .ok (.invokevirtual 492, 3) := kd_dk2 kd_o182 kd_ncJ0_indexOf_7cf53 rfl
theorem dJ0_indexOf_7cf53_4 : decode cJ0_indexOf_7cf53 4 = .ok (.ifCond .eq 19, 3) := kd_dj2 kd_o153 (w := 19) kd_ncJ0_indexOf_7cf53 rfl rfl
theorem dJ0_indexOf_7cf53_7 : decode cJ0_indexOf_7cf53 7 = .ok (.aload_n 0, 1) := kd_dk0 kd_o42 kd_ncJ0_indexOf_7cf53 rfl
theorem dJ0_indexOf_7cf53_8 : decode cJ0_indexOf_7cf53 8 = .ok (.getfield 9, 3) := kd_dk2 kd_o180 kd_ncJ0_indexOf_7cf53 rfl
theorem dJ0_indexOf_7cf53_11 : decode cJ0_indexOf_7cf53 11 = .ok (.iload_n 1, 1) := kd_dk0 kd_o27 kd_ncJ0_indexOf_7cf53 rfl
theorem dJ0_indexOf_7cf53_12 : decode cJ0_indexOf_7cf53 12 = .ok (.iload_n 2, 1) := kd_dk0 kd_o28 kd_ncJ0_indexOf_7cf53 rfl
theorem dJ0_indexOf_7cf53_13 : decode cJ0_indexOf_7cf53 13 = .ok (.aload_n 0, 1) := kd_dk0 kd_o42 kd_ncJ0_indexOf_7cf53 rfl
theorem dJ0_indexOf_7cf53_14 : decode cJ0_indexOf_7cf53 14 = .ok (.invokevirtual 505, 3) := kd_dk2 kd_o182 kd_ncJ0_indexOf_7cf53 rfl
theorem dJ0_indexOf_7cf53_17 : decode cJ0_indexOf_7cf53 17 = .ok (.invokestatic 637, 3) := kd_dk2 kd_o184 kd_ncJ0_indexOf_7cf53 rfl
theorem dJ0_indexOf_7cf53_20 : decode cJ0_indexOf_7cf53 20 = .ok (.goto 16, 3) := kd_dj2 kd_o167 (w := 16) kd_ncJ0_indexOf_7cf53 rfl rfl
theorem dJ0_indexOf_7cf53_23 : decode cJ0_indexOf_7cf53 23 = .ok (.aload_n 0, 1) := kd_dk0 kd_o42 kd_ncJ0_indexOf_7cf53 rfl
theorem dJ0_indexOf_7cf53_24 : decode cJ0_indexOf_7cf53 24 = .ok (.getfield 9, 3) := kd_dk2 kd_o180 kd_ncJ0_indexOf_7cf53 rfl
theorem dJ0_indexOf_7cf53_27 : decode cJ0_indexOf_7cf53 27 = .ok (.iload_n 1, 1) := kd_dk0 kd_o27 kd_ncJ0_indexOf_7cf53 rfl
theorem dJ0_indexOf_7cf53_28 : decode cJ0_indexOf_7cf53 28 = .ok (.iload_n 2, 1) := kd_dk0 kd_o28 kd_ncJ0_indexOf_7cf53 rfl
theorem dJ0_indexOf_7cf53_29 : decode cJ0_indexOf_7cf53 29 = .ok (.aload_n 0, 1) := kd_dk0 kd_o42 kd_ncJ0_indexOf_7cf53 rfl
theorem dJ0_indexOf_7cf53_30 : decode cJ0_indexOf_7cf53 30 = .ok (.invokevirtual 505, 3) := kd_dk2 kd_o182 kd_ncJ0_indexOf_7cf53 rfl
theorem dJ0_indexOf_7cf53_33 : decode cJ0_indexOf_7cf53 33 = .ok (.invokestatic 640, 3) := kd_dk2 kd_o184 kd_ncJ0_indexOf_7cf53 rfl
theorem dJ0_indexOf_7cf53_36 : decode cJ0_indexOf_7cf53 36 = .ok (.ireturn, 1) := kd_dk0 kd_o172 kd_ncJ0_indexOf_7cf53 rfl
set_option maxHeartbeats 8000000 in
set_option maxRecDepth 100000 in
theorem c_jindexOf2 (l : Launch) (G : zz_G) (K : zz_K) (ki : Nat) (ch : Int32) (hki : ki < 2) (hln0 : 0 < zz_ln ki) : zz_MS l G K mJ0_indexOf_7cf53 6 0 0 [.ref (K.1 ki), .int ch, .int 0] [] (fun rr u => ∃ (rv : Int32), rr = some (.int rv) ∧ u = [] ∧ (ch = 3 → rv = -1) ∧ ((¬ rv < 0 ∧ (zz_iC ki ch ∧ ¬ ch < 0 ∧ ¬ 255 < ch)) ∨ (rv < 0 ∧ ¬ (zz_iC ki ch ∧ ¬ ch < 0 ∧ ¬ 255 < ch)))) := by
  refine zz_Senteri (by decide +kernel) (Nat.le_of_ble_eq_true rfl) ?_
  intro p e s m args below meth c A Q ls S hnm hret hs hw hl
  have hl : lv_has ls 3 [(0, .ref (K.1 ki)), (1, .int ch), (2, .int 0)] := hl
  have hx := S.1
  have hb := S.2.1
  have hln := @zz_ln_le ki
  refine lv_aload_n hx hb dJ0_indexOf_7cf53_0 rfl (lv_at hl 0 rfl) ?_
  refine zz_callKs (As := []) (rest := []) (wr := []) S hs hw hl.1 lJ0_492 (c_jisLatin l G K ki (by first | assumption | omega | exact Or.inr ⟨_, by omega, rfl⟩ | (unfold zz_sok; decide) | decide | exact (fun j hj => (hv7 j hj).1))) ⟨Nat.le_of_ble_eq_true rfl, Nat.le_of_ble_eq_true rfl⟩ ⟨Nat.le_of_ble_eq_true rfl, Nat.le_of_ble_eq_true rfl⟩ [] [] (by decide) rfl rfl (by decide) (by decide) (by omega) rfl rfl rfl (Nat.le_of_ble_eq_true rfl) dJ0_indexOf_7cf53_1 ?_
  clear hw
  intro rr u H locs hp hw
  refine hp.elim fun zee1 zee2 => ?_
  clear hp
  subst zee1
  subst zee2
  replace hw : zz_w G A s [] H _ := hw
  refine W.eq (g2 := F0 m 4 ls [.int 1]) rfl ?_
  refine lv_if_eq (tgt := 23) hx hb dJ0_indexOf_7cf53_4 (by decide) (fun cc => absurd cc (by decide)) (fun _ => ?_)
  refine lv_aload_n hx hb dJ0_indexOf_7cf53_7 rfl (lv_at hl 0 rfl) ?_
  refine zz_gval S hs hw (by omega) (zz_c8 55 rfl rfl) dJ0_indexOf_7cf53_8 ?_
  refine lv_iload_n hx hb dJ0_indexOf_7cf53_11 rfl (lv_at hl 1 rfl) ?_
  refine lv_iload_n hx hb dJ0_indexOf_7cf53_12 rfl (lv_at hl 2 rfl) ?_
  refine lv_aload_n hx hb dJ0_indexOf_7cf53_13 rfl (lv_at hl 0 rfl) ?_
  refine zz_callKs (As := []) (rest := [.int 0, .int ch, .ref (K.2 ki)]) (wr := []) S hs hw hl.1 lJ0_505 (c_jlength l G K ki (by first | assumption | omega | exact Or.inr ⟨_, by omega, rfl⟩ | (unfold zz_sok; decide) | decide | exact (fun j hj => (hv7 j hj).1))) ⟨Nat.le_of_ble_eq_true rfl, Nat.le_of_ble_eq_true rfl⟩ ⟨Nat.le_of_ble_eq_true rfl, Nat.le_of_ble_eq_true rfl⟩ [] [] (by decide) rfl rfl (by decide) (by decide) (by omega) rfl rfl rfl (Nat.le_of_ble_eq_true rfl) dJ0_indexOf_7cf53_14 ?_
  clear hw
  intro rr u H locs hp hw
  refine hp.elim fun zee1 zee2 => ?_
  clear hp
  subst zee1
  subst zee2
  replace hw : zz_w G A s [] H _ := hw
  refine W.eq (g2 := F0 m 17 ls [.int (nI (zz_ln ki)), .int 0, .int ch, .ref (K.2 ki)]) rfl ?_
  refine zz_callSs (As := [.ref (K.2 ki), .int ch, .int 0, .int (nI (zz_ln ki))]) (rest := []) (wr := []) S hs hw hl.1 lJ0_637 (c_jindexOfL l G K ki ch (by first | assumption | omega | exact Or.inr ⟨_, by omega, rfl⟩ | (unfold zz_sok; decide) | decide | exact (fun j hj => (hv7 j hj).1)) (by first | assumption | omega | exact Or.inr ⟨_, by omega, rfl⟩ | (unfold zz_sok; decide) | decide | exact (fun j hj => (hv7 j hj).1))) ⟨Nat.le_of_ble_eq_true rfl, Nat.le_of_ble_eq_true rfl⟩ ⟨Nat.le_of_ble_eq_true rfl, Nat.le_of_ble_eq_true rfl⟩ [] [] (by decide) rfl rfl (by decide) (by decide) rfl rfl (Nat.le_of_ble_eq_true rfl) dJ0_indexOf_7cf53_17 ?_
  clear hw
  intro rr u H locs hp hw
  refine hp.elim fun rv_1 zg0 => zg0.elim fun zee1 zg1 => zg1.elim fun zee2 zg2 => zg2.elim fun hq17_0 hq17_1 => ?_
  clear hp zg0 zg1 zg2
  subst zee1
  subst zee2
  replace hw : zz_w G A s [] H _ := hw
  refine W.eq (g2 := F0 m 20 ls [.int rv_1]) rfl ?_
  refine lv_goto (tgt := 36) hx hb dJ0_indexOf_7cf53_20 (by decide) ?_
  exact hret _ _ _ _ _ _ ⟨rv_1, rfl, rfl, (by assumption), (by assumption)⟩ hw rfl dJ0_indexOf_7cf53_36
theorem kd_ncJ0_indexOf_0f7a4 : kd_ck 48546748544785194 7 cJ0_indexOf_0f7a4.data.toList 0 = true := by decide +kernel
theorem dJ0_indexOf_0f7a4_0 : decode cJ0_indexOf_0f7a4 0 = .ok (.aload_n 0, 1) := kd_dk0 kd_o42 kd_ncJ0_indexOf_0f7a4 rfl
theorem dJ0_indexOf_0f7a4_1 : decode cJ0_indexOf_0f7a4 1 = .ok (.iload_n 1, 1) := kd_dk0 kd_o27 kd_ncJ0_indexOf_0f7a4 rfl
theorem dJ0_indexOf_0f7a4_2 : decode cJ0_indexOf_0f7a4 2 = .ok (.iconst 0, 1) := kd_dk0 kd_o3 kd_ncJ0_indexOf_0f7a4 rfl
theorem dJ0_indexOf_0f7a4_3 : decode cJ0_indexOf_0f7a4 3 = .ok (.invokevirtual 633, 3) := kd_dk2 kd_o182 kd_ncJ0_indexOf_0f7a4 rfl
theorem dJ0_indexOf_0f7a4_6 : decode cJ0_indexOf_0f7a4 6 = .ok (.ireturn, 1) := kd_dk0 kd_o172 kd_ncJ0_indexOf_0f7a4 rfl
set_option maxHeartbeats 8000000 in
set_option maxRecDepth 100000 in
theorem c_jindexOf (l : Launch) (G : zz_G) (K : zz_K) (ki : Nat) (ch : Int32) (hki : ki < 2) (hln0 : 0 < zz_ln ki) : zz_MS l G K mJ0_indexOf_0f7a4 7 0 0 [.ref (K.1 ki), .int ch] [] (fun rr u => ∃ (rv : Int32), rr = some (.int rv) ∧ u = [] ∧ (ch = 3 → rv = -1) ∧ ((¬ rv < 0 ∧ (zz_iC ki ch ∧ ¬ ch < 0 ∧ ¬ 255 < ch)) ∨ (rv < 0 ∧ ¬ (zz_iC ki ch ∧ ¬ ch < 0 ∧ ¬ 255 < ch)))) := by
  refine zz_Senteri (by decide +kernel) (Nat.le_of_ble_eq_true rfl) ?_
  intro p e s m args below meth c A Q ls S hnm hret hs hw hl
  have hl : lv_has ls 2 [(0, .ref (K.1 ki)), (1, .int ch)] := hl
  have hx := S.1
  have hb := S.2.1
  have hln := @zz_ln_le ki
  refine lv_aload_n hx hb dJ0_indexOf_0f7a4_0 rfl (lv_at hl 0 rfl) ?_
  refine lv_iload_n hx hb dJ0_indexOf_0f7a4_1 rfl (lv_at hl 1 rfl) ?_
  refine lv_iconst (v := 0) hx hb dJ0_indexOf_0f7a4_2 (by decide) ?_
  refine zz_callKs (As := [.int ch, .int 0]) (rest := []) (wr := []) S hs hw hl.1 lJ0_633 (c_jindexOf2 l G K ki ch (by first | assumption | omega | exact Or.inr ⟨_, by omega, rfl⟩ | (unfold zz_sok; decide) | decide | exact (fun j hj => (hv7 j hj).1)) (by first | assumption | omega | exact Or.inr ⟨_, by omega, rfl⟩ | (unfold zz_sok; decide) | decide | exact (fun j hj => (hv7 j hj).1))) ⟨Nat.le_of_ble_eq_true rfl, Nat.le_of_ble_eq_true rfl⟩ ⟨Nat.le_of_ble_eq_true rfl, Nat.le_of_ble_eq_true rfl⟩ [] [] (by decide) rfl rfl (by decide) (by decide) (by omega) rfl rfl rfl (Nat.le_of_ble_eq_true rfl) dJ0_indexOf_0f7a4_3 ?_
  clear hw
  intro rr u H locs hp hw
  refine hp.elim fun rv_1 zg0 => zg0.elim fun zee1 zg1 => zg1.elim fun zee2 zg2 => zg2.elim fun hq3_0 hq3_1 => ?_
  clear hp zg0 zg1 zg2
  subst zee1
  subst zee2
  replace hw : zz_w G A s [] H _ := hw
  refine W.eq (g2 := F0 m 6 ls [.int rv_1]) rfl ?_
  exact hret _ _ _ _ _ _ ⟨rv_1, rfl, rfl, (by assumption), (by assumption)⟩ hw rfl dJ0_indexOf_0f7a4_6
