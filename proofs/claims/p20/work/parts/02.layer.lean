def zz_T : List Cond := lw_tbl.filter goodWord
def zz_isN : Cond → Bool
  | .fieldLinkNest _ _ _ _ _ _ => true
  | .methodLinkNest _ _ _ _ => true
  | _ => false
def zz_nw : List Cond := lw_tbl.filter zz_isN
abbrev zz_cl : List vw_C := [(RX0, TX0, 4), (RX1, TX1, 5), (RX2, TX2, 5), (RX3, TX3, 3), (RX4, TX4, 8), (RX5, TX5, 13), (RX6, TX6, 7), (RX7, TX7, 4), (RX8, TX8, 4), (RX9, TX9, 14), (RX10, TX10, 67)]
abbrev zz_G : Type := va_G × (Nat → ClassId)
def zz_ty (G : zz_G) : List (ClassId × FieldType) := [(G.2 0, .int), (G.2 1, .byte), (G.2 2, .boolean), (G.2 3, .long), (G.2 4, .object "UnderstudyShow$Law"), (G.2 5, .object "UnderstudyShow$State")]
def zz_N (U : State) : Prop := (∀ w ∈ zz_nw, va_Nw w U) ∧ va_AO "UnderstudyShow$Law" U ∧ va_AO "UnderstudyShow$State" U
def zz_rm (d mc ms : Nat) : Room := { frames := d, cells := mc, slots := ms, locals := 40 * d }
abbrev zz_Y : Type := MethodName × ByteArray × Nat × Option FieldType
def zz_ws (Y : zz_Y) : List Cond := .code Y.1 Y.2.1 Y.2.2.1 Y.2.2.2 :: zz_T
def zz_Pre (G : zz_G) (w0 : va_W) (sz : Nat) (U : State) : Prop := U.heap.size = sz ∧ va_P G.1 zz_cl w0 U.heap ∧ va_K G.1 zz_cl (zz_ty G) U ∧ va_D (fun _ => True) w0 ∧ zz_N U
def zz_Q (G : zz_G) (w0 : va_W) (sz : Nat) (post : Option Value → va_W → Prop) : Array Value → State → Outcome → State → Prop := fun _ st oc t => (∃ (r : Option Value) (u : va_W), oc = .returned r ∧ post r u ∧ va_P G.1 zz_cl u t.heap ∧ va_K G.1 zz_cl (zz_ty G) t ∧ va_D (va_A w0 sz) u) ∧ va_F (va_A w0 sz) st t
/-- the contract of a method: from any heap that holds the world w0 it returns r, the heap then holds a world u, 'post r u' -/
def zz_M (l : Launch) (G : zz_G) (Y : zz_Y) (d mc ms : Nat) (vs : List Value) (w0 : va_W) (post : Option Value → va_W → Prop) : Prop := ∀ sz : Nat, Met l Y.1 (zz_ws Y) (zz_rm d mc ms) (va_Pc vs (zz_Pre G w0 sz)) (zz_Q G w0 sz post) mc ms (va_A w0 sz)
def zz_w (G : zz_G) (A : Nat → Prop) (s : State) (ws : va_W) (H : Heap) (locs : List Loc) : Prop := va_K G.1 zz_cl (zz_ty G) s ∧ va_P G.1 zz_cl ws H ∧ va_D A ws ∧ va_S A s.heap H locs ∧ (∀ q, s.heap.size ≤ q → A q) ∧ zz_N s
def zz_CL (ci : Nat) (C : String) (T : u_T) (N : Nat) : Prop := zz_cl[ci]? = some (C, T, N) ∧ (∀ w ∈ u_ws C T N, w ∈ zz_T) ∧ ∃ ty0 : Nat → FieldType, (∀ k, k < N → parseFieldDescriptor (T k).2.2.1 = some (ty0 k)) ∧ (∀ a, a < N → ∀ b, b < N → a ≠ b → (T a).2.1 ≠ (T b).2.1)
def zz_FL (own : String) (index ci k : Nat) : Prop := ∃ (C : String) (T : u_T) (N : Nat), zz_CL ci C T N ∧ k < N ∧ (Cond.fieldLink own index (T k).1 (T k).2.1 (T k).2.2.1 ∈ zz_T ∨ ∃ host : String, Cond.fieldLinkNest own index (T k).1 (T k).2.1 (T k).2.2.1 host ∈ zz_nw)
def zz_FP (own : String) (index ci k : Nat) (ty : FieldType) : Prop := ∃ (C : String) (T : u_T) (N : Nat), zz_CL ci C T N ∧ k < N ∧ (Cond.fieldLink own index (T k).1 (T k).2.1 (T k).2.2.1 ∈ zz_T ∨ ∃ host : String, Cond.fieldLinkNest own index (T k).1 (T k).2.1 (T k).2.2.1 host ∈ zz_nw) ∧ (T k).2.2.2 = false ∧ parseFieldDescriptor (T k).2.2.1 = some ty
def zz_FF (own : String) (index ci k : Nat) (ty : FieldType) : Prop := ∃ (C : String) (T : u_T) (N : Nat), zz_CL ci C T N ∧ k < N ∧ Cond.fieldLink own index (T k).1 (T k).2.1 (T k).2.2.1 ∈ zz_T ∧ (T k).2.2.2 = true ∧ parseFieldDescriptor (T k).2.2.1 = some ty ∧ (T k).1 = own
def zz_lk (own : String) (index : Nat) (y : MethodName) : Prop := Cond.methodLink own index y ∈ zz_T ∨ ∃ host : String, Cond.methodLinkNest own index y host ∈ zz_nw
def zz_yy (Y : zz_Y) (n : Nat) : Prop := Cond.initialized Y.1.cls ∈ zz_T ∧ Cond.code Y.1 Y.2.1 Y.2.2.1 Y.2.2.2 ∈ zz_T ∧ Y.1.cls ≠ "java/lang/invoke/MethodHandle" ∧ Y.1.cls ≠ "java/lang/invoke/VarHandle" ∧ (parseMethodDescriptor Y.1.desc).map (fun d => d.parameters.length) = some n
def zz_LV (own : String) (index : Nat) (Y : zz_Y) (n : Nat) : Prop := zz_lk own index Y.1 ∧ Cond.instanceMethod Y.1 ∈ zz_T ∧ Cond.selects Y.1.cls Y.1 Y.1 ∈ zz_T ∧ zz_yy Y n
def zz_LS (own : String) (index : Nat) (Y : zz_Y) (n : Nat) : Prop := zz_lk own index Y.1 ∧ Cond.static Y.1 ∈ zz_T ∧ zz_yy Y n
def zz_LI (own : String) (index : Nat) (Y : zz_Y) (n : Nat) : Prop := zz_lk own index Y.1 ∧ Cond.instanceMethod Y.1 ∈ zz_T ∧ Y.1.name = "<init>" ∧ zz_yy Y n
theorem zz_m {w : Cond} (h : w ∈ lw_tbl) (g : goodWord w = true) : w ∈ zz_T := List.mem_filter.mpr ⟨h, g⟩
theorem zz_t (i : Nat) {w : Cond} (h : tables_1[i]? = some w) (g : goodWord w = true) : w ∈ zz_T := zz_m (List.mem_append_right _ (List.mem_of_getElem? h)) g
theorem zz_s (i : Nat) {w : Cond} (h : (k2_sels lw_privs)[i]? = some w) (g : goodWord w = true) : w ∈ zz_T := zz_m (List.mem_append_left _ (List.mem_of_getElem? h)) g
theorem zz_goodT : zz_T.all goodWord = true := List.all_eq_true.mpr (fun _ h => (List.mem_filter.mp h).2)
theorem zz_n (i : Nat) {w : Cond} (h : tables_1[i]? = some w) (g : zz_isN w = true) : w ∈ zz_nw := List.mem_filter.mpr ⟨List.mem_append_right _ (List.mem_of_getElem? h), g⟩
theorem zz_oi1 : Cond.instanceMethod objectInit ∈ zz_T := (zz_t 26 (by decide +kernel) (by decide +kernel))
theorem zz_oi2 : Cond.code objectInit ⟨#[0xb1]⟩ 1 none ∈ zz_T := (zz_t 27 (by decide +kernel) (by decide +kernel))
theorem zz_ac1 : Cond.native arraycopyName ∈ zz_T := (zz_t 624 (by decide +kernel) (by decide +kernel))
theorem zz_ac2 : Cond.static arraycopyName ∈ zz_T := (zz_t 623 (by decide +kernel) (by decide +kernel))
theorem zz_ac3 : Cond.initialized "java/lang/System" ∈ zz_T := (zz_t 18 (by decide +kernel) (by decide +kernel))
theorem zz_mt : Cond.initialized "java/lang/Math" ∈ zz_T := (zz_t 16 (by decide +kernel) (by decide +kernel))
theorem zz_mx1 : Cond.static Lib.Math.max.name ∈ zz_T := (zz_t 495 (by decide +kernel) (by decide +kernel))
theorem zz_mx2 : Cond.code Lib.Math.max.name Lib.Math.max.code 2 (some .int) ∈ zz_T := (zz_t 496 (by decide +kernel) (by decide +kernel))
theorem zz_mn1 : Cond.static Lib.Math.min.name ∈ zz_T := (zz_t 498 (by decide +kernel) (by decide +kernel))
theorem zz_mn2 : Cond.code Lib.Math.min.name Lib.Math.min.code 2 (some .int) ∈ zz_T := (zz_t 499 (by decide +kernel) (by decide +kernel))
theorem zz_N.warm {s U : State} (hW : s.WarmedH U.vm) (h : zz_N s) : zz_N U := by
  refine ⟨fun w hw => ?_, va_AO.moved hW.alike h.2.1, va_AO.moved hW.alike h.2.2⟩
  have h1 := h.1 w hw
  have h2 := (List.mem_filter.mp hw).2
  cases w <;> first | exact va_Nw.warmF hW h1 | exact va_Nw.warmM hW h1 | exact absurd h2 (by decide) | (exfalso; revert h2; simp [zz_isN])
theorem zz_N.calling {U : State} {g : JFrame} {mk : MethodId} {a : Array Value} (h : zz_N U) : zz_N (U.calling g mk a) := by
  refine ⟨fun w hw => ?_, va_AO.moved (Vm.Alike.refl U.vm) h.2.1, va_AO.moved (Vm.Alike.refl U.vm) h.2.2⟩
  have h1 := h.1 w hw
  have h2 := (List.mem_filter.mp hw).2
  cases w <;> first | exact va_Nw.same rfl rfl h1 | exact absurd h2 (by decide) | (exfalso; revert h2; simp [zz_isN])
theorem zz_Pre.blind {G : zz_G} {w0 : va_W} {sz : Nat} {vs : List Value} : FrameBlind (va_Pc vs (zz_Pre G w0 sz)) := fun a U g mk q => by
  obtain ⟨q0, q1, q2, q3, q4, q5⟩ := q
  exact ⟨q0, q1, q2, va_K.moved (u := U) (U := U.calling g mk a) (Vm.Alike.refl U.vm) q3, q4, q5.calling⟩
theorem zz_good {Y : zz_Y} (h : Cond.code Y.1 Y.2.1 Y.2.2.1 Y.2.2.2 ∈ zz_T) : GoodIn zz_T (zz_ws Y) := by
  intro w hw
  rcases List.mem_cons.mp hw with rfl | hw
  · exact ⟨h, good_of_word (List.mem_filter.mp h).2⟩
  · exact ⟨hw, good_of_word (List.mem_filter.mp hw).2⟩
theorem zz_w.sub {G : zz_G} {A : Nat → Prop} {s : State} {ws ws' : va_W} {H : Heap} {locs : List Loc} (h : zz_w G A s ws H locs) (is : List Nat) (hn : va_nd is = true) (hs : is.map (fun i => ws[i]?) = ws'.map some) : zz_w G A s ws' H locs := by
  obtain ⟨hK, hP, hD, hS, hA, hN⟩ := h
  refine ⟨hK, hP.sub is ?_, hD.sub is hn hs, hS, hA, hN⟩
  clear hn hD hP
  induction is generalizing ws' with
  | nil => cases ws' with
    | nil => rfl
    | cons a t => simp at hs
  | cons i is ih => cases ws' with
    | nil => simp at hs
    | cons a t =>
      simp only [List.map_cons, List.cons.injEq] at hs
      simp only [List.filterMap_cons, hs.1]
      rw [ih hs.2]
theorem zz_topi {p : Program} {l : Launch} {e : Env} {R : Room} {s : State} {m : MethodId} {args : Array Value} {below : List Frame} {meth : Method} {c : Code} {H : Heap} {locs : List Loc} {cells slots : Nat} {Q : State → Prop} {pc : Nat} {ls : Array Slot} {rest : List Value} {x y : Int32} (h : x = y) (k : W p l e R s m args below meth c H locs cells slots Q (F0 m pc ls (.int y :: rest))) : W p l e R s m args below meth c H locs cells slots Q (F0 m pc ls (.int x :: rest)) := by subst h; exact k
theorem zz_topl {p : Program} {l : Launch} {e : Env} {R : Room} {s : State} {m : MethodId} {args : Array Value} {below : List Frame} {meth : Method} {c : Code} {H : Heap} {locs : List Loc} {cells slots : Nat} {Q : State → Prop} {pc : Nat} {ls : Array Slot} {rest : List Value} {x y : Int64} (h : x = y) (k : W p l e R s m args below meth c H locs cells slots Q (F0 m pc ls (.long y :: rest))) : W p l e R s m args below meth c H locs cells slots Q (F0 m pc ls (.long x :: rest)) := by subst h; exact k
section ZE
variable {l : Launch} {G : zz_G} {y : MethodName} {cc : ByteArray} {nL d mc ms : Nat} {rt : FieldType} {vs : List Value} {w0 : va_W} {post : Option Value → va_W → Prop}
theorem zz_enteri (hy : plainName y.cls = true) (hn : (lg_sl vs).length ≤ nL) (body : ∀ (p : Program) (e : Env) (s : State) (m : MethodId) (args : Array Value) (below : List Frame) (meth : Method) (c : Code) (A : Nat → Prop) (Q : State → Prop) (ls : Array Slot), CallFix p m c cc nL s args zz_T y.cls → meth.name = y.name →
    (∀ (H : Heap) (locs : List Loc) (u : va_W) (pc : Nat) (ls : Array Slot) (v : Int32), post (some (.int v)) u → zz_w G A s u H locs → narrow rt (.int v) = .int v → decode cc pc = .ok (.ireturn, 1) → W p l e (zz_rm d mc ms) s m args below meth c H locs mc ms Q (F0 m pc ls [.int v])) →
    zz_w G A s w0 s.heap [] → lv_has ls nL (lv_args 0 vs) → W p l e (zz_rm d mc ms) s m args below meth c s.heap [] 0 0 Q (F0 m 0 ls [])) : zz_M l G (y, cc, nL, some rt) d mc ms vs w0 post := by
  intro sz
  refine Met.ofW (cc := cc) (maxL := nL) (ret := some rt) hy rfl ?_
  intro p e s m args below meth c s₁ B hml hv
  obtain ⟨rfl, hsz, hP, hK, hD0, hN⟩ := hv
  have hts := atoms_spec (ws := zz_ws (y, cc, nL, some rt)) B.pre
  have hown : s.vm.findClass y.cls = some m.cls := findClass_of_methodNamed B.named
  have hlocks := B.notSynchronized
  have hnm := (name_of_methodNamed B.named B.method).1
  subst hsz
  rw [lg_entry_eq]
  refine body p e s m _ below meth c (va_A w0 s.heap.size) _ _ ⟨B.exec, B.bytes, hml, hown, fun w h => hts w (List.mem_cons_of_mem _ h)⟩ hnm ?_ ⟨hK, hP, hD0.self, va_S.rf, fun q h => Or.inr h, hN⟩ (lv_entry vs hn)
  intro H locs u pc ls v hp hw hn hd
  obtain ⟨hK, hP, hD, hS, hA, hN⟩ := hw
  exact W.zret B.exec B.bytes B.returns hn (fun t ht hW => ⟨⟨_, u, rfl, hp, by rw [ht]; exact hP, va_K.moved hW.alike hK, hD⟩, hS.F ht⟩) hS.2.2 hd
theorem zz_enterl (hy : plainName y.cls = true) (hn : (lg_sl vs).length ≤ nL) (body : ∀ (p : Program) (e : Env) (s : State) (m : MethodId) (args : Array Value) (below : List Frame) (meth : Method) (c : Code) (A : Nat → Prop) (Q : State → Prop) (ls : Array Slot), CallFix p m c cc nL s args zz_T y.cls → meth.name = y.name →
    (∀ (H : Heap) (locs : List Loc) (u : va_W) (pc : Nat) (ls : Array Slot) (v : Int64), post (some (.long v)) u → zz_w G A s u H locs → decode cc pc = .ok (.lreturn, 1) → W p l e (zz_rm d mc ms) s m args below meth c H locs mc ms Q (F0 m pc ls [.long v])) →
    zz_w G A s w0 s.heap [] → lv_has ls nL (lv_args 0 vs) → W p l e (zz_rm d mc ms) s m args below meth c s.heap [] 0 0 Q (F0 m 0 ls [])) : zz_M l G (y, cc, nL, some .long) d mc ms vs w0 post := by
  intro sz
  refine Met.ofW (cc := cc) (maxL := nL) (ret := some .long) hy rfl ?_
  intro p e s m args below meth c s₁ B hml hv
  obtain ⟨rfl, hsz, hP, hK, hD0, hN⟩ := hv
  have hts := atoms_spec (ws := zz_ws (y, cc, nL, some .long)) B.pre
  have hown : s.vm.findClass y.cls = some m.cls := findClass_of_methodNamed B.named
  have hlocks := B.notSynchronized
  have hnm := (name_of_methodNamed B.named B.method).1
  subst hsz
  rw [lg_entry_eq]
  refine body p e s m _ below meth c (va_A w0 s.heap.size) _ _ ⟨B.exec, B.bytes, hml, hown, fun w h => hts w (List.mem_cons_of_mem _ h)⟩ hnm ?_ ⟨hK, hP, hD0.self, va_S.rf, fun q h => Or.inr h, hN⟩ (lv_entry vs hn)
  intro H locs u pc ls v hp hw hd
  obtain ⟨hK, hP, hD, hS, hA, hN⟩ := hw
  exact W.lret B.exec B.bytes B.returns (fun t ht hW => ⟨⟨_, u, rfl, hp, by rw [ht]; exact hP, va_K.moved hW.alike hK, hD⟩, hS.F ht⟩) hS.2.2 hd
theorem zz_enterv (hy : plainName y.cls = true) (hn : (lg_sl vs).length ≤ nL) (body : ∀ (p : Program) (e : Env) (s : State) (m : MethodId) (args : Array Value) (below : List Frame) (meth : Method) (c : Code) (A : Nat → Prop) (Q : State → Prop) (ls : Array Slot), CallFix p m c cc nL s args zz_T y.cls → meth.name = y.name →
    (∀ (H : Heap) (locs : List Loc) (u : va_W) (pc : Nat) (ls : Array Slot), post none u → zz_w G A s u H locs → decode cc pc = .ok (.return_, 1) → W p l e (zz_rm d mc ms) s m args below meth c H locs mc ms Q (F0 m pc ls [])) →
    zz_w G A s w0 s.heap [] → lv_has ls nL (lv_args 0 vs) → W p l e (zz_rm d mc ms) s m args below meth c s.heap [] 0 0 Q (F0 m 0 ls [])) : zz_M l G (y, cc, nL, none) d mc ms vs w0 post := by
  intro sz
  refine Met.ofW (cc := cc) (maxL := nL) (ret := none) hy rfl ?_
  intro p e s m args below meth c s₁ B hml hv
  obtain ⟨rfl, hsz, hP, hK, hD0, hN⟩ := hv
  have hts := atoms_spec (ws := zz_ws (y, cc, nL, none)) B.pre
  have hown : s.vm.findClass y.cls = some m.cls := findClass_of_methodNamed B.named
  have hlocks := B.notSynchronized
  have hnm := (name_of_methodNamed B.named B.method).1
  subst hsz
  rw [lg_entry_eq]
  refine body p e s m _ below meth c (va_A w0 s.heap.size) _ _ ⟨B.exec, B.bytes, hml, hown, fun w h => hts w (List.mem_cons_of_mem _ h)⟩ hnm ?_ ⟨hK, hP, hD0.self, va_S.rf, fun q h => Or.inr h, hN⟩ (lv_entry vs hn)
  intro H locs u pc ls hp hw hd
  obtain ⟨hK, hP, hD, hS, hA, hN⟩ := hw
  exact W.vret B.exec B.bytes B.returns (fun t ht hW => ⟨⟨_, u, rfl, hp, by rw [ht]; exact hP, va_K.moved hW.alike hK, hD⟩, hS.F ht⟩) hS.2.2 hd
theorem zz_enterr {cn : String} (hy : plainName y.cls = true) (hn : (lg_sl vs).length ≤ nL) (body : ∀ (p : Program) (e : Env) (s : State) (m : MethodId) (args : Array Value) (below : List Frame) (meth : Method) (c : Code) (A : Nat → Prop) (Q : State → Prop) (ls : Array Slot), CallFix p m c cc nL s args zz_T y.cls → meth.name = y.name →
    (∀ (H : Heap) (locs : List Loc) (u : va_W) (pc : Nat) (ls : Array Slot) (v : Nat), post (some (.ref v)) u → zz_w G A s u H locs → decode cc pc = .ok (.areturn, 1) → W p l e (zz_rm d mc ms) s m args below meth c H locs mc ms Q (F0 m pc ls [.ref v])) →
    zz_w G A s w0 s.heap [] → lv_has ls nL (lv_args 0 vs) → W p l e (zz_rm d mc ms) s m args below meth c s.heap [] 0 0 Q (F0 m 0 ls [])) : zz_M l G (y, cc, nL, some (.object cn)) d mc ms vs w0 post := by
  intro sz
  refine Met.ofW (cc := cc) (maxL := nL) (ret := some (.object cn)) hy rfl ?_
  intro p e s m args below meth c s₁ B hml hv
  obtain ⟨rfl, hsz, hP, hK, hD0, hN⟩ := hv
  have hts := atoms_spec (ws := zz_ws (y, cc, nL, some (.object cn))) B.pre
  have hown : s.vm.findClass y.cls = some m.cls := findClass_of_methodNamed B.named
  have hlocks := B.notSynchronized
  have hnm := (name_of_methodNamed B.named B.method).1
  subst hsz
  rw [lg_entry_eq]
  refine body p e s m _ below meth c (va_A w0 s.heap.size) _ _ ⟨B.exec, B.bytes, hml, hown, fun w h => hts w (List.mem_cons_of_mem _ h)⟩ hnm ?_ ⟨hK, hP, hD0.self, va_S.rf, fun q h => Or.inr h, hN⟩ (lv_entry vs hn)
  intro H locs u pc ls v hp hw hd
  obtain ⟨hK, hP, hD, hS, hA, hN⟩ := hw
  exact W.aret B.exec B.bytes B.returns (Or.inl ⟨_, rfl⟩) (Or.inr ⟨_, rfl⟩) (fun t ht hW => ⟨⟨_, u, rfl, hp, by rw [ht]; exact hP, va_K.moved hW.alike hK, hD⟩, hS.F ht⟩) hS.2.2 hd
end ZE
section ZR
variable {p : Program} {l : Launch} {e : Env} {R : Room} {s : State} {m : MethodId} {args : Array Value} {below : List Frame} {meth : Method} {c : Code} {H : Heap} {locs : List Loc} {cells slots : Nat} {Q : State → Prop}
variable {cc : ByteArray} {pc : Nat} {ls : Array Slot} {rest : List Value} {G : zz_G} {A : Nat → Prop} {a : Nat} {ws ws' : va_W} {nL : Nat} {own : String} {index : Nat}
theorem zz_get {ci k : Nat} (S : CallFix p m c cc nL s args zz_T own) (hw : zz_w G A s ws H locs) (hf : zz_FL own index ci k) (q0 : Nat) {fs : List Value} (he : ws[q0]? = some (a, .inr (ci, fs))) {v : Value} (hv : fs[k]? = some v) (hdg : decode cc pc = .ok (.getfield index, 3))
    (kk : W p l e R s m args below meth c H locs cells slots Q (F0 m (pc + 3) ls (v :: rest))) : W p l e R s m args below meth c H locs cells slots Q (F0 m pc ls (.ref a :: rest)) := by
  obtain ⟨hK, hP, hD, hS, hA, hN⟩ := hw
  obtain ⟨hx, hb, hml, hown, hts⟩ := S
  obtain ⟨C, T, N, ⟨hc, hin, ty0, hty, hnm⟩, hk, hl⟩ := hf
  rcases hl with hl | ⟨host, hl⟩
  · exact va_get hx hb hts hin hown hK hP q0 he hc k hk (hts _ hl) (fun _ h => h) hv hdg kk
  · exact va_getN hx hb hts hin hown hK hP q0 he hc k hk (va_Nw.use rfl (hN.1 _ hl)) (fun _ h => h) hv hdg kk
theorem zz_put {ci k : Nat} {ty : FieldType} (S : CallFix p m c cc nL s args zz_T own) (hw : zz_w G A s ws H locs) (hf : zz_FP own index ci k ty) (q0 : Nat) {fs : List Value} (he : ws[q0]? = some (a, .inr (ci, fs))) {v : Value} (hn : narrow ty v = v) (hfit : fits ty v = true) (hl : k < fs.length) (hws : ws.set q0 (a, .inr (ci, fs.set k v)) = ws') (hdg : decode cc pc = .ok (.putfield index, 3))
    (kk : ∀ (H1 : Heap) (locs1 : List Loc), zz_w G A s ws' H1 locs1 → W p l e R s m args below meth c H1 locs1 cells slots Q (F0 m (pc + 3) ls rest)) : W p l e R s m args below meth c H locs cells slots Q (F0 m pc ls (v :: .ref a :: rest)) := by
  obtain ⟨hK, hP, hD, hS, hA, hN⟩ := hw
  obtain ⟨hx, hb, hml, hown, hts⟩ := S
  obtain ⟨C, T, N, ⟨hc, hin, ty0, hty, hnm⟩, hk, hl0, hfin, hd⟩ := hf
  subst hws
  rcases hl0 with hl0 | ⟨host, hl0⟩
  · exact va_put hx hb hts hin ty0 hty hnm hown hK hP hD hS q0 he hc k hk (hts _ hl0) (fun _ h => h) hfin hd hn hfit hl hdg (fun H1 locs1 h1 h2 h3 => kk H1 locs1 ⟨hK, h1, h2, h3, hA, hN⟩)
  · exact va_putN hx hb hts hin ty0 hty hnm hown hK hP hD hS q0 he hc k hk (va_Nw.use rfl (hN.1 _ hl0)) (fun _ h => h) hfin hd hn hfit hl hdg (fun H1 locs1 h1 h2 h3 => kk H1 locs1 ⟨hK, h1, h2, h3, hA, hN⟩)
theorem zz_putF {ci k : Nat} {ty : FieldType} (S : CallFix p m c cc nL s args zz_T own) (hin0 : meth.name = "<init>") (hw : zz_w G A s ws H locs) (hf : zz_FF own index ci k ty) (q0 : Nat) {fs : List Value} (he : ws[q0]? = some (a, .inr (ci, fs))) {v : Value} (hn : narrow ty v = v) (hfit : fits ty v = true) (hl : k < fs.length) (hws : ws.set q0 (a, .inr (ci, fs.set k v)) = ws') (hdg : decode cc pc = .ok (.putfield index, 3))
    (kk : ∀ (H1 : Heap) (locs1 : List Loc), zz_w G A s ws' H1 locs1 → W p l e R s m args below meth c H1 locs1 cells slots Q (F0 m (pc + 3) ls rest)) : W p l e R s m args below meth c H locs cells slots Q (F0 m pc ls (v :: .ref a :: rest)) := by
  obtain ⟨hK, hP, hD, hS, hA, hN⟩ := hw
  obtain ⟨hx, hb, hml, hown, hts⟩ := S
  obtain ⟨C, T, N, ⟨hc, hin, ty0, hty, hnm⟩, hk, hl0, hfin, hd, hdecl⟩ := hf
  subst hws
  exact va_putF hx hb hts hin ty0 hty hnm hown hK hP hD hS q0 he hc k hk (hts _ hl0) (fun _ h => h) hfin hin0 hdecl hd hn hfit hl hdg (fun H1 locs1 h1 h2 h3 => kk H1 locs1 ⟨hK, h1, h2, h3, hA, hN⟩)
theorem zz_iald (S : CallFix p m c cc nL s args zz_T own) (hw : zz_w G A s ws H locs) (q0 : Nat) {n : Nat} {f : Nat → Int32} (ha : ws[q0]? = some (a, .inl (G.2 0, n, .inl f))) {i v : Int32} (hin : vp_in i n) (hv : f i.toNatClampNeg = v) (hdg : decode cc pc = .ok (.iaload, 1))
    (kk : W p l e R s m args below meth c H locs cells slots Q (F0 m (pc + 1) ls (.int v :: rest))) : W p l e R s m args below meth c H locs cells slots Q (F0 m pc ls (.int i :: .ref a :: rest)) := by
  subst hv; exact va_iald S.1 S.2.1 hw.1 hw.2.1 q0 0 ha rfl hin hdg kk
theorem zz_bald (S : CallFix p m c cc nL s args zz_T own) (hw : zz_w G A s ws H locs) (q0 : Nat) {n : Nat} {f : Nat → Int32} (ha : ws[q0]? = some (a, .inl (G.2 1, n, .inl f))) {i v : Int32} (hin : vp_in i n) (hv : f i.toNatClampNeg = v) (hdg : decode cc pc = .ok (.baload, 1))
    (kk : W p l e R s m args below meth c H locs cells slots Q (F0 m (pc + 1) ls (.int v :: rest))) : W p l e R s m args below meth c H locs cells slots Q (F0 m pc ls (.int i :: .ref a :: rest)) := by
  subst hv; exact va_bald S.1 S.2.1 hw.1 hw.2.1 q0 1 ha rfl hin hdg kk
theorem zz_zald (S : CallFix p m c cc nL s args zz_T own) (hw : zz_w G A s ws H locs) (q0 : Nat) {n : Nat} {f : Nat → Int32} (ha : ws[q0]? = some (a, .inl (G.2 2, n, .inl f))) {i v : Int32} (hin : vp_in i n) (hv : f i.toNatClampNeg = v) (hdg : decode cc pc = .ok (.baload, 1))
    (kk : W p l e R s m args below meth c H locs cells slots Q (F0 m (pc + 1) ls (.int v :: rest))) : W p l e R s m args below meth c H locs cells slots Q (F0 m pc ls (.int i :: .ref a :: rest)) := by
  subst hv; exact va_zald S.1 S.2.1 hw.1 hw.2.1 q0 2 ha rfl hin hdg kk
theorem zz_lald (S : CallFix p m c cc nL s args zz_T own) (hw : zz_w G A s ws H locs) (q0 : Nat) {n : Nat} {f : Nat → Int64} (ha : ws[q0]? = some (a, .inl (G.2 3, n, .inr (.inl f)))) {i : Int32} {v : Int64} (hin : vp_in i n) (hv : f i.toNatClampNeg = v) (hdg : decode cc pc = .ok (.laload, 1))
    (kk : W p l e R s m args below meth c H locs cells slots Q (F0 m (pc + 1) ls (.long v :: rest))) : W p l e R s m args below meth c H locs cells slots Q (F0 m pc ls (.int i :: .ref a :: rest)) := by
  subst hv; exact va_lald S.1 S.2.1 hw.1 hw.2.1 q0 3 ha rfl hin hdg kk
theorem zz_aldL (S : CallFix p m c cc nL s args zz_T own) (hw : zz_w G A s ws H locs) (q0 : Nat) {n : Nat} {f : Nat → Option Nat} (ha : ws[q0]? = some (a, .inl (G.2 4, n, .inr (.inr (.inr (.inr f)))))) {i : Int32} {v : Nat} (hin : vp_in i n) (hv : f i.toNatClampNeg = some v) (hdg : decode cc pc = .ok (.aaload, 1))
    (kk : W p l e R s m args below meth c H locs cells slots Q (F0 m (pc + 1) ls (.ref v :: rest))) : W p l e R s m args below meth c H locs cells slots Q (F0 m pc ls (.int i :: .ref a :: rest)) := by
  refine va_aldq S.1 S.2.1 hw.1 hw.2.1 q0 4 ha rfl hin hdg ?_
  rw [hv]; exact kk
theorem zz_aldS (S : CallFix p m c cc nL s args zz_T own) (hw : zz_w G A s ws H locs) (q0 : Nat) {n : Nat} {f : Nat → Option Nat} (ha : ws[q0]? = some (a, .inl (G.2 5, n, .inr (.inr (.inr (.inr f)))))) {i : Int32} {v : Nat} (hin : vp_in i n) (hv : f i.toNatClampNeg = some v) (hdg : decode cc pc = .ok (.aaload, 1))
    (kk : W p l e R s m args below meth c H locs cells slots Q (F0 m (pc + 1) ls (.ref v :: rest))) : W p l e R s m args below meth c H locs cells slots Q (F0 m pc ls (.int i :: .ref a :: rest)) := by
  refine va_aldq S.1 S.2.1 hw.1 hw.2.1 q0 5 ha rfl hin hdg ?_
  rw [hv]; exact kk
theorem zz_iast (S : CallFix p m c cc nL s args zz_T own) (hw : zz_w G A s ws H locs) (q0 : Nat) {n : Nat} {f g : Nat → Int32} (ha : ws[q0]? = some (a, .inl (G.2 0, n, .inl f))) {i x : Int32} (hin : vp_in i n) (hg : upd f i.toNatClampNeg x = g) (hws : ws.set q0 (a, .inl (G.2 0, n, .inl g)) = ws') (hdg : decode cc pc = .ok (.iastore, 1))
    (kk : ∀ (H1 : Heap) (locs1 : List Loc), zz_w G A s ws' H1 locs1 → W p l e R s m args below meth c H1 locs1 cells slots Q (F0 m (pc + 1) ls rest)) : W p l e R s m args below meth c H locs cells slots Q (F0 m pc ls (.int x :: .int i :: .ref a :: rest)) := by
  obtain ⟨hK, hP, hD, hS, hA, hN⟩ := hw
  subst hws; subst hg
  exact va_iast S.1 S.2.1 hK hP hD hS q0 0 ha rfl hin hdg (fun H1 locs1 h1 h2 h3 => kk H1 locs1 ⟨hK, h1, h2, h3, hA, hN⟩)
theorem zz_bast (S : CallFix p m c cc nL s args zz_T own) (hw : zz_w G A s ws H locs) (q0 : Nat) {n : Nat} {f g : Nat → Int32} (ha : ws[q0]? = some (a, .inl (G.2 1, n, .inl f))) {i x : Int32} (hin : vp_in i n) (hg : upd f i.toNatClampNeg (vp_nar .byte x) = g) (hws : ws.set q0 (a, .inl (G.2 1, n, .inl g)) = ws') (hdg : decode cc pc = .ok (.bastore, 1))
    (kk : ∀ (H1 : Heap) (locs1 : List Loc), zz_w G A s ws' H1 locs1 → W p l e R s m args below meth c H1 locs1 cells slots Q (F0 m (pc + 1) ls rest)) : W p l e R s m args below meth c H locs cells slots Q (F0 m pc ls (.int x :: .int i :: .ref a :: rest)) := by
  obtain ⟨hK, hP, hD, hS, hA, hN⟩ := hw
  subst hws; subst hg
  exact va_bast S.1 S.2.1 hK hP hD hS q0 1 ha rfl hin hdg (fun H1 locs1 h1 h2 h3 => kk H1 locs1 ⟨hK, h1, h2, h3, hA, hN⟩)
theorem zz_zast (S : CallFix p m c cc nL s args zz_T own) (hw : zz_w G A s ws H locs) (q0 : Nat) {n : Nat} {f g : Nat → Int32} (ha : ws[q0]? = some (a, .inl (G.2 2, n, .inl f))) {i x : Int32} (hin : vp_in i n) (hg : upd f i.toNatClampNeg (vp_nar .boolean x) = g) (hws : ws.set q0 (a, .inl (G.2 2, n, .inl g)) = ws') (hdg : decode cc pc = .ok (.bastore, 1))
    (kk : ∀ (H1 : Heap) (locs1 : List Loc), zz_w G A s ws' H1 locs1 → W p l e R s m args below meth c H1 locs1 cells slots Q (F0 m (pc + 1) ls rest)) : W p l e R s m args below meth c H locs cells slots Q (F0 m pc ls (.int x :: .int i :: .ref a :: rest)) := by
  obtain ⟨hK, hP, hD, hS, hA, hN⟩ := hw
  subst hws; subst hg
  exact va_zast S.1 S.2.1 hK hP hD hS q0 2 ha rfl hin hdg (fun H1 locs1 h1 h2 h3 => kk H1 locs1 ⟨hK, h1, h2, h3, hA, hN⟩)
theorem zz_last (S : CallFix p m c cc nL s args zz_T own) (hw : zz_w G A s ws H locs) (q0 : Nat) {n : Nat} {f g : Nat → Int64} (ha : ws[q0]? = some (a, .inl (G.2 3, n, .inr (.inl f)))) {i : Int32} {x : Int64} (hin : vp_in i n) (hg : vp_updL f i.toNatClampNeg x = g) (hws : ws.set q0 (a, .inl (G.2 3, n, .inr (.inl g))) = ws') (hdg : decode cc pc = .ok (.lastore, 1))
    (kk : ∀ (H1 : Heap) (locs1 : List Loc), zz_w G A s ws' H1 locs1 → W p l e R s m args below meth c H1 locs1 cells slots Q (F0 m (pc + 1) ls rest)) : W p l e R s m args below meth c H locs cells slots Q (F0 m pc ls (.long x :: .int i :: .ref a :: rest)) := by
  obtain ⟨hK, hP, hD, hS, hA, hN⟩ := hw
  subst hws; subst hg
  exact va_last S.1 S.2.1 hK hP hD hS q0 3 ha rfl hin hdg (fun H1 locs1 h1 h2 h3 => kk H1 locs1 ⟨hK, h1, h2, h3, hA, hN⟩)
theorem zz_astL (S : CallFix p m c cc nL s args zz_T own) (hw : zz_w G A s ws H locs) (q0 qk : Nat) {n v : Nat} {vs : List Value} {f g : Nat → Option Nat} (ha : ws[q0]? = some (a, .inl (G.2 4, n, .inr (.inr (.inr (.inr f)))))) (hv : ws[qk]? = some (v, .inr (2, vs))) {i : Int32} (hin : vp_in i n) (hg : va_up f i.toNatClampNeg (some v) = g) (hws : ws.set q0 (a, .inl (G.2 4, n, .inr (.inr (.inr (.inr g))))) = ws') (hdg : decode cc pc = .ok (.aastore, 1))
    (kk : ∀ (H1 : Heap) (locs1 : List Loc), zz_w G A s ws' H1 locs1 → W p l e R s m args below meth c H1 locs1 cells slots Q (F0 m (pc + 1) ls rest)) : W p l e R s m args below meth c H locs cells slots Q (F0 m pc ls (.ref v :: .int i :: .ref a :: rest)) := by
  obtain ⟨hK, hP, hD, hS, hA, hN⟩ := hw
  subst hws; subst hg
  exact va_astq S.1 S.2.1 hK hP hD hS q0 4 qk 2 (r := (RX2, TX2, 5)) ha rfl hv rfl hin hdg (fun H1 locs1 h1 h2 h3 => kk H1 locs1 ⟨hK, h1, h2, h3, hA, hN⟩)
theorem zz_astS (S : CallFix p m c cc nL s args zz_T own) (hw : zz_w G A s ws H locs) (q0 qk : Nat) {n v : Nat} {vs : List Value} {f g : Nat → Option Nat} (ha : ws[q0]? = some (a, .inl (G.2 5, n, .inr (.inr (.inr (.inr f)))))) (hv : ws[qk]? = some (v, .inr (6, vs))) {i : Int32} (hin : vp_in i n) (hg : va_up f i.toNatClampNeg (some v) = g) (hws : ws.set q0 (a, .inl (G.2 5, n, .inr (.inr (.inr (.inr g))))) = ws') (hdg : decode cc pc = .ok (.aastore, 1))
    (kk : ∀ (H1 : Heap) (locs1 : List Loc), zz_w G A s ws' H1 locs1 → W p l e R s m args below meth c H1 locs1 cells slots Q (F0 m (pc + 1) ls rest)) : W p l e R s m args below meth c H locs cells slots Q (F0 m pc ls (.ref v :: .int i :: .ref a :: rest)) := by
  obtain ⟨hK, hP, hD, hS, hA, hN⟩ := hw
  subst hws; subst hg
  exact va_astq S.1 S.2.1 hK hP hD hS q0 5 qk 6 (r := (RX6, TX6, 7)) ha rfl hv rfl hin hdg (fun H1 locs1 h1 h2 h3 => kk H1 locs1 ⟨hK, h1, h2, h3, hA, hN⟩)
theorem zz_alen (S : CallFix p m c cc nL s args zz_T own) (hw : zz_w G A s ws H locs) (q0 t0 : Nat) {cA : ClassId} {x : vp_A} (ha : ws[q0]? = some (a, .inl (cA, x))) {ty : FieldType} (ht : (zz_ty G)[t0]? = some (cA, ty)) {v : Int32} (hv : Int32.ofNat x.1 = v) (hdg : decode cc pc = .ok (.arraylength, 1))
    (kk : W p l e R s m args below meth c H locs cells slots Q (F0 m (pc + 1) ls (.int v :: rest))) : W p l e R s m args below meth c H locs cells slots Q (F0 m pc ls (.ref a :: rest)) := va_alen S.1 S.2.1 hw.1 hw.2.1 q0 t0 ha ht hv hdg kk
theorem zz_new {C : String} {T : u_T} {N ci : Nat} (S : CallFix p m c cc nL s args zz_T own) (hw : zz_w G A s ws H locs) (hCL : zz_CL ci C T N) (tyf : Nat → FieldType) (htf : ∀ k, k < N → parseFieldDescriptor (T k).2.2.1 = some (tyf k)) (h1 : Cond.classLink own index C ∈ zz_T) (h2 : Cond.instantiable C N ∈ zz_T) (h3 : Cond.initialized C ∈ zz_T) {fs : List Value} (hfs : ∀ j, j < N → defaultValue (tyf j) = vp_V fs j) (hcells : cells + 1 ≤ R.cells) (hslots : slots + N ≤ R.slots) (hdg : decode cc pc = .ok (.new index, 3))
    (kk : ∀ (q : Nat) (H1 : Heap), zz_w G A s (ws ++ [(q, .inr (ci, fs))]) H1 locs → W p l e R s m args below meth c H1 locs (cells + 1) (slots + N) Q (F0 m (pc + 3) ls (.ref q :: rest))) : W p l e R s m args below meth c H locs cells slots Q (F0 m pc ls rest) := by
  obtain ⟨hK, hP, hD, hS, hA, hN⟩ := hw
  obtain ⟨hx, hb, hml, hown, hts⟩ := S
  obtain ⟨hc, hin, ty0, hty, hnm⟩ := hCL
  exact va_new hx hb hts hin tyf htf hown (hts _ h1) (hts _ h2) (hts _ h3) hK hP hD hS hA hc hfs hcells hslots hdg (fun q H1 g1 g2 g3 => kk q H1 ⟨hK, g1, g2, g3, hA, hN⟩)
theorem zz_newa {at_ : ArrayType} {ty : FieldType} {a0 : vp_A} {n : Int32} {N' : Nat} (t0 : Nat) (S : CallFix p m c cc nL s args zz_T own) (hw : zz_w G A s ws H locs) (harr : Cond.arrayClass (newarray.typeOf at_) ∈ zz_T) (hty : newarray.typeOf at_ = ty) (ht : (zz_ty G)[t0]? = some (G.2 t0, ty)) (hpt : ∀ (U : State) (cA : ClassId), va_RA U cA ty → U.vm.findClass ("[" ++ ty.toString) = some cA) (ha : ∀ cA : ClassId, vp_cell cA a0 = arrV cA N' (fun _ => defaultValue ty)) (hn : ¬ n < 0) (hN : n.toNatClampNeg = N') (hbytes : N' * componentBytes ty ≤ 536870912) (hcells : cells + 1 ≤ R.cells) (hslots : slots + N' ≤ R.slots) (hdg : decode cc pc = .ok (.newarray at_, 2))
    (kk : ∀ (q : Nat) (H1 : Heap), zz_w G A s (ws ++ [(q, .inl (G.2 t0, a0))]) H1 locs → W p l e R s m args below meth c H1 locs (cells + 1) (slots + N') Q (F0 m (pc + 2) ls (.ref q :: rest))) : W p l e R s m args below meth c H locs cells slots Q (F0 m pc ls (.int n :: rest)) := by
  obtain ⟨hK, hP, hD, hS, hA, hN0⟩ := hw
  obtain ⟨hx, hb, hml, hown, hts⟩ := S
  refine va_newa (atype := at_) hx hb (hts _ harr) hty hK hP hD hS hA ha hn hN hbytes hcells hslots hdg (fun q cA H1 g0 g1 g2 g3 => ?_)
  have e1 := hpt _ _ (g0.2 6 (cA, ty) rfl).2
  have e2 := hpt _ _ (hK.2 t0 _ ht).2
  have e : cA = G.2 t0 := Option.some.inj (e1.symm.trans e2)
  subst e
  exact kk q H1 ⟨hK, g1, g2, g3, hA, hN0⟩
theorem zz_newq {C : String} {n : Int32} {N' : Nat} (t0 : Nat) (S : CallFix p m c cc nL s args zz_T own) (hw : zz_w G A s ws H locs) (h1 : Cond.classLink own index C ∈ zz_T) (hao : va_AO C s) (ht : (zz_ty G)[t0]? = some (G.2 t0, .object C)) (hn : ¬ n < 0) (hN : n.toNatClampNeg = N') (hbytes : N' * 4 ≤ 536870912) (hcells : cells + 1 ≤ R.cells) (hslots : slots + N' ≤ R.slots) (hdg : decode cc pc = .ok (.anewarray index, 3))
    (kk : ∀ (q : Nat) (H1 : Heap), zz_w G A s (ws ++ [(q, .inl (G.2 t0, N', .inr (.inr (.inr (.inr (fun _ => none))))))]) H1 locs → W p l e R s m args below meth c H1 locs (cells + 1) (slots + N') Q (F0 m (pc + 3) ls (.ref q :: rest))) : W p l e R s m args below meth c H locs cells slots Q (F0 m pc ls (.int n :: rest)) := by
  obtain ⟨hK, hP, hD, hS, hA, hN0⟩ := hw
  obtain ⟨hx, hb, hml, hown, hts⟩ := S
  refine va_newq hx hb hown (hts _ h1) hao hK hP hD hS hA hn hN hbytes hcells hslots hdg (fun q cA H1 g0 g1 g2 g3 => ?_)
  obtain ⟨_, _, _, _, _, e1⟩ := (g0.2 6 (cA, .object C) rfl).2
  obtain ⟨_, _, _, _, _, e2⟩ := (hK.2 t0 _ ht).2
  have e : cA = G.2 t0 := Option.some.inj (e1.symm.trans e2)
  subst e
  exact kk q H1 ⟨hK, g1, g2, g3, hA, hN0⟩
theorem zz_obj (S : CallFix p m c cc nL s args zz_T own) (hlk : Cond.methodLink own index objectInit ∈ zz_T) (hl : ls.size = nL) (hd : decode cc pc = .ok (.invokespecial index, 3)) (hfr : 1 ≤ R.frames) (hlo : (rest.map fun v => v.category).sum + 12 ≤ R.locals) (kk : W p l e R s m args below meth c H locs cells slots Q (F0 m (pc + 3) ls rest)) : W p l e R s m args below meth c H locs cells slots Q (F0 m pc ls (.ref a :: rest)) := by
  obtain ⟨hx, hb, hml, hown, hts⟩ := S
  exact W.objInit hx hb hown (hts _ hlk) (hts _ zz_oi1) (hts _ zz_oi2) rfl (by rw [hml]; exact hl) rfl hd hfr (by show 2 * 0 + _ + 12 ≤ _; omega) kk
theorem zz_go {mc ms : Nat} {st0 : List Value} {av : Array Value} {wc wr : va_W} {post : Option Value → va_W → Prop} (hr : va_Run p l e R s m args below meth c H locs cells slots mc ms (F0 m pc ls st0) rest (zz_Q G wc H.size post av) (va_A wc H.size)) (hw : zz_w G A s ws H locs) (isC isR : List Nat) (hC : isC.map (fun i => ws[i]?) = wc.map some) (hR : isR.map (fun i => ws[i]?) = wr.map some) (hn : va_nd isR = true) (hdis : ∀ i ∈ isR, i ∉ isC)
    (kk : ∀ (r : Option Value) (u : va_W) (H1 : Heap) (locs1 : List Loc), post r u → zz_w G A s (wr ++ u) H1 locs1 → W p l e R s m args below meth c H1 locs1 (cells + mc) (slots + ms) Q (F0 m (pc + 3) ls (r.toList ++ rest))) : W p l e R s m args below meth c H locs cells slots Q (F0 m pc ls st0) := by
  obtain ⟨hK, hP, hD, hS, hA, hN⟩ := hw
  have hF := va_free (wc := wc) hD hS hA isC hC
  intro T hT X
  obtain ⟨v, st₀, t, T', L, h0, X', hL, e1, e2, ⟨⟨r, u, hv, hp, hP1, hK1, hD1⟩, hz, hk⟩, st⟩ := hr T hT X
  cases hv
  rw [h0] at hz hk
  obtain ⟨hP2, hD2⟩ := va_join (wr := wr) (w1 := u) hP hD isC isR hC hR hn hdis hk hF hP1 hD1
  obtain ⟨t2, a1, b1⟩ := kk _ u T'.heap (locs ++ L) hp
    ⟨hK, by rw [e1]; exact hP2, hD2, ⟨Nat.le_trans hS.1 (by rw [e1]; exact hz), fun q h1 h2 => by rw [e1, hk q (Nat.lt_of_lt_of_le h1 hS.1) (fun z => h2 (hF q z))]; exact hS.2.1 q h1 h2, fun q hq => by
      rcases List.mem_append.mp hq with h | h
      · exact hS.2.2 q h
      · exact hF _ (hL q h)⟩, hA, hN⟩ T' rfl X'
  exact ⟨t2, st t2 a1, b1⟩
theorem zz_pre {wc : va_W} {vs : List Value} (hw : zz_w G A s ws H locs) (isC : List Nat) (hn : va_nd isC = true) (hC : isC.map (fun i => ws[i]?) = wc.map some) : ∀ U : State, U.heap = H → s.WarmedH U.vm → va_Pc vs (zz_Pre G wc H.size) vs.toArray U := by
  intro U hU hW
  obtain ⟨hK, hP, hD, hS, hA, hN⟩ := hw.sub isC hn hC
  subst hU
  exact ⟨rfl, rfl, hP, va_K.moved hW.alike hK, ⟨hD.1, fun _ _ _ => trivial⟩, hN.warm hW⟩
theorem zz_callV {Y : zz_Y} {n d mc ms ci qb b : Nat} {As st0 : List Value} {wc wr : va_W} {post : Option Value → va_W → Prop} {fs : List Value} (S : CallFix p m c cc nL s args zz_T own) (hw : zz_w G A s ws H locs) (hl : ls.size = nL) (lk : zz_LV own index Y n) (ct : zz_M l G Y d mc ms (.ref b :: As) wc post) (hRm : d + 1 ≤ R.frames ∧ 8 + (Y.2.2.1 + 11) + 40 * d ≤ R.locals) (hf : cells + mc ≤ R.cells ∧ slots + ms ≤ R.slots) (isC isR : List Nat) (hnC : va_nd isC = true) (hC : isC.map (fun i => ws[i]?) = wc.map some) (hR : isR.map (fun i => ws[i]?) = wr.map some) (hn : va_nd isR = true) (hdis : ∀ i ∈ isR, i ∉ isC) (hqb : ws[qb]? = some (b, .inr (ci, fs))) (hci : (zz_cl[ci]?).map (fun q => q.1) = some Y.1.cls) (hA : As.length = n) (hst : st0 = As.reverse ++ .ref b :: rest) (hW : (rest.map fun v => v.category).sum ≤ 8) (hdg : decode cc pc = .ok (.invokevirtual index, 3))
    (kk : ∀ (r : Option Value) (u : va_W) (H1 : Heap) (locs1 : List Loc), post r u → zz_w G A s (wr ++ u) H1 locs1 → W p l e R s m args below meth c H1 locs1 (cells + mc) (slots + ms) Q (F0 m (pc + 3) ls (r.toList ++ rest))) : W p l e R s m args below meth c H locs cells slots Q (F0 m pc ls st0) := by
  obtain ⟨hlk, hin, hsel, hini, hcode, hy1, hy2, hpar⟩ := lk
  have hts := S.2.2.2.2
  have hrecv : ∃ cell : Cell, H[b]? = some cell ∧ cell.vm.isStatics = false ∧ s.vm.findClass Y.1.cls = some cell.cls := by
    cases hq : zz_cl[ci]? with
    | none => rw [hq] at hci; cases hci
    | some q =>
      rw [hq] at hci
      have e : q.1 = Y.1.cls := Option.some.inj hci
      rw [← e]
      exact va_recv hw.1 hw.2.1 hq hqb
  refine zz_go (rest := rest) (av := (Value.ref b :: As).toArray) ?_ hw isC isR hC hR hn hdis kk
  rcases hlk with hlk | ⟨host, hlk⟩
  · exact va_runV (n := n) S (ct H.size) ⟨callB_of n hts (zz_good hcode) rfl rfl rfl (hts _ hini) (hts _ hlk) ⟨hy1, hy2, hpar⟩ hRm, hts _ hin, hts _ hsel⟩ ⟨zz_Pre.blind, hrecv, zz_pre hw isC hnC hC⟩ rfl hA hl hst (by show 2 * 0 + _ ≤ _; omega) hdg hf
  · exact va_runVN (n := n) (host := host) (C := Y.1.cls) S (ct H.size) ⟨va_cnB n hts (zz_good hcode) rfl rfl rfl (hw.2.2.2.2.2.1 _ hlk) (hts _ hini) ⟨hy1, hy2, hpar⟩ hRm, hts _ hin, hts _ hsel⟩ ⟨zz_Pre.blind, hrecv, zz_pre hw isC hnC hC⟩ rfl hA hl hst (by show 2 * 0 + _ ≤ _; omega) hdg hf
theorem zz_callS {Y : zz_Y} {n d mc ms : Nat} {As st0 : List Value} {wc wr : va_W} {post : Option Value → va_W → Prop} (S : CallFix p m c cc nL s args zz_T own) (hw : zz_w G A s ws H locs) (hl : ls.size = nL) (lk : zz_LS own index Y n) (ct : zz_M l G Y d mc ms As wc post) (hRm : d + 1 ≤ R.frames ∧ 8 + (Y.2.2.1 + 11) + 40 * d ≤ R.locals) (hf : cells + mc ≤ R.cells ∧ slots + ms ≤ R.slots) (isC isR : List Nat) (hnC : va_nd isC = true) (hC : isC.map (fun i => ws[i]?) = wc.map some) (hR : isR.map (fun i => ws[i]?) = wr.map some) (hn : va_nd isR = true) (hdis : ∀ i ∈ isR, i ∉ isC) (hA : As.length = n) (hst : st0 = As.reverse ++ rest) (hW : (rest.map fun v => v.category).sum ≤ 8) (hdg : decode cc pc = .ok (.invokestatic index, 3))
    (kk : ∀ (r : Option Value) (u : va_W) (H1 : Heap) (locs1 : List Loc), post r u → zz_w G A s (wr ++ u) H1 locs1 → W p l e R s m args below meth c H1 locs1 (cells + mc) (slots + ms) Q (F0 m (pc + 3) ls (r.toList ++ rest))) : W p l e R s m args below meth c H locs cells slots Q (F0 m pc ls st0) := by
  obtain ⟨hlk, hstt, hini, hcode, hy1, hy2, hpar⟩ := lk
  have hts := S.2.2.2.2
  refine zz_go (rest := rest) (av := As.toArray) ?_ hw isC isR hC hR hn hdis kk
  rcases hlk with hlk | ⟨host, hlk⟩
  · exact va_runS (n := n) S (ct H.size) ⟨callB_of n hts (zz_good hcode) rfl rfl rfl (hts _ hini) (hts _ hlk) ⟨hy1, hy2, hpar⟩ hRm, hts _ hstt⟩ ⟨zz_Pre.blind, zz_pre hw isC hnC hC⟩ rfl hA hl hst (by show 2 * 0 + _ ≤ _; omega) hdg hf
  · exact va_runSN (n := n) (host := host) S (ct H.size) ⟨va_cnB n hts (zz_good hcode) rfl rfl rfl (hw.2.2.2.2.2.1 _ hlk) (hts _ hini) ⟨hy1, hy2, hpar⟩ hRm, hts _ hstt, trivial⟩ ⟨zz_Pre.blind, zz_pre hw isC hnC hC⟩ rfl hA hl hst (by show 2 * 0 + _ ≤ _; omega) hdg hf
theorem zz_callI {y : MethodName} {bytes : ByteArray} {mL n d mc ms b : Nat} {As st0 : List Value} {wc wr : va_W} {post : Option Value → va_W → Prop} (S : CallFix p m c cc nL s args zz_T own) (hw : zz_w G A s ws H locs) (hl : ls.size = nL) (lk : zz_LI own index (y, bytes, mL, none) n) (ct : zz_M l G (y, bytes, mL, none) d mc ms (.ref b :: As) wc post) (hRm : d + 1 ≤ R.frames ∧ 8 + (mL + 11) + 40 * d ≤ R.locals) (hf : cells + mc ≤ R.cells ∧ slots + ms ≤ R.slots) (isC isR : List Nat) (hnC : va_nd isC = true) (hC : isC.map (fun i => ws[i]?) = wc.map some) (hR : isR.map (fun i => ws[i]?) = wr.map some) (hn : va_nd isR = true) (hdis : ∀ i ∈ isR, i ∉ isC) (hA : As.length = n) (hst : st0 = As.reverse ++ .ref b :: rest) (hW : (rest.map fun v => v.category).sum ≤ 8) (hdg : decode cc pc = .ok (.invokespecial index, 3))
    (kk : ∀ (r : Option Value) (u : va_W) (H1 : Heap) (locs1 : List Loc), post r u → zz_w G A s (wr ++ u) H1 locs1 → W p l e R s m args below meth c H1 locs1 (cells + mc) (slots + ms) Q (F0 m (pc + 3) ls (r.toList ++ rest))) : W p l e R s m args below meth c H locs cells slots Q (F0 m pc ls st0) := by
  obtain ⟨hlk, hin, hnm, hini, hcode, hy1, hy2, hpar⟩ := lk
  have hts := S.2.2.2.2
  refine zz_go (rest := rest) (av := (Value.ref b :: As).toArray) ?_ hw isC isR hC hR hn hdis kk
  rcases hlk with hlk | ⟨host, hlk⟩
  · exact va_runI (n := n) S (ct H.size) ⟨callB_of n hts (zz_good hcode) rfl rfl rfl (hts _ hini) (hts _ hlk) ⟨hy1, hy2, hpar⟩ hRm, hnm, hts _ hin⟩ ⟨zz_Pre.blind, zz_pre hw isC hnC hC⟩ rfl hA hl hst (by show 2 * 0 + _ ≤ _; omega) hdg hf
  · exact va_runIN (n := n) (host := host) S (ct H.size) ⟨va_cnB n hts (zz_good hcode) rfl rfl rfl (hw.2.2.2.2.2.1 _ hlk) (hts _ hini) ⟨hy1, hy2, hpar⟩ hRm, hnm, hts _ hin⟩ ⟨zz_Pre.blind, zz_pre hw isC hnC hC⟩ rfl hA hl hst (by show 2 * 0 + _ ≤ _; omega) hdg hf
theorem zz_copyi (S : CallFix p m c cc nL s args zz_T own) (hw : zz_w G A s ws H locs) (hl : ls.size = nL) (hlk : Cond.methodLink own index arraycopyName ∈ zz_T) (q0 q1 : Nat) {a0 : Nat} {n0 n1 : Nat} {f g g' : Nat → Int32} (ha0 : ws[q0]? = some (a0, .inl (G.2 0, n0, .inl f))) (ha1 : ws[q1]? = some (a, .inl (G.2 0, n1, .inl g)))
    {sp dp n : Int32} (h1 : ¬ sp < 0) (h2 : ¬ dp < 0) (h3 : ¬ n < 0) (h4 : sp.toNatClampNeg + n.toNatClampNeg ≤ n0) (h5 : dp.toNatClampNeg + n.toNatClampNeg ≤ n1) (hg : va_cpy f g sp.toNatClampNeg dp.toNatClampNeg n.toNatClampNeg = g') (hws : ws.set q1 (a, .inl (G.2 0, n1, .inl g')) = ws')
    (hframes : 1 ≤ R.frames) (hlocals : (rest.map fun v => v.category).sum + (nativeFrameWords "java/lang/System" "arraycopy" 5 + 11) ≤ R.locals) (hdg : decode cc pc = .ok (.invokestatic index, 3))
    (kk : ∀ (H1 : Heap) (locs1 : List Loc), zz_w G A s ws' H1 locs1 → W p l e R s m args below meth c H1 locs1 cells slots Q (F0 m (pc + 3) ls rest)) : W p l e R s m args below meth c H locs cells slots Q (F0 m pc ls (.int n :: .int dp :: .ref a :: .int sp :: .ref a0 :: rest)) := by
  obtain ⟨hK, hP, hD, hS, hA, hN⟩ := hw
  obtain ⟨hx, hb, hml, hown, hts⟩ := S
  subst hws; subst hg
  exact va_copyi hx hb (by rw [hml, hl]) hown (hts _ hlk) (hts _ zz_ac1) (hts _ zz_ac2) (hts _ zz_ac3) hK hP hD hS q0 q1 0 0 ha0 ha1 rfl rfl rfl h1 h2 h3 h4 h5 (fun _ _ => rfl) hframes hlocals hdg (fun H1 locs1 h1 h2 h3 => kk H1 locs1 ⟨hK, h1, h2, h3, hA, hN⟩)
theorem zz_max (S : CallFix p m c cc nL s args zz_T own) (hl : ls.size = nL) (hlk : Cond.methodLink own index Lib.Math.max.name ∈ zz_T) (hfr : 1 ≤ R.frames) (hlo : (rest.map fun v => v.category).sum + 13 ≤ R.locals) (hc : cells ≤ R.cells) (hs : slots ≤ R.slots) {x y : Int32} (hdg : decode cc pc = .ok (.invokestatic index, 3)) (kk : W p l e R s m args below meth c H locs cells slots Q (F0 m (pc + 3) ls (.int (if x < y then y else x) :: rest))) : W p l e R s m args below meth c H locs cells slots Q (F0 m pc ls (.int y :: .int x :: rest)) := by
  obtain ⟨hx, hb, hml, hown, hts⟩ := S
  exact va_mmax hx hb (by rw [hml, hl]) hown (hts _ hlk) (hts _ zz_mx1) (hts _ zz_mt) (hts _ zz_mx2) hfr hlo hc hs hdg kk
theorem zz_min (S : CallFix p m c cc nL s args zz_T own) (hl : ls.size = nL) (hlk : Cond.methodLink own index Lib.Math.min.name ∈ zz_T) (hfr : 1 ≤ R.frames) (hlo : (rest.map fun v => v.category).sum + 13 ≤ R.locals) (hc : cells ≤ R.cells) (hs : slots ≤ R.slots) {x y : Int32} (hdg : decode cc pc = .ok (.invokestatic index, 3)) (kk : W p l e R s m args below meth c H locs cells slots Q (F0 m (pc + 3) ls (.int (if y < x then y else x) :: rest))) : W p l e R s m args below meth c H locs cells slots Q (F0 m pc ls (.int y :: .int x :: rest)) := by
  obtain ⟨hx, hb, hml, hown, hts⟩ := S
  exact va_mmin hx hb (by rw [hml, hl]) hown (hts _ hlk) (hts _ zz_mn1) (hts _ zz_mt) (hts _ zz_mn2) hfr hlo hc hs hdg kk
end ZR
