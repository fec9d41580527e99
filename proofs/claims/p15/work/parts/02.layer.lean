section zzm1
def zz_T : List Cond := lw_tbl.filter goodWord
def zz_isN : Cond → Bool
  | .fieldLinkNest _ _ _ _ _ _ => true
  | .methodLinkNest _ _ _ _ => true
  | _ => false
def zz_nw : List Cond := lw_tbl.filter zz_isN
abbrev zz_cl : List vw_C := [(RX0, TX0, 4), (RX1, TX1, 5), (RX2, TX2, 5), (RX3, TX3, 3), (RX4, TX4, 8), (RX5, TX5, 13), (RX6, TX6, 7), (RX7, TX7, 4), (RX8, TX8, 4), (RX9, TX9, 14), (RX10, TX10, 67)]
abbrev zz_G : Type := va_G × (Nat → ClassId)
def zz_ty (G : zz_G) : List (ClassId × FieldType) := [(G.2 0, .int), (G.2 1, .byte), (G.2 2, .boolean), (G.2 3, .long), (G.2 4, .object "UnderstudyShow$Law"), (G.2 5, .object "UnderstudyShow$State")]
def zz_N (U : State) : Prop := (∀ w ∈ zz_nw, va_Nw w U) ∧ va_AO "UnderstudyShow$Law" U ∧ va_AO "UnderstudyShow$State" U
def zz_rm (d mc ms : Nat) : Room := { frames := d, cells := mc, slots := ms, locals := 40 * d }
abbrev zz_Y : Type := MethodName × ByteArray × Nat × Option FieldType
def zz_ws (Y : zz_Y) : List Cond := .code Y.1 Y.2.1 Y.2.2.1 Y.2.2.2 :: zz_T
def zz_Pre (G : zz_G) (w0 : va_W) (sz : Nat) (U : State) : Prop := U.heap.size = sz ∧ va_P G.1 zz_cl w0 U.heap ∧ va_K G.1 zz_cl (zz_ty G) U ∧ va_D (fun _ => True) w0 ∧ zz_N U
def zz_Q (G : zz_G) (w0 : va_W) (sz : Nat) (post : Option Value → va_W → Prop) : Array Value → State → Outcome → State → Prop := fun _ st oc t => (∃ (r : Option Value) (u : va_W), oc = .returned r ∧ post r u ∧ va_P G.1 zz_cl u t.heap ∧ va_K G.1 zz_cl (zz_ty G) t ∧ va_D (va_A w0 sz) u) ∧ va_F (va_A w0 sz) st t
/-- the contract of a method: from any heap that holds the world w0 it returns r, the heap then holds a world u, 'post r u' -/
def zz_M (l : Launch) (G : zz_G) (Y : zz_Y) (d mc ms : Nat) (vs : List Value) (w0 : va_W) (post : Option Value → va_W → Prop) : Prop := ∀ sz : Nat, Met l Y.1 (zz_ws Y) (zz_rm d mc ms) (va_Pc vs (zz_Pre G w0 sz)) (zz_Q G w0 sz post) mc ms (va_A w0 sz)
def zz_w (G : zz_G) (A : Nat → Prop) (s : State) (ws : va_W) (H : Heap) (locs : List Loc) : Prop := va_K G.1 zz_cl (zz_ty G) s ∧ va_P G.1 zz_cl ws H ∧ va_D A ws ∧ va_S A s.heap H locs ∧ (∀ q, s.heap.size ≤ q → A q) ∧ zz_N s
def zz_CL (ci : Nat) (C : String) (T : u_T) (N : Nat) : Prop := zz_cl[ci]? = some (C, T, N) ∧ (∀ w ∈ u_ws C T N, w ∈ zz_T) ∧ ∃ ty0 : Nat → FieldType, (∀ k, k < N → parseFieldDescriptor (T k).2.2.1 = some (ty0 k)) ∧ (∀ a, a < N → ∀ b, b < N → a ≠ b → (T a).2.1 ≠ (T b).2.1)
def zz_FL (own : String) (index ci k : Nat) : Prop := ∃ (C : String) (T : u_T) (N : Nat), zz_CL ci C T N ∧ k < N ∧ (Cond.fieldLink own index (T k).1 (T k).2.1 (T k).2.2.1 ∈ zz_T ∨ ∃ host : String, Cond.fieldLinkNest own index (T k).1 (T k).2.1 (T k).2.2.1 host ∈ zz_nw)
def zz_FP (own : String) (index ci k : Nat) (ty : FieldType) : Prop := ∃ (C : String) (T : u_T) (N : Nat), zz_CL ci C T N ∧ k < N ∧ (Cond.fieldLink own index (T k).1 (T k).2.1 (T k).2.2.1 ∈ zz_T ∨ ∃ host : String, Cond.fieldLinkNest own index (T k).1 (T k).2.1 (T k).2.2.1 host ∈ zz_nw) ∧ (T k).2.2.2 = false ∧ parseFieldDescriptor (T k).2.2.1 = some ty
def zz_FF (own : String) (index ci k : Nat) (ty : FieldType) : Prop := ∃ (C : String) (T : u_T) (N : Nat), zz_CL ci C T N ∧ k < N ∧ Cond.fieldLink own index (T k).1 (T k).2.1 (T k).2.2.1 ∈ zz_T ∧ (T k).2.2.2 = true ∧ parseFieldDescriptor (T k).2.2.1 = some ty ∧ (T k).1 = own
def zz_lk (own : String) (index : Nat) (y : MethodName) : Prop := Cond.methodLink own index y ∈ zz_T ∨ ∃ host : String, Cond.methodLinkNest own index y host ∈ zz_nw
def zz_yy (Y : zz_Y) (n : Nat) : Prop := Cond.initialized Y.1.cls ∈ zz_T ∧ Cond.code Y.1 Y.2.1 Y.2.2.1 Y.2.2.2 ∈ zz_T ∧ Y.1.cls ≠ "java/lang/invoke/MethodHandle" ∧ Y.1.cls ≠ "java/lang/invoke/VarHandle" ∧ (parseMethodDescriptor Y.1.desc).map (fun d => d.parameters.length) = some n
def zz_LV (own : String) (index : Nat) (Y : zz_Y) (n : Nat) : Prop := zz_lk own index Y.1 ∧ Cond.instanceMethod Y.1 ∈ zz_T ∧ Cond.selects Y.1.cls Y.1 Y.1 ∈ zz_T ∧ zz_yy Y n
def zz_LS (own : String) (index : Nat) (Y : zz_Y) (n : Nat) : Prop := zz_lk own index Y.1 ∧ Cond.static Y.1 ∈ zz_T ∧ zz_yy Y n
def zz_LI (own : String) (index : Nat) (Y : zz_Y) (n : Nat) : Prop := zz_lk own index Y.1 ∧ Cond.instanceMethod Y.1 ∈ zz_T ∧ Y.1.name = "<init>" ∧ zz_yy Y n
theorem zz_m {w : Cond} (h : w ∈ lw_tbl) (g : goodWord w = true) : w ∈ zz_T := List.mem_filter.mpr ⟨h, g⟩
theorem zz_t (i : Nat) {w : Cond} (h : tables_1[i]? = some w) (g : goodWord w = true) : w ∈ zz_T := zz_m (List.mem_append_right _ (List.mem_of_getElem? h)) g
theorem zz_s (i : Nat) {w : Cond} (h : (k2_sels lw_privs)[i]? = some w) (g : goodWord w = true) : w ∈ zz_T := zz_m (List.mem_append_left _ (List.mem_of_getElem? h)) g
theorem zz_goodT : zz_T.all goodWord = true := List.all_eq_true.mpr (fun _ h => (List.mem_filter.mp h).2)
theorem zz_n (i : Nat) {w : Cond} (h : tables_1[i]? = some w) (g : zz_isN w = true) : w ∈ zz_nw := List.mem_filter.mpr ⟨List.mem_append_right _ (List.mem_of_getElem? h), g⟩
theorem zz_oi1 : Cond.instanceMethod objectInit ∈ zz_T := (zz_t 26 (by decide +kernel) (by decide +kernel))
theorem zz_oi2 : Cond.code objectInit ⟨#[0xb1]⟩ 1 none ∈ zz_T := (zz_t 27 (by decide +kernel) (by decide +kernel))
theorem zz_ac1 : Cond.native arraycopyName ∈ zz_T := (zz_t 624 (by decide +kernel) (by decide +kernel))
theorem zz_ac2 : Cond.static arraycopyName ∈ zz_T := (zz_t 623 (by decide +kernel) (by decide +kernel))
theorem zz_ac3 : Cond.initialized "java/lang/System" ∈ zz_T := (zz_t 18 (by decide +kernel) (by decide +kernel))
theorem zz_mt : Cond.initialized "java/lang/Math" ∈ zz_T := (zz_t 16 (by decide +kernel) (by decide +kernel))
theorem zz_mx1 : Cond.static Lib.Math.max.name ∈ zz_T := (zz_t 495 (by decide +kernel) (by decide +kernel))
theorem zz_mx2 : Cond.code Lib.Math.max.name Lib.Math.max.code 2 (some .int) ∈ zz_T := (zz_t 496 (by decide +kernel) (by decide +kernel))
theorem zz_mn1 : Cond.static Lib.Math.min.name ∈ zz_T := (zz_t 498 (by decide +kernel) (by decide +kernel))
theorem zz_mn2 : Cond.code Lib.Math.min.name Lib.Math.min.code 2 (some .int) ∈ zz_T := (zz_t 499 (by decide +kernel) (by decide +kernel))
theorem zz_N.warm {s U : State} (hW : s.WarmedH U.vm) (h : zz_N s) : zz_N U := by
  refine ⟨fun w hw => ?_, va_AO.moved hW.alike h.2.1, va_AO.moved hW.alike h.2.2⟩
  have h1 := h.1 w hw
  have h2 := (List.mem_filter.mp hw).2
  cases w <;> first | exact va_Nw.warmF hW h1 | exact va_Nw.warmM hW h1 | exact absurd h2 (by decide) | (exfalso; revert h2; simp [zz_isN])
theorem zz_N.calling {U : State} {g : JFrame} {mk : MethodId} {a : Array Value} (h : zz_N U) : zz_N (U.calling g mk a) := by
  refine ⟨fun w hw => ?_, va_AO.moved (Vm.Alike.refl U.vm) h.2.1, va_AO.moved (Vm.Alike.refl U.vm) h.2.2⟩
  have h1 := h.1 w hw
  have h2 := (List.mem_filter.mp hw).2
  cases w <;> first | exact va_Nw.same rfl rfl h1 | exact absurd h2 (by decide) | (exfalso; revert h2; simp [zz_isN])
theorem zz_Pre.blind {G : zz_G} {w0 : va_W} {sz : Nat} {vs : List Value} : FrameBlind (va_Pc vs (zz_Pre G w0 sz)) := fun a U g mk q => by
  obtain ⟨q0, q1, q2, q3, q4, q5⟩ := q
  exact ⟨q0, q1, q2, va_K.moved (u := U) (U := U.calling g mk a) (Vm.Alike.refl U.vm) q3, q4, q5.calling⟩
theorem zz_good {Y : zz_Y} (h : Cond.code Y.1 Y.2.1 Y.2.2.1 Y.2.2.2 ∈ zz_T) : GoodIn zz_T (zz_ws Y) := by
  intro w hw
  rcases List.mem_cons.mp hw with rfl | hw
  · exact ⟨h, good_of_word (List.mem_filter.mp h).2⟩
  · exact ⟨hw, good_of_word (List.mem_filter.mp hw).2⟩
theorem zz_w.sub {G : zz_G} {A : Nat → Prop} {s : State} {ws ws' : va_W} {H : Heap} {locs : List Loc} (h : zz_w G A s ws H locs) (is : List Nat) (hn : va_nd is = true) (hs : is.map (fun i => ws[i]?) = ws'.map some) : zz_w G A s ws' H locs := by
  obtain ⟨hK, hP, hD, hS, hA, hN⟩ := h
  refine ⟨hK, hP.sub is ?_, hD.sub is hn hs, hS, hA, hN⟩
  clear hn hD hP
  induction is generalizing ws' with
  | nil => cases ws' with
    | nil => rfl
    | cons a t => simp at hs
  | cons i is ih => cases ws' with
    | nil => simp at hs
    | cons a t =>
      simp only [List.map_cons, List.cons.injEq] at hs
      simp only [List.filterMap_cons, hs.1]
      rw [ih hs.2]
theorem zz_topi {p : Program} {l : Launch} {e : Env} {R : Room} {s : State} {m : MethodId} {args : Array Value} {below : List Frame} {meth : Method} {c : Code} {H : Heap} {locs : List Loc} {cells slots : Nat} {Q : State → Prop} {pc : Nat} {ls : Array Slot} {rest : List Value} {x y : Int32} (h : x = y) (k : W p l e R s m args below meth c H locs cells slots Q (F0 m pc ls (.int y :: rest))) : W p l e R s m args below meth c H locs cells slots Q (F0 m pc ls (.int x :: rest)) := by subst h; exact k
theorem zz_topl {p : Program} {l : Launch} {e : Env} {R : Room} {s : State} {m : MethodId} {args : Array Value} {below : List Frame} {meth : Method} {c : Code} {H : Heap} {locs : List Loc} {cells slots : Nat} {Q : State → Prop} {pc : Nat} {ls : Array Slot} {rest : List Value} {x y : Int64} (h : x = y) (k : W p l e R s m args below meth c H locs cells slots Q (F0 m pc ls (.long y :: rest))) : W p l e R s m args below meth c H locs cells slots Q (F0 m pc ls (.long x :: rest)) := by subst h; exact k
section ZE
variable {l : Launch} {G : zz_G} {y : MethodName} {cc : ByteArray} {nL d mc ms : Nat} {rt : FieldType} {vs : List Value} {w0 : va_W} {post : Option Value → va_W → Prop}
theorem zz_enteri (hy : plainName y.cls = true) (hn : (lg_sl vs).length ≤ nL) (body : ∀ (p : Program) (e : Env) (s : State) (m : MethodId) (args : Array Value) (below : List Frame) (meth : Method) (c : Code) (A : Nat → Prop) (Q : State → Prop) (ls : Array Slot), CallFix p m c cc nL s args zz_T y.cls → meth.name = y.name →
    (∀ (H : Heap) (locs : List Loc) (u : va_W) (pc : Nat) (ls : Array Slot) (v : Int32), post (some (.int v)) u → zz_w G A s u H locs → narrow rt (.int v) = .int v → decode cc pc = .ok (.ireturn, 1) → W p l e (zz_rm d mc ms) s m args below meth c H locs mc ms Q (F0 m pc ls [.int v])) →
    zz_w G A s w0 s.heap [] → lv_has ls nL (lv_args 0 vs) → W p l e (zz_rm d mc ms) s m args below meth c s.heap [] 0 0 Q (F0 m 0 ls [])) : zz_M l G (y, cc, nL, some rt) d mc ms vs w0 post := by
  intro sz
  refine Met.ofW (cc := cc) (maxL := nL) (ret := some rt) hy rfl ?_
  intro p e s m args below meth c s₁ B hml hv
  obtain ⟨rfl, hsz, hP, hK, hD0, hN⟩ := hv
  have hts := atoms_spec (ws := zz_ws (y, cc, nL, some rt)) B.pre
  have hown : s.vm.findClass y.cls = some m.cls := findClass_of_methodNamed B.named
  have hlocks := B.notSynchronized
  have hnm := (name_of_methodNamed B.named B.method).1
  subst hsz
  rw [lg_entry_eq]
  refine body p e s m _ below meth c (va_A w0 s.heap.size) _ _ ⟨B.exec, B.bytes, hml, hown, fun w h => hts w (List.mem_cons_of_mem _ h)⟩ hnm ?_ ⟨hK, hP, hD0.self, va_S.rf, fun q h => Or.inr h, hN⟩ (lv_entry vs hn)
  intro H locs u pc ls v hp hw hn hd
  obtain ⟨hK, hP, hD, hS, hA, hN⟩ := hw
  exact W.zret B.exec B.bytes B.returns hn (fun t ht hW => ⟨⟨_, u, rfl, hp, by rw [ht]; exact hP, va_K.moved hW.alike hK, hD⟩, hS.F ht⟩) hS.2.2 hd
theorem zz_enterl (hy : plainName y.cls = true) (hn : (lg_sl vs).length ≤ nL) (body : ∀ (p : Program) (e : Env) (s : State) (m : MethodId) (args : Array Value) (below : List Frame) (meth : Method) (c : Code) (A : Nat → Prop) (Q : State → Prop) (ls : Array Slot), CallFix p m c cc nL s args zz_T y.cls → meth.name = y.name →
    (∀ (H : Heap) (locs : List Loc) (u : va_W) (pc : Nat) (ls : Array Slot) (v : Int64), post (some (.long v)) u → zz_w G A s u H locs → decode cc pc = .ok (.lreturn, 1) → W p l e (zz_rm d mc ms) s m args below meth c H locs mc ms Q (F0 m pc ls [.long v])) →
    zz_w G A s w0 s.heap [] → lv_has ls nL (lv_args 0 vs) → W p l e (zz_rm d mc ms) s m args below meth c s.heap [] 0 0 Q (F0 m 0 ls [])) : zz_M l G (y, cc, nL, some .long) d mc ms vs w0 post := by
  intro sz
  refine Met.ofW (cc := cc) (maxL := nL) (ret := some .long) hy rfl ?_
  intro p e s m args below meth c s₁ B hml hv
  obtain ⟨rfl, hsz, hP, hK, hD0, hN⟩ := hv
  have hts := atoms_spec (ws := zz_ws (y, cc, nL, some .long)) B.pre
  have hown : s.vm.findClass y.cls = some m.cls := findClass_of_methodNamed B.named
  have hlocks := B.notSynchronized
  have hnm := (name_of_methodNamed B.named B.method).1
  subst hsz
  rw [lg_entry_eq]
  refine body p e s m _ below meth c (va_A w0 s.heap.size) _ _ ⟨B.exec, B.bytes, hml, hown, fun w h => hts w (List.mem_cons_of_mem _ h)⟩ hnm ?_ ⟨hK, hP, hD0.self, va_S.rf, fun q h => Or.inr h, hN⟩ (lv_entry vs hn)
  intro H locs u pc ls v hp hw hd
  obtain ⟨hK, hP, hD, hS, hA, hN⟩ := hw
  exact W.lret B.exec B.bytes B.returns (fun t ht hW => ⟨⟨_, u, rfl, hp, by rw [ht]; exact hP, va_K.moved hW.alike hK, hD⟩, hS.F ht⟩) hS.2.2 hd
theorem zz_enterv (hy : plainName y.cls = true) (hn : (lg_sl vs).length ≤ nL) (body : ∀ (p : Program) (e : Env) (s : State) (m : MethodId) (args : Array Value) (below : List Frame) (meth : Method) (c : Code) (A : Nat → Prop) (Q : State → Prop) (ls : Array Slot), CallFix p m c cc nL s args zz_T y.cls → meth.name = y.name →
    (∀ (H : Heap) (locs : List Loc) (u : va_W) (pc : Nat) (ls : Array Slot), post none u → zz_w G A s u H locs → decode cc pc = .ok (.return_, 1) → W p l e (zz_rm d mc ms) s m args below meth c H locs mc ms Q (F0 m pc ls [])) →
    zz_w G A s w0 s.heap [] → lv_has ls nL (lv_args 0 vs) → W p l e (zz_rm d mc ms) s m args below meth c s.heap [] 0 0 Q (F0 m 0 ls [])) : zz_M l G (y, cc, nL, none) d mc ms vs w0 post := by
  intro sz
  refine Met.ofW (cc := cc) (maxL := nL) (ret := none) hy rfl ?_
  intro p e s m args below meth c s₁ B hml hv
  obtain ⟨rfl, hsz, hP, hK, hD0, hN⟩ := hv
  have hts := atoms_spec (ws := zz_ws (y, cc, nL, none)) B.pre
  have hown : s.vm.findClass y.cls = some m.cls := findClass_of_methodNamed B.named
  have hlocks := B.notSynchronized
  have hnm := (name_of_methodNamed B.named B.method).1
  subst hsz
  rw [lg_entry_eq]
  refine body p e s m _ below meth c (va_A w0 s.heap.size) _ _ ⟨B.exec, B.bytes, hml, hown, fun w h => hts w (List.mem_cons_of_mem _ h)⟩ hnm ?_ ⟨hK, hP, hD0.self, va_S.rf, fun q h => Or.inr h, hN⟩ (lv_entry vs hn)
  intro H locs u pc ls hp hw hd
  obtain ⟨hK, hP, hD, hS, hA, hN⟩ := hw
  exact W.vret B.exec B.bytes B.returns (fun t ht hW => ⟨⟨_, u, rfl, hp, by rw [ht]; exact hP, va_K.moved hW.alike hK, hD⟩, hS.F ht⟩) hS.2.2 hd
theorem zz_enterr {cn : String} (hy : plainName y.cls = true) (hn : (lg_sl vs).length ≤ nL) (body : ∀ (p : Program) (e : Env) (s : State) (m : MethodId) (args : Array Value) (below : List Frame) (meth : Method) (c : Code) (A : Nat → Prop) (Q : State → Prop) (ls : Array Slot), CallFix p m c cc nL s args zz_T y.cls → meth.name = y.name →
    (∀ (H : Heap) (locs : List Loc) (u : va_W) (pc : Nat) (ls : Array Slot) (v : Nat), post (some (.ref v)) u → zz_w G A s u H locs → decode cc pc = .ok (.areturn, 1) → W p l e (zz_rm d mc ms) s m args below meth c H locs mc ms Q (F0 m pc ls [.ref v])) →
    zz_w G A s w0 s.heap [] → lv_has ls nL (lv_args 0 vs) → W p l e (zz_rm d mc ms) s m args below meth c s.heap [] 0 0 Q (F0 m 0 ls [])) : zz_M l G (y, cc, nL, some (.object cn)) d mc ms vs w0 post := by
  intro sz
  refine Met.ofW (cc := cc) (maxL := nL) (ret := some (.object cn)) hy rfl ?_
  intro p e s m args below meth c s₁ B hml hv
  obtain ⟨rfl, hsz, hP, hK, hD0, hN⟩ := hv
  have hts := atoms_spec (ws := zz_ws (y, cc, nL, some (.object cn))) B.pre
  have hown : s.vm.findClass y.cls = some m.cls := findClass_of_methodNamed B.named
  have hlocks := B.notSynchronized
  have hnm := (name_of_methodNamed B.named B.method).1
  subst hsz
  rw [lg_entry_eq]
  refine body p e s m _ below meth c (va_A w0 s.heap.size) _ _ ⟨B.exec, B.bytes, hml, hown, fun w h => hts w (List.mem_cons_of_mem _ h)⟩ hnm ?_ ⟨hK, hP, hD0.self, va_S.rf, fun q h => Or.inr h, hN⟩ (lv_entry vs hn)
  intro H locs u pc ls v hp hw hd
  obtain ⟨hK, hP, hD, hS, hA, hN⟩ := hw
  exact W.aret B.exec B.bytes B.returns (Or.inl ⟨_, rfl⟩) (Or.inr ⟨_, rfl⟩) (fun t ht hW => ⟨⟨_, u, rfl, hp, by rw [ht]; exact hP, va_K.moved hW.alike hK, hD⟩, hS.F ht⟩) hS.2.2 hd
end ZE
section ZR
variable {p : Program} {l : Launch} {e : Env} {R : Room} {s : State} {m : MethodId} {args : Array Value} {below : List Frame} {meth : Method} {c : Code} {H : Heap} {locs : List Loc} {cells slots : Nat} {Q : State → Prop}
variable {cc : ByteArray} {pc : Nat} {ls : Array Slot} {rest : List Value} {G : zz_G} {A : Nat → Prop} {a : Nat} {ws ws' : va_W} {nL : Nat} {own : String} {index : Nat}
theorem zz_get {ci k : Nat} (S : CallFix p m c cc nL s args zz_T own) (hw : zz_w G A s ws H locs) (hf : zz_FL own index ci k) (q0 : Nat) {fs : List Value} (he : ws[q0]? = some (a, .inr (ci, fs))) {v : Value} (hv : fs[k]? = some v) (hdg : decode cc pc = .ok (.getfield index, 3))
    (kk : W p l e R s m args below meth c H locs cells slots Q (F0 m (pc + 3) ls (v :: rest))) : W p l e R s m args below meth c H locs cells slots Q (F0 m pc ls (.ref a :: rest)) := by
  obtain ⟨hK, hP, hD, hS, hA, hN⟩ := hw
  obtain ⟨hx, hb, hml, hown, hts⟩ := S
  obtain ⟨C, T, N, ⟨hc, hin, ty0, hty, hnm⟩, hk, hl⟩ := hf
  rcases hl with hl | ⟨host, hl⟩
  · exact va_get hx hb hts hin hown hK hP q0 he hc k hk (hts _ hl) (fun _ h => h) hv hdg kk
  · exact va_getN hx hb hts hin hown hK hP q0 he hc k hk (va_Nw.use rfl (hN.1 _ hl)) (fun _ h => h) hv hdg kk
theorem zz_put {ci k : Nat} {ty : FieldType} (S : CallFix p m c cc nL s args zz_T own) (hw : zz_w G A s ws H locs) (hf : zz_FP own index ci k ty) (q0 : Nat) {fs : List Value} (he : ws[q0]? = some (a, .inr (ci, fs))) {v : Value} (hn : narrow ty v = v) (hfit : fits ty v = true) (hl : k < fs.length) (hws : ws.set q0 (a, .inr (ci, fs.set k v)) = ws') (hdg : decode cc pc = .ok (.putfield index, 3))
    (kk : ∀ (H1 : Heap) (locs1 : List Loc), zz_w G A s ws' H1 locs1 → W p l e R s m args below meth c H1 locs1 cells slots Q (F0 m (pc + 3) ls rest)) : W p l e R s m args below meth c H locs cells slots Q (F0 m pc ls (v :: .ref a :: rest)) := by
  obtain ⟨hK, hP, hD, hS, hA, hN⟩ := hw
  obtain ⟨hx, hb, hml, hown, hts⟩ := S
  obtain ⟨C, T, N, ⟨hc, hin, ty0, hty, hnm⟩, hk, hl0, hfin, hd⟩ := hf
  subst hws
  rcases hl0 with hl0 | ⟨host, hl0⟩
  · exact va_put hx hb hts hin ty0 hty hnm hown hK hP hD hS q0 he hc k hk (hts _ hl0) (fun _ h => h) hfin hd hn hfit hl hdg (fun H1 locs1 h1 h2 h3 => kk H1 locs1 ⟨hK, h1, h2, h3, hA, hN⟩)
  · exact va_putN hx hb hts hin ty0 hty hnm hown hK hP hD hS q0 he hc k hk (va_Nw.use rfl (hN.1 _ hl0)) (fun _ h => h) hfin hd hn hfit hl hdg (fun H1 locs1 h1 h2 h3 => kk H1 locs1 ⟨hK, h1, h2, h3, hA, hN⟩)
theorem zz_putF {ci k : Nat} {ty : FieldType} (S : CallFix p m c cc nL s args zz_T own) (hin0 : meth.name = "<init>") (hw : zz_w G A s ws H locs) (hf : zz_FF own index ci k ty) (q0 : Nat) {fs : List Value} (he : ws[q0]? = some (a, .inr (ci, fs))) {v : Value} (hn : narrow ty v = v) (hfit : fits ty v = true) (hl : k < fs.length) (hws : ws.set q0 (a, .inr (ci, fs.set k v)) = ws') (hdg : decode cc pc = .ok (.putfield index, 3))
    (kk : ∀ (H1 : Heap) (locs1 : List Loc), zz_w G A s ws' H1 locs1 → W p l e R s m args below meth c H1 locs1 cells slots Q (F0 m (pc + 3) ls rest)) : W p l e R s m args below meth c H locs cells slots Q (F0 m pc ls (v :: .ref a :: rest)) := by
  obtain ⟨hK, hP, hD, hS, hA, hN⟩ := hw
  obtain ⟨hx, hb, hml, hown, hts⟩ := S
  obtain ⟨C, T, N, ⟨hc, hin, ty0, hty, hnm⟩, hk, hl0, hfin, hd, hdecl⟩ := hf
  subst hws
  exact va_putF hx hb hts hin ty0 hty hnm hown hK hP hD hS q0 he hc k hk (hts _ hl0) (fun _ h => h) hfin hin0 hdecl hd hn hfit hl hdg (fun H1 locs1 h1 h2 h3 => kk H1 locs1 ⟨hK, h1, h2, h3, hA, hN⟩)
theorem zz_iald (S : CallFix p m c cc nL s args zz_T own) (hw : zz_w G A s ws H locs) (q0 : Nat) {n : Nat} {f : Nat → Int32} (ha : ws[q0]? = some (a, .inl (G.2 0, n, .inl f))) {i v : Int32} (hin : vp_in i n) (hv : f i.toNatClampNeg = v) (hdg : decode cc pc = .ok (.iaload, 1))
    (kk : W p l e R s m args below meth c H locs cells slots Q (F0 m (pc + 1) ls (.int v :: rest))) : W p l e R s m args below meth c H locs cells slots Q (F0 m pc ls (.int i :: .ref a :: rest)) := by
  subst hv; exact va_iald S.1 S.2.1 hw.1 hw.2.1 q0 0 ha rfl hin hdg kk
theorem zz_bald (S : CallFix p m c cc nL s args zz_T own) (hw : zz_w G A s ws H locs) (q0 : Nat) {n : Nat} {f : Nat → Int32} (ha : ws[q0]? = some (a, .inl (G.2 1, n, .inl f))) {i v : Int32} (hin : vp_in i n) (hv : f i.toNatClampNeg = v) (hdg : decode cc pc = .ok (.baload, 1))
    (kk : W p l e R s m args below meth c H locs cells slots Q (F0 m (pc + 1) ls (.int v :: rest))) : W p l e R s m args below meth c H locs cells slots Q (F0 m pc ls (.int i :: .ref a :: rest)) := by
  subst hv; exact va_bald S.1 S.2.1 hw.1 hw.2.1 q0 1 ha rfl hin hdg kk
theorem zz_zald (S : CallFix p m c cc nL s args zz_T own) (hw : zz_w G A s ws H locs) (q0 : Nat) {n : Nat} {f : Nat → Int32} (ha : ws[q0]? = some (a, .inl (G.2 2, n, .inl f))) {i v : Int32} (hin : vp_in i n) (hv : f i.toNatClampNeg = v) (hdg : decode cc pc = .ok (.baload, 1))
    (kk : W p l e R s m args below meth c H locs cells slots Q (F0 m (pc + 1) ls (.int v :: rest))) : W p l e R s m args below meth c H locs cells slots Q (F0 m pc ls (.int i :: .ref a :: rest)) := by
  subst hv; exact va_zald S.1 S.2.1 hw.1 hw.2.1 q0 2 ha rfl hin hdg kk
theorem zz_lald (S : CallFix p m c cc nL s args zz_T own) (hw : zz_w G A s ws H locs) (q0 : Nat) {n : Nat} {f : Nat → Int64} (ha : ws[q0]? = some (a, .inl (G.2 3, n, .inr (.inl f)))) {i : Int32} {v : Int64} (hin : vp_in i n) (hv : f i.toNatClampNeg = v) (hdg : decode cc pc = .ok (.laload, 1))
    (kk : W p l e R s m args below meth c H locs cells slots Q (F0 m (pc + 1) ls (.long v :: rest))) : W p l e R s m args below meth c H locs cells slots Q (F0 m pc ls (.int i :: .ref a :: rest)) := by
  subst hv; exact va_lald S.1 S.2.1 hw.1 hw.2.1 q0 3 ha rfl hin hdg kk
theorem zz_aldL (S : CallFix p m c cc nL s args zz_T own) (hw : zz_w G A s ws H locs) (q0 : Nat) {n : Nat} {f : Nat → Option Nat} (ha : ws[q0]? = some (a, .inl (G.2 4, n, .inr (.inr (.inr (.inr f)))))) {i : Int32} {v : Nat} (hin : vp_in i n) (hv : f i.toNatClampNeg = some v) (hdg : decode cc pc = .ok (.aaload, 1))
    (kk : W p l e R s m args below meth c H locs cells slots Q (F0 m (pc + 1) ls (.ref v :: rest))) : W p l e R s m args below meth c H locs cells slots Q (F0 m pc ls (.int i :: .ref a :: rest)) := by
  refine va_aldq S.1 S.2.1 hw.1 hw.2.1 q0 4 ha rfl hin hdg ?_
  rw [hv]; exact kk
theorem zz_aldS (S : CallFix p m c cc nL s args zz_T own) (hw : zz_w G A s ws H locs) (q0 : Nat) {n : Nat} {f : Nat → Option Nat} (ha : ws[q0]? = some (a, .inl (G.2 5, n, .inr (.inr (.inr (.inr f)))))) {i : Int32} {v : Nat} (hin : vp_in i n) (hv : f i.toNatClampNeg = some v) (hdg : decode cc pc = .ok (.aaload, 1))
    (kk : W p l e R s m args below meth c H locs cells slots Q (F0 m (pc + 1) ls (.ref v :: rest))) : W p l e R s m args below meth c H locs cells slots Q (F0 m pc ls (.int i :: .ref a :: rest)) := by
  refine va_aldq S.1 S.2.1 hw.1 hw.2.1 q0 5 ha rfl hin hdg ?_
  rw [hv]; exact kk
theorem zz_iast (S : CallFix p m c cc nL s args zz_T own) (hw : zz_w G A s ws H locs) (q0 : Nat) {n : Nat} {f g : Nat → Int32} (ha : ws[q0]? = some (a, .inl (G.2 0, n, .inl f))) {i x : Int32} (hin : vp_in i n) (hg : upd f i.toNatClampNeg x = g) (hws : ws.set q0 (a, .inl (G.2 0, n, .inl g)) = ws') (hdg : decode cc pc = .ok (.iastore, 1))
    (kk : ∀ (H1 : Heap) (locs1 : List Loc), zz_w G A s ws' H1 locs1 → W p l e R s m args below meth c H1 locs1 cells slots Q (F0 m (pc + 1) ls rest)) : W p l e R s m args below meth c H locs cells slots Q (F0 m pc ls (.int x :: .int i :: .ref a :: rest)) := by
  obtain ⟨hK, hP, hD, hS, hA, hN⟩ := hw
  subst hws; subst hg
  exact va_iast S.1 S.2.1 hK hP hD hS q0 0 ha rfl hin hdg (fun H1 locs1 h1 h2 h3 => kk H1 locs1 ⟨hK, h1, h2, h3, hA, hN⟩)
theorem zz_bast (S : CallFix p m c cc nL s args zz_T own) (hw : zz_w G A s ws H locs) (q0 : Nat) {n : Nat} {f g : Nat → Int32} (ha : ws[q0]? = some (a, .inl (G.2 1, n, .inl f))) {i x : Int32} (hin : vp_in i n) (hg : upd f i.toNatClampNeg (vp_nar .byte x) = g) (hws : ws.set q0 (a, .inl (G.2 1, n, .inl g)) = ws') (hdg : decode cc pc = .ok (.bastore, 1))
    (kk : ∀ (H1 : Heap) (locs1 : List Loc), zz_w G A s ws' H1 locs1 → W p l e R s m args below meth c H1 locs1 cells slots Q (F0 m (pc + 1) ls rest)) : W p l e R s m args below meth c H locs cells slots Q (F0 m pc ls (.int x :: .int i :: .ref a :: rest)) := by
  obtain ⟨hK, hP, hD, hS, hA, hN⟩ := hw
  subst hws; subst hg
  exact va_bast S.1 S.2.1 hK hP hD hS q0 1 ha rfl hin hdg (fun H1 locs1 h1 h2 h3 => kk H1 locs1 ⟨hK, h1, h2, h3, hA, hN⟩)
theorem zz_zast (S : CallFix p m c cc nL s args zz_T own) (hw : zz_w G A s ws H locs) (q0 : Nat) {n : Nat} {f g : Nat → Int32} (ha : ws[q0]? = some (a, .inl (G.2 2, n, .inl f))) {i x : Int32} (hin : vp_in i n) (hg : upd f i.toNatClampNeg (vp_nar .boolean x) = g) (hws : ws.set q0 (a, .inl (G.2 2, n, .inl g)) = ws') (hdg : decode cc pc = .ok (.bastore, 1))
    (kk : ∀ (H1 : Heap) (locs1 : List Loc), zz_w G A s ws' H1 locs1 → W p l e R s m args below meth c H1 locs1 cells slots Q (F0 m (pc + 1) ls rest)) : W p l e R s m args below meth c H locs cells slots Q (F0 m pc ls (.int x :: .int i :: .ref a :: rest)) := by
  obtain ⟨hK, hP, hD, hS, hA, hN⟩ := hw
  subst hws; subst hg
  exact va_zast S.1 S.2.1 hK hP hD hS q0 2 ha rfl hin hdg (fun H1 locs1 h1 h2 h3 => kk H1 locs1 ⟨hK, h1, h2, h3, hA, hN⟩)
theorem zz_last (S : CallFix p m c cc nL s args zz_T own) (hw : zz_w G A s ws H locs) (q0 : Nat) {n : Nat} {f g : Nat → Int64} (ha : ws[q0]? = some (a, .inl (G.2 3, n, .inr (.inl f)))) {i : Int32} {x : Int64} (hin : vp_in i n) (hg : vp_updL f i.toNatClampNeg x = g) (hws : ws.set q0 (a, .inl (G.2 3, n, .inr (.inl g))) = ws') (hdg : decode cc pc = .ok (.lastore, 1))
    (kk : ∀ (H1 : Heap) (locs1 : List Loc), zz_w G A s ws' H1 locs1 → W p l e R s m args below meth c H1 locs1 cells slots Q (F0 m (pc + 1) ls rest)) : W p l e R s m args below meth c H locs cells slots Q (F0 m pc ls (.long x :: .int i :: .ref a :: rest)) := by
  obtain ⟨hK, hP, hD, hS, hA, hN⟩ := hw
  subst hws; subst hg
  exact va_last S.1 S.2.1 hK hP hD hS q0 3 ha rfl hin hdg (fun H1 locs1 h1 h2 h3 => kk H1 locs1 ⟨hK, h1, h2, h3, hA, hN⟩)
theorem zz_astL (S : CallFix p m c cc nL s args zz_T own) (hw : zz_w G A s ws H locs) (q0 qk : Nat) {n v : Nat} {vs : List Value} {f g : Nat → Option Nat} (ha : ws[q0]? = some (a, .inl (G.2 4, n, .inr (.inr (.inr (.inr f)))))) (hv : ws[qk]? = some (v, .inr (2, vs))) {i : Int32} (hin : vp_in i n) (hg : va_up f i.toNatClampNeg (some v) = g) (hws : ws.set q0 (a, .inl (G.2 4, n, .inr (.inr (.inr (.inr g))))) = ws') (hdg : decode cc pc = .ok (.aastore, 1))
    (kk : ∀ (H1 : Heap) (locs1 : List Loc), zz_w G A s ws' H1 locs1 → W p l e R s m args below meth c H1 locs1 cells slots Q (F0 m (pc + 1) ls rest)) : W p l e R s m args below meth c H locs cells slots Q (F0 m pc ls (.ref v :: .int i :: .ref a :: rest)) := by
  obtain ⟨hK, hP, hD, hS, hA, hN⟩ := hw
  subst hws; subst hg
  exact va_astq S.1 S.2.1 hK hP hD hS q0 4 qk 2 (r := (RX2, TX2, 5)) ha rfl hv rfl hin hdg (fun H1 locs1 h1 h2 h3 => kk H1 locs1 ⟨hK, h1, h2, h3, hA, hN⟩)
theorem zz_astS (S : CallFix p m c cc nL s args zz_T own) (hw : zz_w G A s ws H locs) (q0 qk : Nat) {n v : Nat} {vs : List Value} {f g : Nat → Option Nat} (ha : ws[q0]? = some (a, .inl (G.2 5, n, .inr (.inr (.inr (.inr f)))))) (hv : ws[qk]? = some (v, .inr (6, vs))) {i : Int32} (hin : vp_in i n) (hg : va_up f i.toNatClampNeg (some v) = g) (hws : ws.set q0 (a, .inl (G.2 5, n, .inr (.inr (.inr (.inr g))))) = ws') (hdg : decode cc pc = .ok (.aastore, 1))
    (kk : ∀ (H1 : Heap) (locs1 : List Loc), zz_w G A s ws' H1 locs1 → W p l e R s m args below meth c H1 locs1 cells slots Q (F0 m (pc + 1) ls rest)) : W p l e R s m args below meth c H locs cells slots Q (F0 m pc ls (.ref v :: .int i :: .ref a :: rest)) := by
  obtain ⟨hK, hP, hD, hS, hA, hN⟩ := hw
  subst hws; subst hg
  exact va_astq S.1 S.2.1 hK hP hD hS q0 5 qk 6 (r := (RX6, TX6, 7)) ha rfl hv rfl hin hdg (fun H1 locs1 h1 h2 h3 => kk H1 locs1 ⟨hK, h1, h2, h3, hA, hN⟩)
theorem zz_alen (S : CallFix p m c cc nL s args zz_T own) (hw : zz_w G A s ws H locs) (q0 t0 : Nat) {cA : ClassId} {x : vp_A} (ha : ws[q0]? = some (a, .inl (cA, x))) {ty : FieldType} (ht : (zz_ty G)[t0]? = some (cA, ty)) {v : Int32} (hv : Int32.ofNat x.1 = v) (hdg : decode cc pc = .ok (.arraylength, 1))
    (kk : W p l e R s m args below meth c H locs cells slots Q (F0 m (pc + 1) ls (.int v :: rest))) : W p l e R s m args below meth c H locs cells slots Q (F0 m pc ls (.ref a :: rest)) := va_alen S.1 S.2.1 hw.1 hw.2.1 q0 t0 ha ht hv hdg kk
theorem zz_new {C : String} {T : u_T} {N ci : Nat} (S : CallFix p m c cc nL s args zz_T own) (hw : zz_w G A s ws H locs) (hCL : zz_CL ci C T N) (tyf : Nat → FieldType) (htf : ∀ k, k < N → parseFieldDescriptor (T k).2.2.1 = some (tyf k)) (h1 : Cond.classLink own index C ∈ zz_T) (h2 : Cond.instantiable C N ∈ zz_T) (h3 : Cond.initialized C ∈ zz_T) {fs : List Value} (hfs : ∀ j, j < N → defaultValue (tyf j) = vp_V fs j) (hcells : cells + 1 ≤ R.cells) (hslots : slots + N ≤ R.slots) (hdg : decode cc pc = .ok (.new index, 3))
    (kk : ∀ (q : Nat) (H1 : Heap), zz_w G A s (ws ++ [(q, .inr (ci, fs))]) H1 locs → W p l e R s m args below meth c H1 locs (cells + 1) (slots + N) Q (F0 m (pc + 3) ls (.ref q :: rest))) : W p l e R s m args below meth c H locs cells slots Q (F0 m pc ls rest) := by
  obtain ⟨hK, hP, hD, hS, hA, hN⟩ := hw
  obtain ⟨hx, hb, hml, hown, hts⟩ := S
  obtain ⟨hc, hin, ty0, hty, hnm⟩ := hCL
  exact va_new hx hb hts hin tyf htf hown (hts _ h1) (hts _ h2) (hts _ h3) hK hP hD hS hA hc hfs hcells hslots hdg (fun q H1 g1 g2 g3 => kk q H1 ⟨hK, g1, g2, g3, hA, hN⟩)
theorem zz_newa {at_ : ArrayType} {ty : FieldType} {a0 : vp_A} {n : Int32} {N' : Nat} (t0 : Nat) (S : CallFix p m c cc nL s args zz_T own) (hw : zz_w G A s ws H locs) (harr : Cond.arrayClass (newarray.typeOf at_) ∈ zz_T) (hty : newarray.typeOf at_ = ty) (ht : (zz_ty G)[t0]? = some (G.2 t0, ty)) (hpt : ∀ (U : State) (cA : ClassId), va_RA U cA ty → U.vm.findClass ("[" ++ ty.toString) = some cA) (ha : ∀ cA : ClassId, vp_cell cA a0 = arrV cA N' (fun _ => defaultValue ty)) (hn : ¬ n < 0) (hN : n.toNatClampNeg = N') (hbytes : N' * componentBytes ty ≤ 536870912) (hcells : cells + 1 ≤ R.cells) (hslots : slots + N' ≤ R.slots) (hdg : decode cc pc = .ok (.newarray at_, 2))
    (kk : ∀ (q : Nat) (H1 : Heap), zz_w G A s (ws ++ [(q, .inl (G.2 t0, a0))]) H1 locs → W p l e R s m args below meth c H1 locs (cells + 1) (slots + N') Q (F0 m (pc + 2) ls (.ref q :: rest))) : W p l e R s m args below meth c H locs cells slots Q (F0 m pc ls (.int n :: rest)) := by
  obtain ⟨hK, hP, hD, hS, hA, hN0⟩ := hw
  obtain ⟨hx, hb, hml, hown, hts⟩ := S
  refine va_newa (atype := at_) hx hb (hts _ harr) hty hK hP hD hS hA ha hn hN hbytes hcells hslots hdg (fun q cA H1 g0 g1 g2 g3 => ?_)
  have e1 := hpt _ _ (g0.2 6 (cA, ty) rfl).2
  have e2 := hpt _ _ (hK.2 t0 _ ht).2
  have e : cA = G.2 t0 := Option.some.inj (e1.symm.trans e2)
  subst e
  exact kk q H1 ⟨hK, g1, g2, g3, hA, hN0⟩
theorem zz_newq {C : String} {n : Int32} {N' : Nat} (t0 : Nat) (S : CallFix p m c cc nL s args zz_T own) (hw : zz_w G A s ws H locs) (h1 : Cond.classLink own index C ∈ zz_T) (hao : va_AO C s) (ht : (zz_ty G)[t0]? = some (G.2 t0, .object C)) (hn : ¬ n < 0) (hN : n.toNatClampNeg = N') (hbytes : N' * 4 ≤ 536870912) (hcells : cells + 1 ≤ R.cells) (hslots : slots + N' ≤ R.slots) (hdg : decode cc pc = .ok (.anewarray index, 3))
    (kk : ∀ (q : Nat) (H1 : Heap), zz_w G A s (ws ++ [(q, .inl (G.2 t0, N', .inr (.inr (.inr (.inr (fun _ => none))))))]) H1 locs → W p l e R s m args below meth c H1 locs (cells + 1) (slots + N') Q (F0 m (pc + 3) ls (.ref q :: rest))) : W p l e R s m args below meth c H locs cells slots Q (F0 m pc ls (.int n :: rest)) := by
  obtain ⟨hK, hP, hD, hS, hA, hN0⟩ := hw
  obtain ⟨hx, hb, hml, hown, hts⟩ := S
  refine va_newq hx hb hown (hts _ h1) hao hK hP hD hS hA hn hN hbytes hcells hslots hdg (fun q cA H1 g0 g1 g2 g3 => ?_)
  obtain ⟨_, _, _, _, _, e1⟩ := (g0.2 6 (cA, .object C) rfl).2
  obtain ⟨_, _, _, _, _, e2⟩ := (hK.2 t0 _ ht).2
  have e : cA = G.2 t0 := Option.some.inj (e1.symm.trans e2)
  subst e
  exact kk q H1 ⟨hK, g1, g2, g3, hA, hN0⟩
theorem zz_obj (S : CallFix p m c cc nL s args zz_T own) (hlk : Cond.methodLink own index objectInit ∈ zz_T) (hl : ls.size = nL) (hd : decode cc pc = .ok (.invokespecial index, 3)) (hfr : 1 ≤ R.frames) (hlo : (rest.map fun v => v.category).sum + 12 ≤ R.locals) (kk : W p l e R s m args below meth c H locs cells slots Q (F0 m (pc + 3) ls rest)) : W p l e R s m args below meth c H locs cells slots Q (F0 m pc ls (.ref a :: rest)) := by
  obtain ⟨hx, hb, hml, hown, hts⟩ := S
  exact W.objInit hx hb hown (hts _ hlk) (hts _ zz_oi1) (hts _ zz_oi2) rfl (by rw [hml]; exact hl) rfl hd hfr (by show 2 * 0 + _ + 12 ≤ _; omega) kk
theorem zz_go {mc ms : Nat} {st0 : List Value} {av : Array Value} {wc wr : va_W} {post : Option Value → va_W → Prop} (hr : va_Run p l e R s m args below meth c H locs cells slots mc ms (F0 m pc ls st0) rest (zz_Q G wc H.size post av) (va_A wc H.size)) (hw : zz_w G A s ws H locs) (isC isR : List Nat) (hC : isC.map (fun i => ws[i]?) = wc.map some) (hR : isR.map (fun i => ws[i]?) = wr.map some) (hn : va_nd isR = true) (hdis : ∀ i ∈ isR, i ∉ isC)
    (kk : ∀ (r : Option Value) (u : va_W) (H1 : Heap) (locs1 : List Loc), post r u → zz_w G A s (wr ++ u) H1 locs1 → W p l e R s m args below meth c H1 locs1 (cells + mc) (slots + ms) Q (F0 m (pc + 3) ls (r.toList ++ rest))) : W p l e R s m args below meth c H locs cells slots Q (F0 m pc ls st0) := by
  obtain ⟨hK, hP, hD, hS, hA, hN⟩ := hw
  have hF := va_free (wc := wc) hD hS hA isC hC
  intro T hT X
  obtain ⟨v, st₀, t, T', L, h0, X', hL, e1, e2, ⟨⟨r, u, hv, hp, hP1, hK1, hD1⟩, hz, hk⟩, st⟩ := hr T hT X
  cases hv
  rw [h0] at hz hk
  obtain ⟨hP2, hD2⟩ := va_join (wr := wr) (w1 := u) hP hD isC isR hC hR hn hdis hk hF hP1 hD1
  obtain ⟨t2, a1, b1⟩ := kk _ u T'.heap (locs ++ L) hp
    ⟨hK, by rw [e1]; exact hP2, hD2, ⟨Nat.le_trans hS.1 (by rw [e1]; exact hz), fun q h1 h2 => by rw [e1, hk q (Nat.lt_of_lt_of_le h1 hS.1) (fun z => h2 (hF q z))]; exact hS.2.1 q h1 h2, fun q hq => by
      rcases List.mem_append.mp hq with h | h
      · exact hS.2.2 q h
      · exact hF _ (hL q h)⟩, hA, hN⟩ T' rfl X'
  exact ⟨t2, st t2 a1, b1⟩
theorem zz_pre {wc : va_W} {vs : List Value} (hw : zz_w G A s ws H locs) (isC : List Nat) (hn : va_nd isC = true) (hC : isC.map (fun i => ws[i]?) = wc.map some) : ∀ U : State, U.heap = H → s.WarmedH U.vm → va_Pc vs (zz_Pre G wc H.size) vs.toArray U := by
  intro U hU hW
  obtain ⟨hK, hP, hD, hS, hA, hN⟩ := hw.sub isC hn hC
  subst hU
  exact ⟨rfl, rfl, hP, va_K.moved hW.alike hK, ⟨hD.1, fun _ _ _ => trivial⟩, hN.warm hW⟩
theorem zz_callV {Y : zz_Y} {n d mc ms ci qb b : Nat} {As st0 : List Value} {wc wr : va_W} {post : Option Value → va_W → Prop} {fs : List Value} (S : CallFix p m c cc nL s args zz_T own) (hw : zz_w G A s ws H locs) (hl : ls.size = nL) (lk : zz_LV own index Y n) (ct : zz_M l G Y d mc ms (.ref b :: As) wc post) (hRm : d + 1 ≤ R.frames ∧ 8 + (Y.2.2.1 + 11) + 40 * d ≤ R.locals) (hf : cells + mc ≤ R.cells ∧ slots + ms ≤ R.slots) (isC isR : List Nat) (hnC : va_nd isC = true) (hC : isC.map (fun i => ws[i]?) = wc.map some) (hR : isR.map (fun i => ws[i]?) = wr.map some) (hn : va_nd isR = true) (hdis : ∀ i ∈ isR, i ∉ isC) (hqb : ws[qb]? = some (b, .inr (ci, fs))) (hci : (zz_cl[ci]?).map (fun q => q.1) = some Y.1.cls) (hA : As.length = n) (hst : st0 = As.reverse ++ .ref b :: rest) (hW : (rest.map fun v => v.category).sum ≤ 8) (hdg : decode cc pc = .ok (.invokevirtual index, 3))
    (kk : ∀ (r : Option Value) (u : va_W) (H1 : Heap) (locs1 : List Loc), post r u → zz_w G A s (wr ++ u) H1 locs1 → W p l e R s m args below meth c H1 locs1 (cells + mc) (slots + ms) Q (F0 m (pc + 3) ls (r.toList ++ rest))) : W p l e R s m args below meth c H locs cells slots Q (F0 m pc ls st0) := by
  obtain ⟨hlk, hin, hsel, hini, hcode, hy1, hy2, hpar⟩ := lk
  have hts := S.2.2.2.2
  have hrecv : ∃ cell : Cell, H[b]? = some cell ∧ cell.vm.isStatics = false ∧ s.vm.findClass Y.1.cls = some cell.cls := by
    cases hq : zz_cl[ci]? with
    | none => rw [hq] at hci; cases hci
    | some q =>
      rw [hq] at hci
      have e : q.1 = Y.1.cls := Option.some.inj hci
      rw [← e]
      exact va_recv hw.1 hw.2.1 hq hqb
  refine zz_go (rest := rest) (av := (Value.ref b :: As).toArray) ?_ hw isC isR hC hR hn hdis kk
  rcases hlk with hlk | ⟨host, hlk⟩
  · exact va_runV (n := n) S (ct H.size) ⟨callB_of n hts (zz_good hcode) rfl rfl rfl (hts _ hini) (hts _ hlk) ⟨hy1, hy2, hpar⟩ hRm, hts _ hin, hts _ hsel⟩ ⟨zz_Pre.blind, hrecv, zz_pre hw isC hnC hC⟩ rfl hA hl hst (by show 2 * 0 + _ ≤ _; omega) hdg hf
  · exact va_runVN (n := n) (host := host) (C := Y.1.cls) S (ct H.size) ⟨va_cnB n hts (zz_good hcode) rfl rfl rfl (hw.2.2.2.2.2.1 _ hlk) (hts _ hini) ⟨hy1, hy2, hpar⟩ hRm, hts _ hin, hts _ hsel⟩ ⟨zz_Pre.blind, hrecv, zz_pre hw isC hnC hC⟩ rfl hA hl hst (by show 2 * 0 + _ ≤ _; omega) hdg hf
theorem zz_callS {Y : zz_Y} {n d mc ms : Nat} {As st0 : List Value} {wc wr : va_W} {post : Option Value → va_W → Prop} (S : CallFix p m c cc nL s args zz_T own) (hw : zz_w G A s ws H locs) (hl : ls.size = nL) (lk : zz_LS own index Y n) (ct : zz_M l G Y d mc ms As wc post) (hRm : d + 1 ≤ R.frames ∧ 8 + (Y.2.2.1 + 11) + 40 * d ≤ R.locals) (hf : cells + mc ≤ R.cells ∧ slots + ms ≤ R.slots) (isC isR : List Nat) (hnC : va_nd isC = true) (hC : isC.map (fun i => ws[i]?) = wc.map some) (hR : isR.map (fun i => ws[i]?) = wr.map some) (hn : va_nd isR = true) (hdis : ∀ i ∈ isR, i ∉ isC) (hA : As.length = n) (hst : st0 = As.reverse ++ rest) (hW : (rest.map fun v => v.category).sum ≤ 8) (hdg : decode cc pc = .ok (.invokestatic index, 3))
    (kk : ∀ (r : Option Value) (u : va_W) (H1 : Heap) (locs1 : List Loc), post r u → zz_w G A s (wr ++ u) H1 locs1 → W p l e R s m args below meth c H1 locs1 (cells + mc) (slots + ms) Q (F0 m (pc + 3) ls (r.toList ++ rest))) : W p l e R s m args below meth c H locs cells slots Q (F0 m pc ls st0) := by
  obtain ⟨hlk, hstt, hini, hcode, hy1, hy2, hpar⟩ := lk
  have hts := S.2.2.2.2
  refine zz_go (rest := rest) (av := As.toArray) ?_ hw isC isR hC hR hn hdis kk
  rcases hlk with hlk | ⟨host, hlk⟩
  · exact va_runS (n := n) S (ct H.size) ⟨callB_of n hts (zz_good hcode) rfl rfl rfl (hts _ hini) (hts _ hlk) ⟨hy1, hy2, hpar⟩ hRm, hts _ hstt⟩ ⟨zz_Pre.blind, zz_pre hw isC hnC hC⟩ rfl hA hl hst (by show 2 * 0 + _ ≤ _; omega) hdg hf
  · exact va_runSN (n := n) (host := host) S (ct H.size) ⟨va_cnB n hts (zz_good hcode) rfl rfl rfl (hw.2.2.2.2.2.1 _ hlk) (hts _ hini) ⟨hy1, hy2, hpar⟩ hRm, hts _ hstt, trivial⟩ ⟨zz_Pre.blind, zz_pre hw isC hnC hC⟩ rfl hA hl hst (by show 2 * 0 + _ ≤ _; omega) hdg hf
theorem zz_callI {y : MethodName} {bytes : ByteArray} {mL n d mc ms b : Nat} {As st0 : List Value} {wc wr : va_W} {post : Option Value → va_W → Prop} (S : CallFix p m c cc nL s args zz_T own) (hw : zz_w G A s ws H locs) (hl : ls.size = nL) (lk : zz_LI own index (y, bytes, mL, none) n) (ct : zz_M l G (y, bytes, mL, none) d mc ms (.ref b :: As) wc post) (hRm : d + 1 ≤ R.frames ∧ 8 + (mL + 11) + 40 * d ≤ R.locals) (hf : cells + mc ≤ R.cells ∧ slots + ms ≤ R.slots) (isC isR : List Nat) (hnC : va_nd isC = true) (hC : isC.map (fun i => ws[i]?) = wc.map some) (hR : isR.map (fun i => ws[i]?) = wr.map some) (hn : va_nd isR = true) (hdis : ∀ i ∈ isR, i ∉ isC) (hA : As.length = n) (hst : st0 = As.reverse ++ .ref b :: rest) (hW : (rest.map fun v => v.category).sum ≤ 8) (hdg : decode cc pc = .ok (.invokespecial index, 3))
    (kk : ∀ (r : Option Value) (u : va_W) (H1 : Heap) (locs1 : List Loc), post r u → zz_w G A s (wr ++ u) H1 locs1 → W p l e R s m args below meth c H1 locs1 (cells + mc) (slots + ms) Q (F0 m (pc + 3) ls (r.toList ++ rest))) : W p l e R s m args below meth c H locs cells slots Q (F0 m pc ls st0) := by
  obtain ⟨hlk, hin, hnm, hini, hcode, hy1, hy2, hpar⟩ := lk
  have hts := S.2.2.2.2
  refine zz_go (rest := rest) (av := (Value.ref b :: As).toArray) ?_ hw isC isR hC hR hn hdis kk
  rcases hlk with hlk | ⟨host, hlk⟩
  · exact va_runI (n := n) S (ct H.size) ⟨callB_of n hts (zz_good hcode) rfl rfl rfl (hts _ hini) (hts _ hlk) ⟨hy1, hy2, hpar⟩ hRm, hnm, hts _ hin⟩ ⟨zz_Pre.blind, zz_pre hw isC hnC hC⟩ rfl hA hl hst (by show 2 * 0 + _ ≤ _; omega) hdg hf
  · exact va_runIN (n := n) (host := host) S (ct H.size) ⟨va_cnB n hts (zz_good hcode) rfl rfl rfl (hw.2.2.2.2.2.1 _ hlk) (hts _ hini) ⟨hy1, hy2, hpar⟩ hRm, hnm, hts _ hin⟩ ⟨zz_Pre.blind, zz_pre hw isC hnC hC⟩ rfl hA hl hst (by show 2 * 0 + _ ≤ _; omega) hdg hf
theorem zz_copyi (S : CallFix p m c cc nL s args zz_T own) (hw : zz_w G A s ws H locs) (hl : ls.size = nL) (hlk : Cond.methodLink own index arraycopyName ∈ zz_T) (q0 q1 : Nat) {a0 : Nat} {n0 n1 : Nat} {f g g' : Nat → Int32} (ha0 : ws[q0]? = some (a0, .inl (G.2 0, n0, .inl f))) (ha1 : ws[q1]? = some (a, .inl (G.2 0, n1, .inl g)))
    {sp dp n : Int32} (h1 : ¬ sp < 0) (h2 : ¬ dp < 0) (h3 : ¬ n < 0) (h4 : sp.toNatClampNeg + n.toNatClampNeg ≤ n0) (h5 : dp.toNatClampNeg + n.toNatClampNeg ≤ n1) (hg : va_cpy f g sp.toNatClampNeg dp.toNatClampNeg n.toNatClampNeg = g') (hws : ws.set q1 (a, .inl (G.2 0, n1, .inl g')) = ws')
    (hframes : 1 ≤ R.frames) (hlocals : (rest.map fun v => v.category).sum + (nativeFrameWords "java/lang/System" "arraycopy" 5 + 11) ≤ R.locals) (hdg : decode cc pc = .ok (.invokestatic index, 3))
    (kk : ∀ (H1 : Heap) (locs1 : List Loc), zz_w G A s ws' H1 locs1 → W p l e R s m args below meth c H1 locs1 cells slots Q (F0 m (pc + 3) ls rest)) : W p l e R s m args below meth c H locs cells slots Q (F0 m pc ls (.int n :: .int dp :: .ref a :: .int sp :: .ref a0 :: rest)) := by
  obtain ⟨hK, hP, hD, hS, hA, hN⟩ := hw
  obtain ⟨hx, hb, hml, hown, hts⟩ := S
  subst hws; subst hg
  exact va_copyi hx hb (by rw [hml, hl]) hown (hts _ hlk) (hts _ zz_ac1) (hts _ zz_ac2) (hts _ zz_ac3) hK hP hD hS q0 q1 0 0 ha0 ha1 rfl rfl rfl h1 h2 h3 h4 h5 (fun _ _ => rfl) hframes hlocals hdg (fun H1 locs1 h1 h2 h3 => kk H1 locs1 ⟨hK, h1, h2, h3, hA, hN⟩)
theorem zz_max (S : CallFix p m c cc nL s args zz_T own) (hl : ls.size = nL) (hlk : Cond.methodLink own index Lib.Math.max.name ∈ zz_T) (hfr : 1 ≤ R.frames) (hlo : (rest.map fun v => v.category).sum + 13 ≤ R.locals) (hc : cells ≤ R.cells) (hs : slots ≤ R.slots) {x y : Int32} (hdg : decode cc pc = .ok (.invokestatic index, 3)) (kk : W p l e R s m args below meth c H locs cells slots Q (F0 m (pc + 3) ls (.int (if x < y then y else x) :: rest))) : W p l e R s m args below meth c H locs cells slots Q (F0 m pc ls (.int y :: .int x :: rest)) := by
  obtain ⟨hx, hb, hml, hown, hts⟩ := S
  exact va_mmax hx hb (by rw [hml, hl]) hown (hts _ hlk) (hts _ zz_mx1) (hts _ zz_mt) (hts _ zz_mx2) hfr hlo hc hs hdg kk
theorem zz_min (S : CallFix p m c cc nL s args zz_T own) (hl : ls.size = nL) (hlk : Cond.methodLink own index Lib.Math.min.name ∈ zz_T) (hfr : 1 ≤ R.frames) (hlo : (rest.map fun v => v.category).sum + 13 ≤ R.locals) (hc : cells ≤ R.cells) (hs : slots ≤ R.slots) {x y : Int32} (hdg : decode cc pc = .ok (.invokestatic index, 3)) (kk : W p l e R s m args below meth c H locs cells slots Q (F0 m (pc + 3) ls (.int (if y < x then y else x) :: rest))) : W p l e R s m args below meth c H locs cells slots Q (F0 m pc ls (.int y :: .int x :: rest)) := by
  obtain ⟨hx, hb, hml, hown, hts⟩ := S
  exact va_mmin hx hb (by rw [hml, hl]) hown (hts _ hlk) (hts _ zz_mn1) (hts _ zz_mt) (hts _ zz_mn2) hfr hlo hc hs hdg kk
end ZR
end zzm1
section zzm2
/-- the byte at p is x -/
def kd_by (c : ByteArray) (p x : Nat) : Prop := ∃ h : p < c.size, (c[p]'h).toNat = x
theorem kd_du1 {c : ByteArray} {p x : Nat} (h : kd_by c p x) : (Reader.u1 : Decoder Nat) c p = .ok (x, p + 1) := by
  obtain ⟨h1, h2⟩ := h
  show (dite (p < c.size) (fun h => (do set (p + 1); Pure.pure (c[p]'h).toNat : Decoder Nat)) (fun _ => (throw (HasTruncated.truncated p) : Decoder Nat))) c p = _
  rw [dif_pos h1]
  show Except.ok ((c[p]'h1).toNat, p + 1) = _
  rw [h2]
theorem kd_dbd {α β : Type} {m : Decoder α} {f : α → Decoder β} {c : ByteArray} {p : Nat} {a : α} {q : Nat} {r : Except DecodeError (β × Nat)} (h : m c p = .ok (a, q)) (hr : f a c q = r) : (m >>= f) c p = r :=
  (congrArg (fun z : Except DecodeError (α × Nat) => Except.bind z fun v => f v.1 c v.2) h).trans hr
theorem kd_du2 {c : ByteArray} {p x y : Nat} (h : kd_by c p x) (g : kd_by c (p + 1) y) : (Reader.u2 : Decoder Nat) c p = .ok (x * 256 + y, p + 2) := by
  unfold Reader.u2
  exact kd_dbd (kd_du1 h) (kd_dbd (kd_du1 g) rfl)
theorem kd_ds1 {c : ByteArray} {p x : Nat} (h : kd_by c p x) : (Reader.s1 : Decoder Int) c p = .ok (Reader.signed 8 x, p + 1) :=
  congrArg (fun z : Except DecodeError (Nat × Nat) => Except.bind z fun v => Except.ok (Reader.signed 8 v.1, v.2)) (kd_du1 h)
theorem kd_ds2 {c : ByteArray} {p x y : Nat} (h : kd_by c p x) (g : kd_by c (p + 1) y) : (Reader.s2 : Decoder Int) c p = .ok (Reader.signed 16 (x * 256 + y), p + 2) :=
  congrArg (fun z : Except DecodeError (Nat × Nat) => Except.bind z fun v => Except.ok (Reader.signed 16 v.1, v.2)) (kd_du2 h g)
theorem kd_de {c : ByteArray} {p q : Nat} {I : Instr} (h : Decoder.instr p c p = .ok (I, q)) : decode c p = .ok (I, q - p) :=
  congrArg (fun z : Except DecodeError (Instr × Nat) => Except.bind z fun v => Except.ok (v.1, v.2 - p)) h
def kd_zo0 (op : Nat) (I : Instr) : Prop := ∀ p, ∃ F : Nat → Decoder Instr, Decoder.instr p = (Reader.u1 >>= F) ∧ F op = Pure.pure I
def kd_zo1 (op : Nat) (K : Nat → Instr) : Prop := ∀ p, ∃ F : Nat → Decoder Instr, Decoder.instr p = (Reader.u1 >>= F) ∧ F op = (Reader.u1 >>= fun v => Pure.pure (K v))
def kd_zo2 (op : Nat) (K : Nat → Instr) : Prop := ∀ p, ∃ F : Nat → Decoder Instr, Decoder.instr p = (Reader.u1 >>= F) ∧ F op = (Reader.u2 >>= fun v => Pure.pure (K v))
def kd_zp1 (op : Nat) (K : Int → Instr) : Prop := ∀ p, ∃ F : Nat → Decoder Instr, Decoder.instr p = (Reader.u1 >>= F) ∧ F op = (Reader.s1 >>= fun v => Pure.pure (K v))
def kd_zp2 (op : Nat) (K : Int → Instr) : Prop := ∀ p, ∃ F : Nat → Decoder Instr, Decoder.instr p = (Reader.u1 >>= F) ∧ F op = (Reader.s2 >>= fun v => Pure.pure (K v))
def kd_zpi (op : Nat) (K : Nat → Int → Instr) : Prop := ∀ p, ∃ F : Nat → Decoder Instr, Decoder.instr p = (Reader.u1 >>= F) ∧ F op = (Reader.u1 >>= fun v => Reader.s1 >>= fun z => Pure.pure (K v z))
def kd_zon (t : Nat) (T : ArrayType) : Prop := ∀ p, ∃ F : Nat → Decoder Instr, Decoder.instr p = (Reader.u1 >>= F) ∧ ∃ F2 : Nat → Decoder Instr, F 188 = (Reader.u1 >>= F2) ∧ F2 t = Pure.pure (Instr.newarray T)
/-- the number N holds the bytes of a row, n of them -/
def kd_ck (N n : Nat) : List UInt8 → Nat → Bool
  | [], j => Nat.beq j n
  | b :: r, j => bif Nat.beq b.toNat (Nat.mod (Nat.shiftRight N (Nat.mul 8 j)) 256) then kd_ck N n r (Nat.succ j) else false
theorem kd_ckA {N n : Nat} : ∀ (L : List UInt8) (j : Nat), kd_ck N n L j = true → j + L.length = n ∧ ∀ i (h : i < L.length), (L[i]'h).toNat = Nat.mod (Nat.shiftRight N (Nat.mul 8 (j + i))) 256
  | [], j, h => ⟨Nat.eq_of_beq_eq_true h, fun i hi => absurd hi (Nat.not_lt_zero i)⟩
  | b :: r, j, h => by
    unfold kd_ck at h
    cases e : Nat.beq b.toNat (Nat.mod (Nat.shiftRight N (Nat.mul 8 j)) 256) with
    | false => rw [e] at h; exact absurd h Bool.false_ne_true
    | true =>
      rw [e] at h
      have g := kd_ckA r (Nat.succ j) h
      refine ⟨by have := g.1; simp only [List.length_cons]; omega, fun i hi => ?_⟩
      cases i with
      | zero => exact Nat.eq_of_beq_eq_true e
      | succ k =>
        have q := g.2 k (Nat.lt_of_succ_lt_succ hi)
        rw [show j + (k + 1) = Nat.succ j + k by omega]
        exact q
def kd_zb (N p : Nat) : Nat := Nat.mod (Nat.shiftRight N (Nat.mul 8 p)) 256
theorem kd_byA {c : ByteArray} {N n p : Nat} (h : kd_ck N n c.data.toList 0 = true) (hp : p < n) : kd_by c p (kd_zb N p) := by
  have g := kd_ckA _ 0 h
  have hl : p < c.data.toList.length := by have := g.1; omega
  have q := g.2 p hl
  rw [Nat.zero_add] at q
  exact ⟨hl, q⟩
def kd_e0 (N n p op : Nat) : Bool := and (Nat.ble (Nat.succ p) n) (Nat.beq (kd_zb N p) op)
def kd_e1 (N n p op v : Nat) : Bool := and (Nat.ble (Nat.succ (Nat.succ p)) n) (and (Nat.beq (kd_zb N p) op) (Nat.beq (kd_zb N (Nat.succ p)) v))
def kd_e2 (N n p op v : Nat) : Bool := and (Nat.ble (Nat.succ (Nat.succ (Nat.succ p))) n) (and (Nat.beq (kd_zb N p) op) (Nat.beq (Nat.add (Nat.mul (kd_zb N (Nat.succ p)) 256) (kd_zb N (Nat.succ (Nat.succ p)))) v))
def kd_ei (N n p op v w : Nat) : Bool := and (Nat.ble (Nat.succ (Nat.succ (Nat.succ p))) n) (and (Nat.beq (kd_zb N p) op) (and (Nat.beq (kd_zb N (Nat.succ p)) v) (Nat.beq (kd_zb N (Nat.succ (Nat.succ p))) w)))
theorem kd_ean {a b : Bool} (h : and a b = true) : a = true ∧ b = true := by cases a <;> cases b <;> first | exact ⟨rfl, rfl⟩ | exact absurd h Bool.false_ne_true
theorem kd_en0 {c : ByteArray} {N n p op : Nat} (h : kd_ck N n c.data.toList 0 = true) (e : kd_e0 N n p op = true) : kd_by c p op := by
  obtain ⟨e1, e2⟩ := kd_ean e
  have e1 := Nat.le_of_ble_eq_true e1
  have e2 := Nat.eq_of_beq_eq_true e2
  subst e2
  exact kd_byA h e1
theorem kd_en1 {c : ByteArray} {N n p op v : Nat} (h : kd_ck N n c.data.toList 0 = true) (e : kd_e1 N n p op v = true) : kd_by c p op ∧ kd_by c (p + 1) v := by
  obtain ⟨e1, e2⟩ := kd_ean e
  obtain ⟨e2, e3⟩ := kd_ean e2
  have e1 := Nat.le_of_ble_eq_true e1
  have e2 := Nat.eq_of_beq_eq_true e2
  have e3 := Nat.eq_of_beq_eq_true e3
  subst e2
  subst e3
  exact ⟨kd_byA h (by omega), kd_byA h e1⟩
theorem kd_en2 {c : ByteArray} {N n p op v : Nat} (h : kd_ck N n c.data.toList 0 = true) (e : kd_e2 N n p op v = true) : kd_by c p op ∧ ∃ x y, kd_by c (p + 1) x ∧ kd_by c (p + 1 + 1) y ∧ x * 256 + y = v := by
  obtain ⟨e1, e2⟩ := kd_ean e
  obtain ⟨e2, e3⟩ := kd_ean e2
  have e1 := Nat.le_of_ble_eq_true e1
  have e2 := Nat.eq_of_beq_eq_true e2
  have e3 := Nat.eq_of_beq_eq_true e3
  subst e2
  exact ⟨kd_byA h (by omega), _, _, kd_byA h (by omega), kd_byA h e1, e3⟩
theorem kd_eni {c : ByteArray} {N n p op v w : Nat} (h : kd_ck N n c.data.toList 0 = true) (e : kd_ei N n p op v w = true) : kd_by c p op ∧ kd_by c (p + 1) v ∧ kd_by c (p + 1 + 1) w := by
  obtain ⟨e1, e2⟩ := kd_ean e
  obtain ⟨e2, e3⟩ := kd_ean e2
  obtain ⟨e3, e4⟩ := kd_ean e3
  have e1 := Nat.le_of_ble_eq_true e1
  have e2 := Nat.eq_of_beq_eq_true e2
  have e3 := Nat.eq_of_beq_eq_true e3
  have e4 := Nat.eq_of_beq_eq_true e4
  subst e2
  subst e3
  subst e4
  exact ⟨kd_byA h (by omega), kd_byA h (by omega), kd_byA h e1⟩
theorem kd_dfin {c : ByteArray} {p k : Nat} {I : Instr} (h : Decoder.instr p c p = .ok (I, p + k)) : decode c p = .ok (I, k) := by
  have e := kd_de h
  rw [Nat.add_sub_cancel_left] at e
  exact e
theorem kd_dk0 {c : ByteArray} {N n p op : Nat} {I : Instr} (ho : kd_zo0 op I) (h : kd_ck N n c.data.toList 0 = true) (e : kd_e0 N n p op = true) : decode c p = .ok (I, 1) := by
  obtain ⟨F, hF, hK⟩ := ho p
  refine kd_dfin ?_
  rw [hF]
  exact kd_dbd (kd_du1 (kd_en0 h e)) (by rw [hK]; rfl)
theorem kd_dk1 {c : ByteArray} {N n p op v : Nat} {K : Nat → Instr} (ho : kd_zo1 op K) (h : kd_ck N n c.data.toList 0 = true) (e : kd_e1 N n p op v = true) : decode c p = .ok (K v, 2) := by
  obtain ⟨F, hF, hK⟩ := ho p
  obtain ⟨h0, h1⟩ := kd_en1 h e
  refine kd_dfin ?_
  rw [hF]
  exact kd_dbd (kd_du1 h0) (by rw [hK]; exact kd_dbd (kd_du1 h1) rfl)
theorem kd_dk2 {c : ByteArray} {N n p op v : Nat} {K : Nat → Instr} (ho : kd_zo2 op K) (h : kd_ck N n c.data.toList 0 = true) (e : kd_e2 N n p op v = true) : decode c p = .ok (K v, 3) := by
  obtain ⟨F, hF, hK⟩ := ho p
  obtain ⟨h0, x, y, h1, h2, rfl⟩ := kd_en2 h e
  refine kd_dfin ?_
  rw [hF]
  exact kd_dbd (kd_du1 h0) (by rw [hK]; exact kd_dbd (kd_du2 h1 h2) rfl)
theorem kd_dj1 {c : ByteArray} {N n p op : Nat} {z : Int} {K : Int → Instr} (ho : kd_zp1 op K) {w : Nat} (h : kd_ck N n c.data.toList 0 = true) (e : kd_e1 N n p op w = true) (hz : Reader.signed 8 w = z) : decode c p = .ok (K z, 2) := by
  obtain ⟨F, hF, hK⟩ := ho p
  obtain ⟨h0, h1⟩ := kd_en1 h e
  refine kd_dfin ?_
  rw [hF, ← hz]
  exact kd_dbd (kd_du1 h0) (by rw [hK]; exact kd_dbd (kd_ds1 h1) rfl)
theorem kd_dj2 {c : ByteArray} {N n p op : Nat} {z : Int} {K : Int → Instr} (ho : kd_zp2 op K) {w : Nat} (h : kd_ck N n c.data.toList 0 = true) (e : kd_e2 N n p op w = true) (hz : Reader.signed 16 w = z) : decode c p = .ok (K z, 3) := by
  obtain ⟨F, hF, hK⟩ := ho p
  obtain ⟨h0, x, y, h1, h2, rfl⟩ := kd_en2 h e
  refine kd_dfin ?_
  rw [hF, ← hz]
  exact kd_dbd (kd_du1 h0) (by rw [hK]; exact kd_dbd (kd_ds2 h1 h2) rfl)
theorem kd_dji {c : ByteArray} {N n p op v : Nat} {z : Int} {K : Nat → Int → Instr} (ho : kd_zpi op K) {w : Nat} (h : kd_ck N n c.data.toList 0 = true) (e : kd_ei N n p op v w = true) (hz : Reader.signed 8 w = z) : decode c p = .ok (K v z, 3) := by
  obtain ⟨F, hF, hK⟩ := ho p
  obtain ⟨h0, h1, h2⟩ := kd_eni h e
  refine kd_dfin ?_
  rw [hF, ← hz]
  exact kd_dbd (kd_du1 h0) (by rw [hK]; exact kd_dbd (kd_du1 h1) (kd_dbd (kd_ds1 h2) rfl))
theorem kd_dkn {c : ByteArray} {N n p t : Nat} {T : ArrayType} (ho : kd_zon t T) (h : kd_ck N n c.data.toList 0 = true) (e : kd_e1 N n p 188 t = true) : decode c p = .ok (.newarray T, 2) := by
  obtain ⟨F, hF, F2, hK, hT⟩ := ho p
  obtain ⟨h0, h1⟩ := kd_en1 h e
  refine kd_dfin ?_
  rw [hF]
  exact kd_dbd (kd_du1 h0) (by rw [hK]; exact kd_dbd (kd_du1 h1) (by rw [hT]; rfl))
theorem kd_o2 : kd_zo0 2 (.iconst (-1)) := fun p => ⟨_, rfl, rfl⟩
theorem kd_o3 : kd_zo0 3 (.iconst 0) := fun p => ⟨_, rfl, rfl⟩
theorem kd_o4 : kd_zo0 4 (.iconst 1) := fun p => ⟨_, rfl, rfl⟩
theorem kd_o5 : kd_zo0 5 (.iconst 2) := fun p => ⟨_, rfl, rfl⟩
theorem kd_o6 : kd_zo0 6 (.iconst 3) := fun p => ⟨_, rfl, rfl⟩
theorem kd_o7 : kd_zo0 7 (.iconst 4) := fun p => ⟨_, rfl, rfl⟩
theorem kd_o8 : kd_zo0 8 (.iconst 5) := fun p => ⟨_, rfl, rfl⟩
theorem kd_o9 : kd_zo0 9 (.lconst 0) := fun p => ⟨_, rfl, rfl⟩
theorem kd_o16 : kd_zp1 16 (.bipush) := fun p => ⟨_, rfl, rfl⟩
theorem kd_o17 : kd_zp2 17 (.sipush) := fun p => ⟨_, rfl, rfl⟩
theorem kd_o18 : kd_zo1 18 (.ldc) := fun p => ⟨_, rfl, rfl⟩
theorem kd_o19 : kd_zo2 19 (.ldc_w) := fun p => ⟨_, rfl, rfl⟩
theorem kd_o20 : kd_zo2 20 (.ldc2_w) := fun p => ⟨_, rfl, rfl⟩
theorem kd_o21 : kd_zo1 21 (.iload) := fun p => ⟨_, rfl, rfl⟩
theorem kd_o22 : kd_zo1 22 (.lload) := fun p => ⟨_, rfl, rfl⟩
theorem kd_o26 : kd_zo0 26 (.iload_n 0) := fun p => ⟨_, rfl, rfl⟩
theorem kd_o27 : kd_zo0 27 (.iload_n 1) := fun p => ⟨_, rfl, rfl⟩
theorem kd_o28 : kd_zo0 28 (.iload_n 2) := fun p => ⟨_, rfl, rfl⟩
theorem kd_o29 : kd_zo0 29 (.iload_n 3) := fun p => ⟨_, rfl, rfl⟩
theorem kd_o30 : kd_zo0 30 (.lload_n 0) := fun p => ⟨_, rfl, rfl⟩
theorem kd_o31 : kd_zo0 31 (.lload_n 1) := fun p => ⟨_, rfl, rfl⟩
theorem kd_o32 : kd_zo0 32 (.lload_n 2) := fun p => ⟨_, rfl, rfl⟩
theorem kd_o42 : kd_zo0 42 (.aload_n 0) := fun p => ⟨_, rfl, rfl⟩
theorem kd_o43 : kd_zo0 43 (.aload_n 1) := fun p => ⟨_, rfl, rfl⟩
theorem kd_o44 : kd_zo0 44 (.aload_n 2) := fun p => ⟨_, rfl, rfl⟩
theorem kd_o45 : kd_zo0 45 (.aload_n 3) := fun p => ⟨_, rfl, rfl⟩
theorem kd_o46 : kd_zo0 46 (.iaload) := fun p => ⟨_, rfl, rfl⟩
theorem kd_o47 : kd_zo0 47 (.laload) := fun p => ⟨_, rfl, rfl⟩
theorem kd_o50 : kd_zo0 50 (.aaload) := fun p => ⟨_, rfl, rfl⟩
theorem kd_o51 : kd_zo0 51 (.baload) := fun p => ⟨_, rfl, rfl⟩
theorem kd_o54 : kd_zo1 54 (.istore) := fun p => ⟨_, rfl, rfl⟩
theorem kd_o55 : kd_zo1 55 (.lstore) := fun p => ⟨_, rfl, rfl⟩
theorem kd_o59 : kd_zo0 59 (.istore_n 0) := fun p => ⟨_, rfl, rfl⟩
theorem kd_o60 : kd_zo0 60 (.istore_n 1) := fun p => ⟨_, rfl, rfl⟩
theorem kd_o61 : kd_zo0 61 (.istore_n 2) := fun p => ⟨_, rfl, rfl⟩
theorem kd_o62 : kd_zo0 62 (.istore_n 3) := fun p => ⟨_, rfl, rfl⟩
theorem kd_o64 : kd_zo0 64 (.lstore_n 1) := fun p => ⟨_, rfl, rfl⟩
theorem kd_o65 : kd_zo0 65 (.lstore_n 2) := fun p => ⟨_, rfl, rfl⟩
theorem kd_o76 : kd_zo0 76 (.astore_n 1) := fun p => ⟨_, rfl, rfl⟩
theorem kd_o77 : kd_zo0 77 (.astore_n 2) := fun p => ⟨_, rfl, rfl⟩
theorem kd_o79 : kd_zo0 79 (.iastore) := fun p => ⟨_, rfl, rfl⟩
theorem kd_o80 : kd_zo0 80 (.lastore) := fun p => ⟨_, rfl, rfl⟩
theorem kd_o83 : kd_zo0 83 (.aastore) := fun p => ⟨_, rfl, rfl⟩
theorem kd_o84 : kd_zo0 84 (.bastore) := fun p => ⟨_, rfl, rfl⟩
theorem kd_o87 : kd_zo0 87 (.pop) := fun p => ⟨_, rfl, rfl⟩
theorem kd_o89 : kd_zo0 89 (.dup) := fun p => ⟨_, rfl, rfl⟩
theorem kd_o92 : kd_zo0 92 (.dup2) := fun p => ⟨_, rfl, rfl⟩
theorem kd_o96 : kd_zo0 96 (.iadd) := fun p => ⟨_, rfl, rfl⟩
theorem kd_o97 : kd_zo0 97 (.ladd) := fun p => ⟨_, rfl, rfl⟩
theorem kd_o100 : kd_zo0 100 (.isub) := fun p => ⟨_, rfl, rfl⟩
theorem kd_o104 : kd_zo0 104 (.imul) := fun p => ⟨_, rfl, rfl⟩
theorem kd_o105 : kd_zo0 105 (.lmul) := fun p => ⟨_, rfl, rfl⟩
theorem kd_o108 : kd_zo0 108 (.idiv) := fun p => ⟨_, rfl, rfl⟩
theorem kd_o112 : kd_zo0 112 (.irem) := fun p => ⟨_, rfl, rfl⟩
theorem kd_o120 : kd_zo0 120 (.ishl) := fun p => ⟨_, rfl, rfl⟩
theorem kd_o122 : kd_zo0 122 (.ishr) := fun p => ⟨_, rfl, rfl⟩
theorem kd_o124 : kd_zo0 124 (.iushr) := fun p => ⟨_, rfl, rfl⟩
theorem kd_o126 : kd_zo0 126 (.iand) := fun p => ⟨_, rfl, rfl⟩
theorem kd_o128 : kd_zo0 128 (.ior) := fun p => ⟨_, rfl, rfl⟩
theorem kd_o130 : kd_zo0 130 (.ixor) := fun p => ⟨_, rfl, rfl⟩
theorem kd_o132 : kd_zpi 132 (.iinc) := fun p => ⟨_, rfl, rfl⟩
theorem kd_o133 : kd_zo0 133 (.i2l) := fun p => ⟨_, rfl, rfl⟩
theorem kd_o136 : kd_zo0 136 (.l2i) := fun p => ⟨_, rfl, rfl⟩
theorem kd_o145 : kd_zo0 145 (.i2b) := fun p => ⟨_, rfl, rfl⟩
theorem kd_o146 : kd_zo0 146 (.i2c) := fun p => ⟨_, rfl, rfl⟩
theorem kd_o148 : kd_zo0 148 (.lcmp) := fun p => ⟨_, rfl, rfl⟩
theorem kd_o153 : kd_zp2 153 (.ifCond .eq) := fun p => ⟨_, rfl, rfl⟩
theorem kd_o154 : kd_zp2 154 (.ifCond .ne) := fun p => ⟨_, rfl, rfl⟩
theorem kd_o155 : kd_zp2 155 (.ifCond .lt) := fun p => ⟨_, rfl, rfl⟩
theorem kd_o156 : kd_zp2 156 (.ifCond .ge) := fun p => ⟨_, rfl, rfl⟩
theorem kd_o157 : kd_zp2 157 (.ifCond .gt) := fun p => ⟨_, rfl, rfl⟩
theorem kd_o158 : kd_zp2 158 (.ifCond .le) := fun p => ⟨_, rfl, rfl⟩
theorem kd_o159 : kd_zp2 159 (.if_icmp .eq) := fun p => ⟨_, rfl, rfl⟩
theorem kd_o160 : kd_zp2 160 (.if_icmp .ne) := fun p => ⟨_, rfl, rfl⟩
theorem kd_o161 : kd_zp2 161 (.if_icmp .lt) := fun p => ⟨_, rfl, rfl⟩
theorem kd_o162 : kd_zp2 162 (.if_icmp .ge) := fun p => ⟨_, rfl, rfl⟩
theorem kd_o163 : kd_zp2 163 (.if_icmp .gt) := fun p => ⟨_, rfl, rfl⟩
theorem kd_o164 : kd_zp2 164 (.if_icmp .le) := fun p => ⟨_, rfl, rfl⟩
theorem kd_o167 : kd_zp2 167 (.goto) := fun p => ⟨_, rfl, rfl⟩
theorem kd_o172 : kd_zo0 172 (.ireturn) := fun p => ⟨_, rfl, rfl⟩
theorem kd_o173 : kd_zo0 173 (.lreturn) := fun p => ⟨_, rfl, rfl⟩
theorem kd_o176 : kd_zo0 176 (.areturn) := fun p => ⟨_, rfl, rfl⟩
theorem kd_o177 : kd_zo0 177 (.return_) := fun p => ⟨_, rfl, rfl⟩
theorem kd_o178 : kd_zo2 178 (.getstatic) := fun p => ⟨_, rfl, rfl⟩
theorem kd_o180 : kd_zo2 180 (.getfield) := fun p => ⟨_, rfl, rfl⟩
theorem kd_o181 : kd_zo2 181 (.putfield) := fun p => ⟨_, rfl, rfl⟩
theorem kd_o182 : kd_zo2 182 (.invokevirtual) := fun p => ⟨_, rfl, rfl⟩
theorem kd_o183 : kd_zo2 183 (.invokespecial) := fun p => ⟨_, rfl, rfl⟩
theorem kd_o184 : kd_zo2 184 (.invokestatic) := fun p => ⟨_, rfl, rfl⟩
theorem kd_o187 : kd_zo2 187 (.new) := fun p => ⟨_, rfl, rfl⟩
theorem kd_o189 : kd_zo2 189 (.anewarray) := fun p => ⟨_, rfl, rfl⟩
theorem kd_o190 : kd_zo0 190 (.arraylength) := fun p => ⟨_, rfl, rfl⟩
theorem kd_o191 : kd_zo0 191 (.athrow) := fun p => ⟨_, rfl, rfl⟩
theorem kd_w4 : kd_zon 4 .boolean := fun p => ⟨_, rfl, _, rfl, rfl⟩
theorem kd_w8 : kd_zon 8 .byte := fun p => ⟨_, rfl, _, rfl, rfl⟩
theorem kd_w10 : kd_zon 10 .int := fun p => ⟨_, rfl, _, rfl, rfl⟩
theorem kd_w11 : kd_zon 11 .long := fun p => ⟨_, rfl, _, rfl, rfl⟩
end zzm2
