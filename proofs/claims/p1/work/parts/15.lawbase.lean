/-! THE CLAIM OUT OF ONE WALK OF THE LAW'S BODY. Your part is whole_start (and what it stands on); all else here is the same for every law, but numbers. -/
def R_law : String := "UnderstudyShowLaw"
def lw_P (b : Addr) (xs : List Int32) (args : Array Value) (s : State) : Prop := args = #[.ref b] ∧ s.IntsAt b xs ∧ xs.length ≤ 6 ∧ (Jvm.Cond.and given_1 narrow_1).before args s = true
def lw_Q (_ : Array Value) (s : State) (o : Outcome) (t : State) : Prop := o = .returned (some (.int 1)) ∧ Framed s o t [] 600000 7302249
def lw_Z (below : List Frame) (a : Array Value) (s : State) : State → Prop := fun t => ∃ o, t.status = .running ∧ Ended t below o ∧ lw_Q a s o t
/-- the law's own end, with 1 on the stack, nothing written that was there before, its room as the claim has it -/
theorem lw_ret {p : Program} {l : Launch} {e : Env} {s : State} {m : MethodId} {below : List Frame} {meth : Method} {c : Code} {b : Nat} (hx : p.tables.exec = Jvm.exec) (hb : c.code = code) (hr : meth.sig.returnType = ret) (hlocks : meth.locks = false) {pc : Nat} {H : Heap} {ls : Array Slot} (hdg : decode code pc = .ok (.ireturn, 1)) : W p l e room_1 s m #[Value.ref b] below meth c H [] 600000 7302249 (lw_Z below #[Value.ref b] s) (F0 m pc ls [.int 1]) := by
  intro T hT X
  obtain ⟨fs, hret, hrun, hended, hW, hframe⟩ := X.leave (v := some (.int 1)) (hlocks := hlocks) (fun h => by rw [hr] at h; cases h)
  have hmeth' : T.vm.method? m = some meth := X.method'
  refine ⟨T.setFrames fs, ?_, .returned (some (.int 1)), hrun, hended, rfl, ⟨_, rfl⟩, hW, hframe⟩
  jvm_step X.here [X.here.top, hx, hb, hdg, hmeth', hr, ret, narrow_b1]
  (try refine ⟨rfl, ?_⟩); (try refine ⟨rfl, ?_⟩)
  first | (intro acts; rw [hret _ acts rfl rfl rfl]) | rw [hret _ _ rfl rfl rfl]
  exact Steps.refl _
/-- what holds at the law's entry: the machine, the code, the tables' words (any of lw_tbl by 'hts w (by decide +kernel)'), the script of L ints xs at the cell b, what the Statement gives of the start (any of its parts by flat_of_before) -/
def lw_At (p : Program) (s : State) (m : MethodId) (meth : Method) (c : Code) (b L : Nat) (xs : Nat → Int32) : Prop :=
  p.tables.exec = Jvm.exec ∧ c.code = code ∧ meth.sig.returnType = ret ∧ c.maxLocals = 4 ∧ s.vm.findClass R_law = some m.cls ∧ (∀ w ∈ lw_tbl, w.before #[Value.ref b] s = true) ∧ va_X b L xs s s.heap ∧ b < s.heap.size ∧ meth.locks = false ∧ (Jvm.Cond.and given_1 narrow_1).before #[Value.ref b] s = true

def zz_all (G : zz_G) (ra rb : Nat → Nat) (df0 dg0 df1 dg1 df2 dg2 df3 dg3 : Nat → Int32) (pf : Nat → Option Nat) : va_W := [((ra 0), .inr (9, [.ref (ra 1), .int 0, .ref (ra 2), .int (-1), .ref (ra 10), .ref (ra 20), .ref (ra 50), .ref (ra 55), .ref (ra 60), .ref (ra 63), .ref (ra 67), .ref (ra 74), .ref (ra 78), .ref (ra 95)])), ((ra 1), .inl (G.2 1, 2000, .inl (fun _ => 0))), ((ra 2), .inr (4, [.ref (ra 3), .ref (ra 8), .int 0, .int 0, .int 0, .int (-1), .int 0, .int (-1)])), ((ra 3), .inr (7, [.ref (ra 4), .ref (ra 5), .ref (ra 6), .ref (ra 7)])), ((ra 4), .inl (G.2 0, 401, .inl (fun _ => 0))), ((ra 5), .inl (G.2 0, 401, .inl (fun _ => 0))), ((ra 6), .inl (G.2 0, 401, .inl (fun _ => 0))), ((ra 7), .inl (G.2 3, 401, .inr (.inl (fun _ => 0)))), ((ra 10), .inr (5, [.ref (ra 11), .ref (ra 12), .ref (ra 13), .ref (ra 14), .ref (ra 15), .ref (ra 16), .ref (ra 17), .ref (ra 18), .ref (ra 19), .int 0, .int 0, .int 1, .int 0])), ((ra 20), .inr (5, [.ref (ra 21), .ref (ra 22), .ref (ra 23), .ref (ra 24), .ref (ra 25), .ref (ra 26), .ref (ra 27), .ref (ra 28), .ref (ra 29), .int 0, .int 0, .int 1, .int 0])), ((ra 22), .inl (G.2 0, 7, .inl (fun _ => 0))), ((ra 25), .inl (G.2 0, 6, .inl (fun _ => 0))), ((ra 28), .inl (G.2 4, 4, .inr (.inr (.inr (.inr (va_up (va_up (va_up (va_up (fun _ => none) 0 (some (ra 30))) 1 (some (ra 34))) 2 (some (ra 38))) 3 (some (ra 42)))))))), ((ra 30), .inr (2, [.ref (ra 31), .ref (ra 32), .ref (ra 33), .int 1, .int 7])), ((ra 31), .inl (G.2 0, 400, .inl df0)), ((ra 32), .inl (G.2 0, 14, .inl dg0)), ((ra 34), .inr (2, [.ref (ra 35), .ref (ra 36), .ref (ra 37), .int 1, .int 1])), ((ra 35), .inl (G.2 0, 400, .inl df1)), ((ra 36), .inl (G.2 0, 14, .inl dg1)), ((ra 38), .inr (2, [.ref (ra 39), .ref (ra 40), .ref (ra 41), .int 1, .int 1])), ((ra 39), .inl (G.2 0, 400, .inl df2)), ((ra 40), .inl (G.2 0, 14, .inl dg2)), ((ra 42), .inr (2, [.ref (ra 43), .ref (ra 44), .ref (ra 45), .int 1, .int 1])), ((ra 43), .inl (G.2 0, 400, .inl df3)), ((ra 44), .inl (G.2 0, 14, .inl dg3)), ((ra 50), .inr (6, [.ref (ra 51), .ref (ra 52), .ref (ra 53), .ref (ra 54), .int 0, .int 0, .int 0])), ((ra 51), .inl (G.2 0, 7, .inl (fun _ => 0))), ((ra 52), .inl (G.2 0, 6, .inl (fun _ => 0))), ((ra 53), .inl (G.2 0, 7, .inl (fun _ => 0))), ((ra 54), .inl (G.2 0, 42, .inl (fun _ => 0))), ((ra 55), .inr (6, [.ref (ra 56), .ref (ra 57), .ref (ra 58), .ref (ra 59), .int 0, .int 0, .int 0])), ((ra 56), .inl (G.2 0, 7, .inl (fun _ => 0))), ((ra 57), .inl (G.2 0, 6, .inl (fun _ => 0))), ((ra 58), .inl (G.2 0, 7, .inl (fun _ => 0))), ((ra 59), .inl (G.2 0, 42, .inl (fun _ => 0))), ((ra 60), .inr (0, [.ref (ra 61), .ref (ra 62), .int 0, .int 0])), ((ra 62), .inl (G.2 0, 7, .inl (fun _ => 0))), ((ra 63), .inr (1, [.ref (ra 64), .ref (ra 65), .ref (ra 66), .int 0, .int 0])), ((ra 65), .inl (G.2 0, 128, .inl (fun _ => 0))), ((ra 66), .inl (G.2 0, 896, .inl (fun _ => 0))), ((ra 67), .inr (3, [.ref (ra 68), .int 0, .int 0])), ((ra 68), .inl (G.2 5, 40, .inr (.inr (.inr (.inr pf))))), ((ra 69), .inr (6, [.ref (ra 70), .ref (ra 71), .ref (ra 72), .ref (ra 73), .int 0, .int 0, .int 0])), ((ra 70), .inl (G.2 0, 7, .inl (fun _ => 0))), ((ra 71), .inl (G.2 0, 6, .inl (fun _ => 0))), ((ra 72), .inl (G.2 0, 7, .inl (fun _ => 0))), ((ra 73), .inl (G.2 0, 42, .inl (fun _ => 0))), ((ra 74), .inr (8, [.ref (ra 75), .ref (ra 76), .ref (ra 77), .int 0])), ((ra 78), .inl (G.2 5, 3, .inr (.inr (.inr (.inr (va_up (va_up (va_up (fun _ => none) 0 (some (ra 80))) 1 (some (ra 85))) 2 (some (ra 90)))))))), ((ra 80), .inr (6, [.ref (ra 81), .ref (ra 82), .ref (ra 83), .ref (ra 84), .int 0, .int 0, .int 0])), ((ra 81), .inl (G.2 0, 7, .inl (fun _ => 0))), ((ra 82), .inl (G.2 0, 6, .inl (fun _ => 0))), ((ra 83), .inl (G.2 0, 7, .inl (fun _ => 0))), ((ra 84), .inl (G.2 0, 42, .inl (fun _ => 0))), ((ra 85), .inr (6, [.ref (ra 86), .ref (ra 87), .ref (ra 88), .ref (ra 89), .int 0, .int 0, .int 0])), ((ra 86), .inl (G.2 0, 7, .inl (fun _ => 0))), ((ra 87), .inl (G.2 0, 6, .inl (fun _ => 0))), ((ra 88), .inl (G.2 0, 7, .inl (fun _ => 0))), ((ra 89), .inl (G.2 0, 42, .inl (fun _ => 0))), ((ra 90), .inr (6, [.ref (ra 91), .ref (ra 92), .ref (ra 93), .ref (ra 94), .int 0, .int 0, .int 0])), ((ra 91), .inl (G.2 0, 7, .inl (fun _ => 0))), ((ra 92), .inl (G.2 0, 6, .inl (fun _ => 0))), ((ra 93), .inl (G.2 0, 7, .inl (fun _ => 0))), ((ra 94), .inl (G.2 0, 42, .inl (fun _ => 0))), ((ra 95), .inl (G.2 2, 3, .inl (fun _ => 0))), ((rb 0), .inr (10, (zz_mo rb []))), ((rb 1), .inl (G.2 1, 2000, .inl (fun _ => 0))), ((rb 3), .inl (G.2 1, 2000, .inl (fun _ => 0))), ((rb 5), .inl (G.2 0, 403, .inl (fun _ => 0))), ((rb 6), .inl (G.2 0, 403, .inl (fun _ => 0))), ((rb 7), .inl (G.2 0, 403, .inl (fun _ => 0))), ((rb 8), .inl (G.2 3, 403, .inr (.inl (fun _ => 0)))), ((rb 22), .inl (G.2 0, 2, .inl (fun _ => 0))), ((rb 26), .inl (G.2 0, 2, .inl (fun _ => 0))), ((rb 30), .inl (G.2 0, 2, .inl (upd (upd (fun _ => 0) 0 1) 1 1))), ((rb 31), .inl (G.2 0, 2, .inl (fun _ => 0))), ((rb 32), .inl (G.2 0, 8, .inl (fun _ => 0))), ((rb 33), .inl (G.2 0, 8, .inl (fun _ => 0))), ((rb 48), .inl (G.2 0, 71, .inl (fun _ => 0))), ((rb 49), .inl (G.2 0, 71, .inl (fun _ => 0))), ((rb 57), .inl (G.2 0, 2840, .inl (fun _ => 0))), ((rb 59), .inl (G.2 0, 896, .inl (fun _ => 0))), ((rb 60), .inl (G.2 0, 6, .inl (fun _ => 0))), ((rb 65), .inl (G.2 2, 3, .inl (fun _ => 0))), ((rb 66), .inl (G.2 0, 213, .inl (fun _ => 0)))]
theorem zz_two (x : Int32) : x = 0 ∨ x = 1 ∨ (x < 0 ∨ 1 < x) := by
  rcases zz_tri x with h | h | h
  · exact Or.inr (Or.inr (Or.inl h))
  · exact Or.inl h
  · by_cases h1 : 1 < x
    · exact Or.inr (Or.inr (Or.inr h1))
    · right; left
      have a := Int32.lt_iff_toInt_lt.mp h
      have b := Int32.le_iff_toInt_le.mp (Int32.not_lt.mp h1)
      have e0 : (0 : Int32).toInt = 0 := by decide
      have e1 : (1 : Int32).toInt = 1 := by decide
      exact Int32.toInt_inj.mp (by omega)
theorem zz_rng (x : Int32) (a b : Nat) (hb : b < 2 ^ 31) (ha : a < 2 ^ 31) : (x < nI a ∨ nI b < x) ∨ ∃ k : Nat, a ≤ k ∧ k ≤ b ∧ x = nI k := by
  by_cases h1 : x < nI a
  · exact Or.inl (Or.inl h1)
  · by_cases h2 : nI b < x
    · exact Or.inl (Or.inr h2)
    · right
      have q1 := Int32.le_iff_toInt_le.mp (Int32.not_lt.mp h1)
      have q2 := Int32.le_iff_toInt_le.mp (Int32.not_lt.mp h2)
      rw [nI_toInt ha] at q1
      rw [nI_toInt hb] at q2
      refine ⟨x.toInt.toNat, by omega, by omega, Int32.toInt_inj.mp ?_⟩
      rw [nI_toInt (by omega)]
      omega
/-- the law's own end, behind a call -/
theorem law_end {p : Program} {l : Launch} {e : Env} {s : State} {m : MethodId} {below : List Frame} {meth : Method} {c : Code} {b : Nat} {xs : Nat → Int32} {A : Nat → Prop} {G : zz_G} (C0 : lw_At p s m meth c b 6 xs) (hA : ∀ q, A q → s.heap.size ≤ q) {H : Heap} {locs : List Loc} {ws : va_W} (hw : zz_w G A s ws H locs) {ls : Array Slot} {q1 q2 : Nat} (hl : lv_has ls 4 [(3, .int 0), (2, .ref q2), (1, .ref q1), (0, .ref b)]) : W p l e room_1 s m #[Value.ref b] below meth c H locs 600000 7302249 (lw_Z below #[Value.ref b] s) (F0 m 1337 ls []) := by
  obtain ⟨hx, hb, hr, hml, hown, hts, hX, hbl, hlocks, hgv⟩ := C0
  have hbA : ¬ A b := fun h => absurd (hA b h) (Nat.not_le.mpr hbl)
  refine lv_iinc (v := 6) (lv' := [(3, .int 6), (2, .ref q2), (1, .ref q1), (0, .ref b)]) hx hb dL_law_1337 hl (k := 0) rfl (by decide) (by decide) rfl (fun ls hl => ?_)
  refine lv_goto (tgt := 18) hx hb dL_law_1340 (by decide) ?_
  refine lv_iload_n hx hb dL_law_18 rfl (lv_at hl 0 rfl) ?_
  refine lv_aload_n hx hb dL_law_19 rfl (lv_at hl 3 rfl) ?_
  refine va_slen hx hb hX hbl hbA hw.2.2.2.1 dL_law_20 ?_
  refine lv_bipush (v := 6) hx hb dL_law_21 (by decide) ?_
  refine lv_isub hx hb dL_law_23 ?_
  refine zz_topi (y := 0) (by decide) ?_
  refine lv_icmp_gt (tgt := 1343) hx hb dL_law_24 (by decide) (fun _ => ?_) (fun cc => absurd cc (by decide))
  refine lv_iconst (v := 1) hx hb dL_law_1343 (by decide) ?_
  refine va_forget (fun q hq => hA _ (hw.2.2.2.1.2.2 q hq)) ?_
  exact lw_ret hx hb hr hlocks dL_law_1344
