section ZPC
variable {G : zz_G} {A : Nat → Prop} {s : State} {H : Heap} {locs : List Loc}
theorem zz_pcut {C Y : va_W} {x : zz_sx} {L1 L2 : List zz_sx} (h : zz_w G A s ((C ++ zz_PL G (L1 ++ x :: L2)) ++ Y) H locs) : zz_w G A s ((C ++ zz_stc G x) ++ (zz_PL G L1 ++ (zz_PL G L2 ++ Y))) H locs := by
  have e : (C ++ zz_PL G (L1 ++ x :: L2)) ++ Y = ((C ++ zz_PL G L1) ++ zz_stc G x) ++ (zz_PL G L2 ++ Y) := by
    rw [zz_PL_app, zz_PL_cons]; simp only [List.append_assoc]
  rw [e] at h
  have h2 := zz_w.swap h
  rw [List.append_assoc C] at h2
  exact zz_w.swap h2
theorem zz_pput {C Y : va_W} {x : zz_sx} {L1 L2 : List zz_sx} (h : zz_w G A s ((C ++ zz_stc G x) ++ (zz_PL G L1 ++ (zz_PL G L2 ++ Y))) H locs) : zz_w G A s ((C ++ zz_PL G (L1 ++ x :: L2)) ++ Y) H locs := by
  have e : (C ++ zz_PL G (L1 ++ x :: L2)) ++ Y = ((C ++ zz_PL G L1) ++ zz_stc G x) ++ (zz_PL G L2 ++ Y) := by
    rw [zz_PL_app, zz_PL_cons]; simp only [List.append_assoc]
  rw [e]
  have h2 := zz_w.swap h
  rw [← List.append_assoc C] at h2
  exact zz_w.swap h2
theorem zz_split {x : zz_sx} {L : List zz_sx} {j : Nat} (h : L[j]? = some x) : ∃ L1 L2, L = L1 ++ x :: L2 ∧ L1.length = j := by
  induction L generalizing j with
  | nil => simp at h
  | cons a t ih =>
    cases j with
    | zero =>
      have e : a = x := Option.some.inj h
      subst e
      exact ⟨[], t, rfl, rfl⟩
    | succ j =>
      obtain ⟨L1, L2, e1, e2⟩ := ih (j := j) h
      exact ⟨a :: L1, L2, by rw [e1]; rfl, by rw [← e2]; rfl⟩
theorem zz_pok_set {pf : Nat → Option Nat} {x y : zz_sx} {L1 L2 : List zz_sx} (h : zz_pok pf (L1 ++ x :: L2)) (e : y.1 0 = x.1 0) : zz_pok pf (L1 ++ y :: L2) := by
  intro j hj
  have hj2 : j < (L1 ++ x :: L2).length := by simpa using hj
  obtain ⟨w, h1, h2⟩ := h j hj2
  by_cases q : j < L1.length
  · rw [List.getElem?_append_left q] at h1 ⊢
    exact ⟨w, h1, h2⟩
  · rw [List.getElem?_append_right (by omega)] at h1 ⊢
    cases k : j - L1.length with
    | zero =>
      rw [k] at h1
      refine ⟨y, rfl, ?_⟩
      have e2 : x = w := Option.some.inj h1
      rw [h2, ← e2, e]
    | succ i =>
      rw [k] at h1
      exact ⟨w, h1, h2⟩
end ZPC
theorem zz_CWx {G : zz_G} {a : Nat → Nat} {f : Nat → Nat → Int32} {g : Nat → Nat → Int64} {z : Nat → Int32} {n : Nat → Nat} {pf : Nat → Option Nat} {x : zz_sx} : zz_CW G a f g z n pf ++ zz_stc G x = [((a 0), .inr (9, [.ref (a 1), .int (nI (n 0)), .ref (a 2), .int (z 0), .ref (a 10), .ref (a 20), .ref (a 50), .ref (a 55), .ref (a 60), .ref (a 63), .ref (a 67), .ref (a 74), .ref (a 78), .ref (a 95)])), ((a 1), .inl (G.2 1, 2000, .inl (f 1))), ((a 2), .inr (4, [.ref (a 3), .ref (a 8), .int (nI (n 1)), .int (nI (n 2)), .int (z 1), .int (z 2), .int (z 3), .int (z 4)])), ((a 3), .inr (7, [.ref (a 4), .ref (a 5), .ref (a 6), .ref (a 7)])), ((a 4), .inl (G.2 0, 401, .inl (f 4))), ((a 5), .inl (G.2 0, 401, .inl (f 5))), ((a 6), .inl (G.2 0, 401, .inl (f 6))), ((a 7), .inl (G.2 3, 401, .inr (.inl (g 7)))), ((a 8), .inl (G.2 0, 32, .inl (f 8))), ((a 10), .inr (5, [.ref (a 11), .ref (a 12), .ref (a 13), .ref (a 14), .ref (a 15), .ref (a 16), .ref (a 17), .ref (a 18), .ref (a 19), .int (nI (n 3)), .int (nI (n 4)), .int (z 5), .int (z 6)])), ((a 11), .inl (G.2 3, 13, .inr (.inl (g 11)))), ((a 12), .inl (G.2 0, 7, .inl (f 12))), ((a 13), .inl (G.2 0, 7, .inl (f 13))), ((a 14), .inl (G.2 0, 7, .inl (f 14))), ((a 15), .inl (G.2 0, 6, .inl (f 15))), ((a 16), .inl (G.2 0, 6, .inl (f 16))), ((a 17), .inl (G.2 0, 6, .inl (f 17))), ((a 18), .inl (G.2 4, 4, .inr (.inr (.inr (.inr (va_up (va_up (va_up (va_up (fun _ => none) 0 (some (a 100))) 1 (some (a 104))) 2 (some (a 108))) 3 (some (a 112)))))))), ((a 19), .inl (G.2 0, 9, .inl (f 19))), ((a 100), .inr (2, [.ref (a 101), .ref (a 102), .ref (a 103), .int (nI (n 10)), .int (nI (n 11))])), ((a 101), .inl (G.2 0, 400, .inl (f 101))), ((a 102), .inl (G.2 0, 14, .inl (f 102))), ((a 103), .inl (G.2 0, 32, .inl (f 103))), ((a 104), .inr (2, [.ref (a 105), .ref (a 106), .ref (a 107), .int (nI (n 12)), .int (nI (n 13))])), ((a 105), .inl (G.2 0, 400, .inl (f 105))), ((a 106), .inl (G.2 0, 14, .inl (f 106))), ((a 107), .inl (G.2 0, 32, .inl (f 107))), ((a 108), .inr (2, [.ref (a 109), .ref (a 110), .ref (a 111), .int (nI (n 14)), .int (nI (n 15))])), ((a 109), .inl (G.2 0, 400, .inl (f 109))), ((a 110), .inl (G.2 0, 14, .inl (f 110))), ((a 111), .inl (G.2 0, 32, .inl (f 111))), ((a 112), .inr (2, [.ref (a 113), .ref (a 114), .ref (a 115), .int (nI (n 16)), .int (nI (n 17))])), ((a 113), .inl (G.2 0, 400, .inl (f 113))), ((a 114), .inl (G.2 0, 14, .inl (f 114))), ((a 115), .inl (G.2 0, 32, .inl (f 115))), ((a 20), .inr (5, [.ref (a 21), .ref (a 22), .ref (a 23), .ref (a 24), .ref (a 25), .ref (a 26), .ref (a 27), .ref (a 28), .ref (a 29), .int (nI (n 5)), .int (nI (n 6)), .int (z 7), .int (z 8)])), ((a 21), .inl (G.2 3, 13, .inr (.inl (g 21)))), ((a 22), .inl (G.2 0, 7, .inl (f 22))), ((a 23), .inl (G.2 0, 7, .inl (f 23))), ((a 24), .inl (G.2 0, 7, .inl (f 24))), ((a 25), .inl (G.2 0, 6, .inl (f 25))), ((a 26), .inl (G.2 0, 6, .inl (f 26))), ((a 27), .inl (G.2 0, 6, .inl (f 27))), ((a 28), .inl (G.2 4, 4, .inr (.inr (.inr (.inr (va_up (va_up (va_up (va_up (fun _ => none) 0 (some (a 30))) 1 (some (a 34))) 2 (some (a 38))) 3 (some (a 42)))))))), ((a 29), .inl (G.2 0, 9, .inl (f 29))), ((a 30), .inr (2, [.ref (a 31), .ref (a 32), .ref (a 33), .int (nI (n 20)), .int (nI (n 21))])), ((a 31), .inl (G.2 0, 400, .inl (f 31))), ((a 32), .inl (G.2 0, 14, .inl (f 32))), ((a 33), .inl (G.2 0, 32, .inl (f 33))), ((a 34), .inr (2, [.ref (a 35), .ref (a 36), .ref (a 37), .int (nI (n 22)), .int (nI (n 23))])), ((a 35), .inl (G.2 0, 400, .inl (f 35))), ((a 36), .inl (G.2 0, 14, .inl (f 36))), ((a 37), .inl (G.2 0, 32, .inl (f 37))), ((a 38), .inr (2, [.ref (a 39), .ref (a 40), .ref (a 41), .int (nI (n 24)), .int (nI (n 25))])), ((a 39), .inl (G.2 0, 400, .inl (f 39))), ((a 40), .inl (G.2 0, 14, .inl (f 40))), ((a 41), .inl (G.2 0, 32, .inl (f 41))), ((a 42), .inr (2, [.ref (a 43), .ref (a 44), .ref (a 45), .int (nI (n 26)), .int (nI (n 27))])), ((a 43), .inl (G.2 0, 400, .inl (f 43))), ((a 44), .inl (G.2 0, 14, .inl (f 44))), ((a 45), .inl (G.2 0, 32, .inl (f 45))), ((a 50), .inr (6, [.ref (a 51), .ref (a 52), .ref (a 53), .ref (a 54), .int (z 10), .int (z 11), .int (z 12)])), ((a 51), .inl (G.2 0, 7, .inl (f 51))), ((a 52), .inl (G.2 0, 6, .inl (f 52))), ((a 53), .inl (G.2 0, 7, .inl (f 53))), ((a 54), .inl (G.2 0, 42, .inl (f 54))), ((a 55), .inr (6, [.ref (a 56), .ref (a 57), .ref (a 58), .ref (a 59), .int (z 13), .int (z 14), .int (z 15)])), ((a 56), .inl (G.2 0, 7, .inl (f 56))), ((a 57), .inl (G.2 0, 6, .inl (f 57))), ((a 58), .inl (G.2 0, 7, .inl (f 58))), ((a 59), .inl (G.2 0, 42, .inl (f 59))), ((a 60), .inr (0, [.ref (a 61), .ref (a 62), .int (z 16), .int (z 17)])), ((a 61), .inl (G.2 0, 6, .inl (f 61))), ((a 62), .inl (G.2 0, 7, .inl (f 62))), ((a 63), .inr (1, [.ref (a 64), .ref (a 65), .ref (a 66), .int (z 18), .int (z 19)])), ((a 64), .inl (G.2 0, 42, .inl (f 64))), ((a 65), .inl (G.2 0, 128, .inl (f 65))), ((a 66), .inl (G.2 0, 896, .inl (f 66))), ((a 67), .inr (3, [.ref (a 68), .int (nI (n 7)), .int (nI (n 8))])), ((a 68), .inl (G.2 5, 40, .inr (.inr (.inr (.inr pf))))), ((a 74), .inr (8, [.ref (a 75), .ref (a 76), .ref (a 77), .int (nI (n 9))])), ((a 75), .inl (G.2 0, 20, .inl (f 75))), ((a 76), .inl (G.2 0, 20, .inl (f 76))), ((a 77), .inl (G.2 2, 20, .inl (f 77))), ((a 78), .inl (G.2 5, 3, .inr (.inr (.inr (.inr (va_up (va_up (va_up (fun _ => none) 0 (some (a 80))) 1 (some (a 85))) 2 (some (a 90)))))))), ((a 80), .inr (6, [.ref (a 81), .ref (a 82), .ref (a 83), .ref (a 84), .int (z 20), .int (z 21), .int (z 22)])), ((a 81), .inl (G.2 0, 7, .inl (f 81))), ((a 82), .inl (G.2 0, 6, .inl (f 82))), ((a 83), .inl (G.2 0, 7, .inl (f 83))), ((a 84), .inl (G.2 0, 42, .inl (f 84))), ((a 85), .inr (6, [.ref (a 86), .ref (a 87), .ref (a 88), .ref (a 89), .int (z 23), .int (z 24), .int (z 25)])), ((a 86), .inl (G.2 0, 7, .inl (f 86))), ((a 87), .inl (G.2 0, 6, .inl (f 87))), ((a 88), .inl (G.2 0, 7, .inl (f 88))), ((a 89), .inl (G.2 0, 42, .inl (f 89))), ((a 90), .inr (6, [.ref (a 91), .ref (a 92), .ref (a 93), .ref (a 94), .int (z 26), .int (z 27), .int (z 28)])), ((a 91), .inl (G.2 0, 7, .inl (f 91))), ((a 92), .inl (G.2 0, 6, .inl (f 92))), ((a 93), .inl (G.2 0, 7, .inl (f 93))), ((a 94), .inl (G.2 0, 42, .inl (f 94))), ((a 95), .inl (G.2 2, 3, .inl (f 95))), ((x.1 0), .inr (6, [.ref (x.1 1), .ref (x.1 2), .ref (x.1 3), .ref (x.1 4), .int (x.2.2 1), .int (x.2.2 2), .int (x.2.2 3)])), ((x.1 1), .inl (G.2 0, 7, .inl (x.2.1 1))), ((x.1 2), .inl (G.2 0, 6, .inl (x.2.1 2))), ((x.1 3), .inl (G.2 0, 7, .inl (x.2.1 3))), ((x.1 4), .inl (G.2 0, 42, .inl (x.2.1 4)))] := rfl
