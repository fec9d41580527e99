section
-- ===== PART A: goes FIRST, ahead of the names: the tables' words, and 'selects' of the private methods out of them =====
/-- a private method of a class that the tables say can be made, by its rows of tables_1 -/
def lw_okq (q : MethodName × Nat) : Prop := (q.1.cls ≠ "java/lang/invoke/MethodHandle" ∧ q.1.cls ≠ "java/lang/invoke/VarHandle") ∧ Cond.instantiable q.1.cls q.2 ∈ tables_1 ∧ Cond.privateMethod q.1 ∈ tables_1 ∧ Cond.instanceMethod q.1 ∈ tables_1
theorem lw_p0 : lw_okq (⟨"UnderstudyShow", "putFourBytes", "(I)V"⟩, 14) := ⟨⟨by decide +kernel, by decide +kernel⟩, List.mem_of_getElem? (i := 21) (by decide +kernel), List.mem_of_getElem? (i := 376) (by decide +kernel), List.mem_of_getElem? (i := 377) (by decide +kernel)⟩
theorem lw_p1 : lw_okq (⟨"UnderstudyShow$Tokens", "cutOne", "([BIII)I"⟩, 4) := ⟨⟨by decide +kernel, by decide +kernel⟩, List.mem_of_getElem? (i := 35) (by decide +kernel), List.mem_of_getElem? (i := 405) (by decide +kernel), List.mem_of_getElem? (i := 406) (by decide +kernel)⟩
theorem lw_p2 : lw_okq (⟨"UnderstudyShow$Tokens", "cutLetters", "([BIII)I"⟩, 4) := ⟨⟨by decide +kernel, by decide +kernel⟩, List.mem_of_getElem? (i := 35) (by decide +kernel), List.mem_of_getElem? (i := 412) (by decide +kernel), List.mem_of_getElem? (i := 413) (by decide +kernel)⟩
theorem lw_p3 : lw_okq (⟨"UnderstudyShow$Tokens", "cutDigits", "([BIII)I"⟩, 4) := ⟨⟨by decide +kernel, by decide +kernel⟩, List.mem_of_getElem? (i := 35) (by decide +kernel), List.mem_of_getElem? (i := 475) (by decide +kernel), List.mem_of_getElem? (i := 476) (by decide +kernel)⟩
theorem lw_p4 : lw_okq (⟨"UnderstudyShow$Reader", "sort", "()I"⟩, 8) := ⟨⟨by decide +kernel, by decide +kernel⟩, List.mem_of_getElem? (i := 29) (by decide +kernel), List.mem_of_getElem? (i := 540) (by decide +kernel), List.mem_of_getElem? (i := 541) (by decide +kernel)⟩
theorem lw_p5 : lw_okq (⟨"UnderstudyShow$Reader", "readTell", "(LUnderstudyShow$Script;)V"⟩, 8) := ⟨⟨by decide +kernel, by decide +kernel⟩, List.mem_of_getElem? (i := 29) (by decide +kernel), List.mem_of_getElem? (i := 544) (by decide +kernel), List.mem_of_getElem? (i := 545) (by decide +kernel)⟩
theorem lw_p6 : lw_okq (⟨"UnderstudyShow$Reader", "readFigure", "(LUnderstudyShow$Script;Z)V"⟩, 8) := ⟨⟨by decide +kernel, by decide +kernel⟩, List.mem_of_getElem? (i := 29) (by decide +kernel), List.mem_of_getElem? (i := 548) (by decide +kernel), List.mem_of_getElem? (i := 549) (by decide +kernel)⟩
theorem lw_p7 : lw_okq (⟨"UnderstudyShow$Reader", "fail", "(I)V"⟩, 8) := ⟨⟨by decide +kernel, by decide +kernel⟩, List.mem_of_getElem? (i := 29) (by decide +kernel), List.mem_of_getElem? (i := 552) (by decide +kernel), List.mem_of_getElem? (i := 553) (by decide +kernel)⟩
theorem lw_p8 : lw_okq (⟨"UnderstudyShow$Reader", "take", "()V"⟩, 8) := ⟨⟨by decide +kernel, by decide +kernel⟩, List.mem_of_getElem? (i := 29) (by decide +kernel), List.mem_of_getElem? (i := 556) (by decide +kernel), List.mem_of_getElem? (i := 557) (by decide +kernel)⟩
theorem lw_p9 : lw_okq (⟨"UnderstudyShow$Reader", "readName", "(LUnderstudyShow$Script;)J"⟩, 8) := ⟨⟨by decide +kernel, by decide +kernel⟩, List.mem_of_getElem? (i := 29) (by decide +kernel), List.mem_of_getElem? (i := 560) (by decide +kernel), List.mem_of_getElem? (i := 561) (by decide +kernel)⟩
theorem lw_p10 : lw_okq (⟨"UnderstudyShow$Reader", "failLater", "(I)V"⟩, 8) := ⟨⟨by decide +kernel, by decide +kernel⟩, List.mem_of_getElem? (i := 29) (by decide +kernel), List.mem_of_getElem? (i := 568) (by decide +kernel), List.mem_of_getElem? (i := 569) (by decide +kernel)⟩
theorem lw_p11 : lw_okq (⟨"UnderstudyShow$Reader", "expect", "(I)V"⟩, 8) := ⟨⟨by decide +kernel, by decide +kernel⟩, List.mem_of_getElem? (i := 29) (by decide +kernel), List.mem_of_getElem? (i := 572) (by decide +kernel), List.mem_of_getElem? (i := 573) (by decide +kernel)⟩
theorem lw_p12 : lw_okq (⟨"UnderstudyShow$Reader", "readNumber", "(I)I"⟩, 8) := ⟨⟨by decide +kernel, by decide +kernel⟩, List.mem_of_getElem? (i := 29) (by decide +kernel), List.mem_of_getElem? (i := 576) (by decide +kernel), List.mem_of_getElem? (i := 577) (by decide +kernel)⟩
theorem lw_p13 : lw_okq (⟨"UnderstudyShow$Reader", "readLaw", "(LUnderstudyShow$Law;)V"⟩, 8) := ⟨⟨by decide +kernel, by decide +kernel⟩, List.mem_of_getElem? (i := 29) (by decide +kernel), List.mem_of_getElem? (i := 588) (by decide +kernel), List.mem_of_getElem? (i := 589) (by decide +kernel)⟩
theorem lw_p14 : lw_okq (⟨"UnderstudyShow$Reader", "readSum", "(LUnderstudyShow$Law;)V"⟩, 8) := ⟨⟨by decide +kernel, by decide +kernel⟩, List.mem_of_getElem? (i := 29) (by decide +kernel), List.mem_of_getElem? (i := 593) (by decide +kernel), List.mem_of_getElem? (i := 594) (by decide +kernel)⟩
theorem lw_p15 : lw_okq (⟨"UnderstudyShow$Reader", "waitFor", "(I)V"⟩, 8) := ⟨⟨by decide +kernel, by decide +kernel⟩, List.mem_of_getElem? (i := 29) (by decide +kernel), List.mem_of_getElem? (i := 597) (by decide +kernel), List.mem_of_getElem? (i := 598) (by decide +kernel)⟩
def lw_privs_1 : List (MethodName × Nat) := [(⟨"UnderstudyShow", "putFourBytes", "(I)V"⟩, 14), (⟨"UnderstudyShow$Tokens", "cutOne", "([BIII)I"⟩, 4), (⟨"UnderstudyShow$Tokens", "cutLetters", "([BIII)I"⟩, 4), (⟨"UnderstudyShow$Tokens", "cutDigits", "([BIII)I"⟩, 4), (⟨"UnderstudyShow$Reader", "sort", "()I"⟩, 8), (⟨"UnderstudyShow$Reader", "readTell", "(LUnderstudyShow$Script;)V"⟩, 8), (⟨"UnderstudyShow$Reader", "readFigure", "(LUnderstudyShow$Script;Z)V"⟩, 8), (⟨"UnderstudyShow$Reader", "fail", "(I)V"⟩, 8), (⟨"UnderstudyShow$Reader", "take", "()V"⟩, 8), (⟨"UnderstudyShow$Reader", "readName", "(LUnderstudyShow$Script;)J"⟩, 8), (⟨"UnderstudyShow$Reader", "failLater", "(I)V"⟩, 8), (⟨"UnderstudyShow$Reader", "expect", "(I)V"⟩, 8), (⟨"UnderstudyShow$Reader", "readNumber", "(I)I"⟩, 8), (⟨"UnderstudyShow$Reader", "readLaw", "(LUnderstudyShow$Law;)V"⟩, 8), (⟨"UnderstudyShow$Reader", "readSum", "(LUnderstudyShow$Law;)V"⟩, 8), (⟨"UnderstudyShow$Reader", "waitFor", "(I)V"⟩, 8)]
theorem lw_r1 : ∀ q ∈ lw_privs_1, lw_okq q := List.forall_mem_cons.mpr ⟨lw_p0, List.forall_mem_cons.mpr ⟨lw_p1, List.forall_mem_cons.mpr ⟨lw_p2, List.forall_mem_cons.mpr ⟨lw_p3, List.forall_mem_cons.mpr ⟨lw_p4, List.forall_mem_cons.mpr ⟨lw_p5, List.forall_mem_cons.mpr ⟨lw_p6, List.forall_mem_cons.mpr ⟨lw_p7, List.forall_mem_cons.mpr ⟨lw_p8, List.forall_mem_cons.mpr ⟨lw_p9, List.forall_mem_cons.mpr ⟨lw_p10, List.forall_mem_cons.mpr ⟨lw_p11, List.forall_mem_cons.mpr ⟨lw_p12, List.forall_mem_cons.mpr ⟨lw_p13, List.forall_mem_cons.mpr ⟨lw_p14, List.forall_mem_cons.mpr ⟨lw_p15, fun _ h => absurd h List.not_mem_nil⟩⟩⟩⟩⟩⟩⟩⟩⟩⟩⟩⟩⟩⟩⟩⟩
theorem lw_p16 : lw_okq (⟨"UnderstudyShow$Reader", "readUnit", "(LUnderstudyShow$Law;)V"⟩, 8) := ⟨⟨by decide +kernel, by decide +kernel⟩, List.mem_of_getElem? (i := 29) (by decide +kernel), List.mem_of_getElem? (i := 601) (by decide +kernel), List.mem_of_getElem? (i := 602) (by decide +kernel)⟩
theorem lw_p17 : lw_okq (⟨"UnderstudyShow$Reader", "putWaiting", "(LUnderstudyShow$Law;I)V"⟩, 8) := ⟨⟨by decide +kernel, by decide +kernel⟩, List.mem_of_getElem? (i := 29) (by decide +kernel), List.mem_of_getElem? (i := 609) (by decide +kernel), List.mem_of_getElem? (i := 610) (by decide +kernel)⟩
theorem lw_p18 : lw_okq (⟨"UnderstudyShow", "playDraft", "()V"⟩, 14) := ⟨⟨by decide +kernel, by decide +kernel⟩, List.mem_of_getElem? (i := 21) (by decide +kernel), List.mem_of_getElem? (i := 615) (by decide +kernel), List.mem_of_getElem? (i := 616) (by decide +kernel)⟩
theorem lw_p19 : lw_okq (⟨"UnderstudyShow", "isPerson", "(I)Z"⟩, 14) := ⟨⟨by decide +kernel, by decide +kernel⟩, List.mem_of_getElem? (i := 21) (by decide +kernel), List.mem_of_getElem? (i := 642) (by decide +kernel), List.mem_of_getElem? (i := 643) (by decide +kernel)⟩
theorem lw_p20 : lw_okq (⟨"UnderstudyShow$Cast", "fillPart", "(LUnderstudyShow$Script;LUnderstudyShow$State;I)V"⟩, 4) := ⟨⟨by decide +kernel, by decide +kernel⟩, List.mem_of_getElem? (i := 243) (by decide +kernel), List.mem_of_getElem? (i := 654) (by decide +kernel), List.mem_of_getElem? (i := 655) (by decide +kernel)⟩
theorem lw_p21 : lw_okq (⟨"UnderstudyShow$Law", "worthOfSum", "(I[I)J"⟩, 5) := ⟨⟨by decide +kernel, by decide +kernel⟩, List.mem_of_getElem? (i := 94) (by decide +kernel), List.mem_of_getElem? (i := 679) (by decide +kernel), List.mem_of_getElem? (i := 680) (by decide +kernel)⟩
theorem lw_p22 : lw_okq (⟨"UnderstudyShow", "seenAsAny", "(I)I"⟩, 14) := ⟨⟨by decide +kernel, by decide +kernel⟩, List.mem_of_getElem? (i := 21) (by decide +kernel), List.mem_of_getElem? (i := 696) (by decide +kernel), List.mem_of_getElem? (i := 697) (by decide +kernel)⟩
theorem lw_p23 : lw_okq (⟨"UnderstudyShow", "isPart", "(I)Z"⟩, 14) := ⟨⟨by decide +kernel, by decide +kernel⟩, List.mem_of_getElem? (i := 21) (by decide +kernel), List.mem_of_getElem? (i := 705) (by decide +kernel), List.mem_of_getElem? (i := 706) (by decide +kernel)⟩
theorem lw_p24 : lw_okq (⟨"UnderstudyShow", "dogsOfPart", "(I)I"⟩, 14) := ⟨⟨by decide +kernel, by decide +kernel⟩, List.mem_of_getElem? (i := 21) (by decide +kernel), List.mem_of_getElem? (i := 709) (by decide +kernel), List.mem_of_getElem? (i := 710) (by decide +kernel)⟩
theorem lw_p25 : lw_okq (⟨"UnderstudyShow$Cast", "playParts", "(LUnderstudyShow$Script;LUnderstudyShow$State;IZ)Z"⟩, 4) := ⟨⟨by decide +kernel, by decide +kernel⟩, List.mem_of_getElem? (i := 243) (by decide +kernel), List.mem_of_getElem? (i := 752) (by decide +kernel), List.mem_of_getElem? (i := 753) (by decide +kernel)⟩
theorem lw_p26 : lw_okq (⟨"UnderstudyShow$Cast", "isDogOut", "(LUnderstudyShow$Script;LUnderstudyShow$State;II)Z"⟩, 4) := ⟨⟨by decide +kernel, by decide +kernel⟩, List.mem_of_getElem? (i := 243) (by decide +kernel), List.mem_of_getElem? (i := 756) (by decide +kernel), List.mem_of_getElem? (i := 757) (by decide +kernel)⟩
theorem lw_p27 : lw_okq (⟨"UnderstudyShow$Cast", "playPart", "(LUnderstudyShow$Script;LUnderstudyShow$State;IZ)V"⟩, 4) := ⟨⟨by decide +kernel, by decide +kernel⟩, List.mem_of_getElem? (i := 243) (by decide +kernel), List.mem_of_getElem? (i := 767) (by decide +kernel), List.mem_of_getElem? (i := 768) (by decide +kernel)⟩
theorem lw_p28 : lw_okq (⟨"UnderstudyShow", "wouldRather", "(II)Z"⟩, 14) := ⟨⟨by decide +kernel, by decide +kernel⟩, List.mem_of_getElem? (i := 21) (by decide +kernel), List.mem_of_getElem? (i := 812) (by decide +kernel), List.mem_of_getElem? (i := 813) (by decide +kernel)⟩
theorem lw_p29 : lw_okq (⟨"UnderstudyShow", "standsIfAny", "(II)I"⟩, 14) := ⟨⟨by decide +kernel, by decide +kernel⟩, List.mem_of_getElem? (i := 21) (by decide +kernel), List.mem_of_getElem? (i := 816) (by decide +kernel), List.mem_of_getElem? (i := 817) (by decide +kernel)⟩
theorem lw_p30 : lw_okq (⟨"UnderstudyShow$Giving", "tellStands", "(LUnderstudyShow$Script;LUnderstudyShow$State;I)V"⟩, 5) := ⟨⟨by decide +kernel, by decide +kernel⟩, List.mem_of_getElem? (i := 266) (by decide +kernel), List.mem_of_getElem? (i := 828) (by decide +kernel), List.mem_of_getElem? (i := 829) (by decide +kernel)⟩
theorem lw_p31 : lw_okq (⟨"UnderstudyShow$Giving", "mostFrom", "(II)I"⟩, 5) := ⟨⟨by decide +kernel, by decide +kernel⟩, List.mem_of_getElem? (i := 266) (by decide +kernel), List.mem_of_getElem? (i := 846) (by decide +kernel), List.mem_of_getElem? (i := 847) (by decide +kernel)⟩
def lw_privs_2 : List (MethodName × Nat) := [(⟨"UnderstudyShow$Reader", "readUnit", "(LUnderstudyShow$Law;)V"⟩, 8), (⟨"UnderstudyShow$Reader", "putWaiting", "(LUnderstudyShow$Law;I)V"⟩, 8), (⟨"UnderstudyShow", "playDraft", "()V"⟩, 14), (⟨"UnderstudyShow", "isPerson", "(I)Z"⟩, 14), (⟨"UnderstudyShow$Cast", "fillPart", "(LUnderstudyShow$Script;LUnderstudyShow$State;I)V"⟩, 4), (⟨"UnderstudyShow$Law", "worthOfSum", "(I[I)J"⟩, 5), (⟨"UnderstudyShow", "seenAsAny", "(I)I"⟩, 14), (⟨"UnderstudyShow", "isPart", "(I)Z"⟩, 14), (⟨"UnderstudyShow", "dogsOfPart", "(I)I"⟩, 14), (⟨"UnderstudyShow$Cast", "playParts", "(LUnderstudyShow$Script;LUnderstudyShow$State;IZ)Z"⟩, 4), (⟨"UnderstudyShow$Cast", "isDogOut", "(LUnderstudyShow$Script;LUnderstudyShow$State;II)Z"⟩, 4), (⟨"UnderstudyShow$Cast", "playPart", "(LUnderstudyShow$Script;LUnderstudyShow$State;IZ)V"⟩, 4), (⟨"UnderstudyShow", "wouldRather", "(II)Z"⟩, 14), (⟨"UnderstudyShow", "standsIfAny", "(II)I"⟩, 14), (⟨"UnderstudyShow$Giving", "tellStands", "(LUnderstudyShow$Script;LUnderstudyShow$State;I)V"⟩, 5), (⟨"UnderstudyShow$Giving", "mostFrom", "(II)I"⟩, 5)]
theorem lw_r2 : ∀ q ∈ lw_privs_2, lw_okq q := List.forall_mem_cons.mpr ⟨lw_p16, List.forall_mem_cons.mpr ⟨lw_p17, List.forall_mem_cons.mpr ⟨lw_p18, List.forall_mem_cons.mpr ⟨lw_p19, List.forall_mem_cons.mpr ⟨lw_p20, List.forall_mem_cons.mpr ⟨lw_p21, List.forall_mem_cons.mpr ⟨lw_p22, List.forall_mem_cons.mpr ⟨lw_p23, List.forall_mem_cons.mpr ⟨lw_p24, List.forall_mem_cons.mpr ⟨lw_p25, List.forall_mem_cons.mpr ⟨lw_p26, List.forall_mem_cons.mpr ⟨lw_p27, List.forall_mem_cons.mpr ⟨lw_p28, List.forall_mem_cons.mpr ⟨lw_p29, List.forall_mem_cons.mpr ⟨lw_p30, List.forall_mem_cons.mpr ⟨lw_p31, fun _ h => absurd h List.not_mem_nil⟩⟩⟩⟩⟩⟩⟩⟩⟩⟩⟩⟩⟩⟩⟩⟩
theorem lw_p32 : lw_okq (⟨"UnderstudyShow$Giving", "canBe", "(III)Z"⟩, 5) := ⟨⟨by decide +kernel, by decide +kernel⟩, List.mem_of_getElem? (i := 266) (by decide +kernel), List.mem_of_getElem? (i := 850) (by decide +kernel), List.mem_of_getElem? (i := 851) (by decide +kernel)⟩
theorem lw_p33 : lw_okq (⟨"UnderstudyShow$Giving", "mostWith", "(III)I"⟩, 5) := ⟨⟨by decide +kernel, by decide +kernel⟩, List.mem_of_getElem? (i := 266) (by decide +kernel), List.mem_of_getElem? (i := 854) (by decide +kernel), List.mem_of_getElem? (i := 855) (by decide +kernel)⟩
theorem lw_p34 : lw_okq (⟨"UnderstudyShow$Giving", "firstOfMost", "(II)I"⟩, 5) := ⟨⟨by decide +kernel, by decide +kernel⟩, List.mem_of_getElem? (i := 266) (by decide +kernel), List.mem_of_getElem? (i := 863) (by decide +kernel), List.mem_of_getElem? (i := 864) (by decide +kernel)⟩
theorem lw_p35 : lw_okq (⟨"UnderstudyShow", "hoursToMove", "(II)I"⟩, 14) := ⟨⟨by decide +kernel, by decide +kernel⟩, List.mem_of_getElem? (i := 21) (by decide +kernel), List.mem_of_getElem? (i := 872) (by decide +kernel), List.mem_of_getElem? (i := 873) (by decide +kernel)⟩
theorem lw_p36 : lw_okq (⟨"UnderstudyShow$Giving", "overAllWays", "(II)I"⟩, 5) := ⟨⟨by decide +kernel, by decide +kernel⟩, List.mem_of_getElem? (i := 266) (by decide +kernel), List.mem_of_getElem? (i := 882) (by decide +kernel), List.mem_of_getElem? (i := 883) (by decide +kernel)⟩
theorem lw_p37 : lw_okq (⟨"UnderstudyShow$Giving", "giveNext", "(III)V"⟩, 5) := ⟨⟨by decide +kernel, by decide +kernel⟩, List.mem_of_getElem? (i := 266) (by decide +kernel), List.mem_of_getElem? (i := 892) (by decide +kernel), List.mem_of_getElem? (i := 893) (by decide +kernel)⟩
theorem lw_p38 : lw_okq (⟨"UnderstudyShow", "standsOf", "(LUnderstudyShow$State;)I"⟩, 14) := ⟨⟨by decide +kernel, by decide +kernel⟩, List.mem_of_getElem? (i := 21) (by decide +kernel), List.mem_of_getElem? (i := 931) (by decide +kernel), List.mem_of_getElem? (i := 932) (by decide +kernel)⟩
theorem lw_p39 : lw_okq (⟨"UnderstudyShow", "castWithout", "(I)LUnderstudyShow$Cast;"⟩, 14) := ⟨⟨by decide +kernel, by decide +kernel⟩, List.mem_of_getElem? (i := 21) (by decide +kernel), List.mem_of_getElem? (i := 944) (by decide +kernel), List.mem_of_getElem? (i := 945) (by decide +kernel)⟩
theorem lw_p40 : lw_okq (⟨"UnderstudyShow", "howManyAt", "(I)I"⟩, 14) := ⟨⟨by decide +kernel, by decide +kernel⟩, List.mem_of_getElem? (i := 21) (by decide +kernel), List.mem_of_getElem? (i := 956) (by decide +kernel), List.mem_of_getElem? (i := 957) (by decide +kernel)⟩
theorem lw_p41 : lw_okq (⟨"UnderstudyShow", "firstTwoAtOneHour", "(LUnderstudyShow$State;)I"⟩, 14) := ⟨⟨by decide +kernel, by decide +kernel⟩, List.mem_of_getElem? (i := 21) (by decide +kernel), List.mem_of_getElem? (i := 980) (by decide +kernel), List.mem_of_getElem? (i := 981) (by decide +kernel)⟩
theorem lw_p42 : lw_okq (⟨"UnderstudyShow$Told", "fits", "(ILUnderstudyShow$Script;LUnderstudyShow$State;I)Z"⟩, 4) := ⟨⟨by decide +kernel, by decide +kernel⟩, List.mem_of_getElem? (i := 308) (by decide +kernel), List.mem_of_getElem? (i := 1024) (by decide +kernel), List.mem_of_getElem? (i := 1025) (by decide +kernel)⟩
theorem lw_p43 : lw_okq (⟨"UnderstudyShow", "leftAtWorst", "(III)I"⟩, 14) := ⟨⟨by decide +kernel, by decide +kernel⟩, List.mem_of_getElem? (i := 21) (by decide +kernel), List.mem_of_getElem? (i := 1034) (by decide +kernel), List.mem_of_getElem? (i := 1035) (by decide +kernel)⟩
theorem lw_p44 : lw_okq (⟨"UnderstudyShow", "marksOfAll", "()I"⟩, 14) := ⟨⟨by decide +kernel, by decide +kernel⟩, List.mem_of_getElem? (i := 21) (by decide +kernel), List.mem_of_getElem? (i := 1054) (by decide +kernel), List.mem_of_getElem? (i := 1055) (by decide +kernel)⟩
theorem lw_p45 : lw_okq (⟨"UnderstudyShow", "slotsHeld", "()I"⟩, 14) := ⟨⟨by decide +kernel, by decide +kernel⟩, List.mem_of_getElem? (i := 21) (by decide +kernel), List.mem_of_getElem? (i := 1058) (by decide +kernel), List.mem_of_getElem? (i := 1059) (by decide +kernel)⟩
theorem lw_p46 : lw_okq (⟨"UnderstudyShow", "countOfCast", "(I)I"⟩, 14) := ⟨⟨by decide +kernel, by decide +kernel⟩, List.mem_of_getElem? (i := 21) (by decide +kernel), List.mem_of_getElem? (i := 1062) (by decide +kernel), List.mem_of_getElem? (i := 1063) (by decide +kernel)⟩
theorem lw_p47 : lw_okq (⟨"UnderstudyShow", "idlePeople", "()I"⟩, 14) := ⟨⟨by decide +kernel, by decide +kernel⟩, List.mem_of_getElem? (i := 21) (by decide +kernel), List.mem_of_getElem? (i := 1066) (by decide +kernel), List.mem_of_getElem? (i := 1067) (by decide +kernel)⟩
def lw_privs_3 : List (MethodName × Nat) := [(⟨"UnderstudyShow$Giving", "canBe", "(III)Z"⟩, 5), (⟨"UnderstudyShow$Giving", "mostWith", "(III)I"⟩, 5), (⟨"UnderstudyShow$Giving", "firstOfMost", "(II)I"⟩, 5), (⟨"UnderstudyShow", "hoursToMove", "(II)I"⟩, 14), (⟨"UnderstudyShow$Giving", "overAllWays", "(II)I"⟩, 5), (⟨"UnderstudyShow$Giving", "giveNext", "(III)V"⟩, 5), (⟨"UnderstudyShow", "standsOf", "(LUnderstudyShow$State;)I"⟩, 14), (⟨"UnderstudyShow", "castWithout", "(I)LUnderstudyShow$Cast;"⟩, 14), (⟨"UnderstudyShow", "howManyAt", "(I)I"⟩, 14), (⟨"UnderstudyShow", "firstTwoAtOneHour", "(LUnderstudyShow$State;)I"⟩, 14), (⟨"UnderstudyShow$Told", "fits", "(ILUnderstudyShow$Script;LUnderstudyShow$State;I)Z"⟩, 4), (⟨"UnderstudyShow", "leftAtWorst", "(III)I"⟩, 14), (⟨"UnderstudyShow", "marksOfAll", "()I"⟩, 14), (⟨"UnderstudyShow", "slotsHeld", "()I"⟩, 14), (⟨"UnderstudyShow", "countOfCast", "(I)I"⟩, 14), (⟨"UnderstudyShow", "idlePeople", "()I"⟩, 14)]
theorem lw_r3 : ∀ q ∈ lw_privs_3, lw_okq q := List.forall_mem_cons.mpr ⟨lw_p32, List.forall_mem_cons.mpr ⟨lw_p33, List.forall_mem_cons.mpr ⟨lw_p34, List.forall_mem_cons.mpr ⟨lw_p35, List.forall_mem_cons.mpr ⟨lw_p36, List.forall_mem_cons.mpr ⟨lw_p37, List.forall_mem_cons.mpr ⟨lw_p38, List.forall_mem_cons.mpr ⟨lw_p39, List.forall_mem_cons.mpr ⟨lw_p40, List.forall_mem_cons.mpr ⟨lw_p41, List.forall_mem_cons.mpr ⟨lw_p42, List.forall_mem_cons.mpr ⟨lw_p43, List.forall_mem_cons.mpr ⟨lw_p44, List.forall_mem_cons.mpr ⟨lw_p45, List.forall_mem_cons.mpr ⟨lw_p46, List.forall_mem_cons.mpr ⟨lw_p47, fun _ h => absurd h List.not_mem_nil⟩⟩⟩⟩⟩⟩⟩⟩⟩⟩⟩⟩⟩⟩⟩⟩
theorem lw_p48 : lw_okq (⟨"UnderstudyShow", "hoursApartInCast", "()I"⟩, 14) := ⟨⟨by decide +kernel, by decide +kernel⟩, List.mem_of_getElem? (i := 21) (by decide +kernel), List.mem_of_getElem? (i := 1070) (by decide +kernel), List.mem_of_getElem? (i := 1071) (by decide +kernel)⟩
theorem lw_p49 : lw_okq (⟨"UnderstudyShowModel", "plain", "(I)V"⟩, 67) := ⟨⟨by decide +kernel, by decide +kernel⟩, List.mem_of_getElem? (i := 1074) (by decide +kernel), List.mem_of_getElem? (i := 1080) (by decide +kernel), List.mem_of_getElem? (i := 1081) (by decide +kernel)⟩
theorem lw_p50 : lw_okq (⟨"UnderstudyShowModel", "begins", "()V"⟩, 67) := ⟨⟨by decide +kernel, by decide +kernel⟩, List.mem_of_getElem? (i := 1074) (by decide +kernel), List.mem_of_getElem? (i := 1091) (by decide +kernel), List.mem_of_getElem? (i := 1092) (by decide +kernel)⟩
theorem lw_p51 : lw_okq (⟨"UnderstudyShowModel", "keepsRow", "()V"⟩, 67) := ⟨⟨by decide +kernel, by decide +kernel⟩, List.mem_of_getElem? (i := 1074) (by decide +kernel), List.mem_of_getElem? (i := 1095) (by decide +kernel), List.mem_of_getElem? (i := 1096) (by decide +kernel)⟩
theorem lw_p52 : lw_okq (⟨"UnderstudyShowModel", "put", "(I)V"⟩, 67) := ⟨⟨by decide +kernel, by decide +kernel⟩, List.mem_of_getElem? (i := 1074) (by decide +kernel), List.mem_of_getElem? (i := 1304) (by decide +kernel), List.mem_of_getElem? (i := 1305) (by decide +kernel)⟩
theorem lw_p53 : lw_okq (⟨"UnderstudyShowModel", "cut", "()V"⟩, 67) := ⟨⟨by decide +kernel, by decide +kernel⟩, List.mem_of_getElem? (i := 1074) (by decide +kernel), List.mem_of_getElem? (i := 1316) (by decide +kernel), List.mem_of_getElem? (i := 1317) (by decide +kernel)⟩
theorem lw_p54 : lw_okq (⟨"UnderstudyShowModel", "byteAt", "(I)I"⟩, 67) := ⟨⟨by decide +kernel, by decide +kernel⟩, List.mem_of_getElem? (i := 1074) (by decide +kernel), List.mem_of_getElem? (i := 1320) (by decide +kernel), List.mem_of_getElem? (i := 1321) (by decide +kernel)⟩
theorem lw_p55 : lw_okq (⟨"UnderstudyShowModel", "token", "(IIIJ)V"⟩, 67) := ⟨⟨by decide +kernel, by decide +kernel⟩, List.mem_of_getElem? (i := 1074) (by decide +kernel), List.mem_of_getElem? (i := 1324) (by decide +kernel), List.mem_of_getElem? (i := 1325) (by decide +kernel)⟩
theorem lw_p56 : lw_okq (⟨"UnderstudyShowModel", "sign", "(III)I"⟩, 67) := ⟨⟨by decide +kernel, by decide +kernel⟩, List.mem_of_getElem? (i := 1074) (by decide +kernel), List.mem_of_getElem? (i := 1334) (by decide +kernel), List.mem_of_getElem? (i := 1335) (by decide +kernel)⟩
theorem lw_p57 : lw_okq (⟨"UnderstudyShowModel", "is", "(I)Z"⟩, 67) := ⟨⟨by decide +kernel, by decide +kernel⟩, List.mem_of_getElem? (i := 1074) (by decide +kernel), List.mem_of_getElem? (i := 1338) (by decide +kernel), List.mem_of_getElem? (i := 1339) (by decide +kernel)⟩
theorem lw_p58 : lw_okq (⟨"UnderstudyShowModel", "tellOne", "()V"⟩, 67) := ⟨⟨by decide +kernel, by decide +kernel⟩, List.mem_of_getElem? (i := 1074) (by decide +kernel), List.mem_of_getElem? (i := 1342) (by decide +kernel), List.mem_of_getElem? (i := 1343) (by decide +kernel)⟩
theorem lw_p59 : lw_okq (⟨"UnderstudyShowModel", "roomFor", "(II)V"⟩, 67) := ⟨⟨by decide +kernel, by decide +kernel⟩, List.mem_of_getElem? (i := 1074) (by decide +kernel), List.mem_of_getElem? (i := 1346) (by decide +kernel), List.mem_of_getElem? (i := 1347) (by decide +kernel)⟩
theorem lw_p60 : lw_okq (⟨"UnderstudyShowModel", "fail", "(I)V"⟩, 67) := ⟨⟨by decide +kernel, by decide +kernel⟩, List.mem_of_getElem? (i := 1074) (by decide +kernel), List.mem_of_getElem? (i := 1350) (by decide +kernel), List.mem_of_getElem? (i := 1351) (by decide +kernel)⟩
theorem lw_p61 : lw_okq (⟨"UnderstudyShowModel", "goesOn", "()V"⟩, 67) := ⟨⟨by decide +kernel, by decide +kernel⟩, List.mem_of_getElem? (i := 1074) (by decide +kernel), List.mem_of_getElem? (i := 1354) (by decide +kernel), List.mem_of_getElem? (i := 1355) (by decide +kernel)⟩
theorem lw_p62 : lw_okq (⟨"UnderstudyShowModel", "named", "()I"⟩, 67) := ⟨⟨by decide +kernel, by decide +kernel⟩, List.mem_of_getElem? (i := 1074) (by decide +kernel), List.mem_of_getElem? (i := 1358) (by decide +kernel), List.mem_of_getElem? (i := 1359) (by decide +kernel)⟩
theorem lw_p63 : lw_okq (⟨"UnderstudyShowModel", "must", "(I)V"⟩, 67) := ⟨⟨by decide +kernel, by decide +kernel⟩, List.mem_of_getElem? (i := 1074) (by decide +kernel), List.mem_of_getElem? (i := 1362) (by decide +kernel), List.mem_of_getElem? (i := 1363) (by decide +kernel)⟩
def lw_privs_4 : List (MethodName × Nat) := [(⟨"UnderstudyShow", "hoursApartInCast", "()I"⟩, 14), (⟨"UnderstudyShowModel", "plain", "(I)V"⟩, 67), (⟨"UnderstudyShowModel", "begins", "()V"⟩, 67), (⟨"UnderstudyShowModel", "keepsRow", "()V"⟩, 67), (⟨"UnderstudyShowModel", "put", "(I)V"⟩, 67), (⟨"UnderstudyShowModel", "cut", "()V"⟩, 67), (⟨"UnderstudyShowModel", "byteAt", "(I)I"⟩, 67), (⟨"UnderstudyShowModel", "token", "(IIIJ)V"⟩, 67), (⟨"UnderstudyShowModel", "sign", "(III)I"⟩, 67), (⟨"UnderstudyShowModel", "is", "(I)Z"⟩, 67), (⟨"UnderstudyShowModel", "tellOne", "()V"⟩, 67), (⟨"UnderstudyShowModel", "roomFor", "(II)V"⟩, 67), (⟨"UnderstudyShowModel", "fail", "(I)V"⟩, 67), (⟨"UnderstudyShowModel", "goesOn", "()V"⟩, 67), (⟨"UnderstudyShowModel", "named", "()I"⟩, 67), (⟨"UnderstudyShowModel", "must", "(I)V"⟩, 67)]
theorem lw_r4 : ∀ q ∈ lw_privs_4, lw_okq q := List.forall_mem_cons.mpr ⟨lw_p48, List.forall_mem_cons.mpr ⟨lw_p49, List.forall_mem_cons.mpr ⟨lw_p50, List.forall_mem_cons.mpr ⟨lw_p51, List.forall_mem_cons.mpr ⟨lw_p52, List.forall_mem_cons.mpr ⟨lw_p53, List.forall_mem_cons.mpr ⟨lw_p54, List.forall_mem_cons.mpr ⟨lw_p55, List.forall_mem_cons.mpr ⟨lw_p56, List.forall_mem_cons.mpr ⟨lw_p57, List.forall_mem_cons.mpr ⟨lw_p58, List.forall_mem_cons.mpr ⟨lw_p59, List.forall_mem_cons.mpr ⟨lw_p60, List.forall_mem_cons.mpr ⟨lw_p61, List.forall_mem_cons.mpr ⟨lw_p62, List.forall_mem_cons.mpr ⟨lw_p63, fun _ h => absurd h List.not_mem_nil⟩⟩⟩⟩⟩⟩⟩⟩⟩⟩⟩⟩⟩⟩⟩⟩
theorem lw_p64 : lw_okq (⟨"UnderstudyShowModel", "wrong", "(II)V"⟩, 67) := ⟨⟨by decide +kernel, by decide +kernel⟩, List.mem_of_getElem? (i := 1074) (by decide +kernel), List.mem_of_getElem? (i := 1366) (by decide +kernel), List.mem_of_getElem? (i := 1367) (by decide +kernel)⟩
theorem lw_p65 : lw_okq (⟨"UnderstudyShowModel", "bounded", "(II)I"⟩, 67) := ⟨⟨by decide +kernel, by decide +kernel⟩, List.mem_of_getElem? (i := 1074) (by decide +kernel), List.mem_of_getElem? (i := 1370) (by decide +kernel), List.mem_of_getElem? (i := 1371) (by decide +kernel)⟩
theorem lw_p66 : lw_okq (⟨"UnderstudyShowModel", "endsName", "(I)V"⟩, 67) := ⟨⟨by decide +kernel, by decide +kernel⟩, List.mem_of_getElem? (i := 1074) (by decide +kernel), List.mem_of_getElem? (i := 1374) (by decide +kernel), List.mem_of_getElem? (i := 1375) (by decide +kernel)⟩
theorem lw_p67 : lw_okq (⟨"UnderstudyShowModel", "toldInt", "(II)I"⟩, 67) := ⟨⟨by decide +kernel, by decide +kernel⟩, List.mem_of_getElem? (i := 1074) (by decide +kernel), List.mem_of_getElem? (i := 1378) (by decide +kernel), List.mem_of_getElem? (i := 1379) (by decide +kernel)⟩
theorem lw_p68 : lw_okq (⟨"UnderstudyShowModel", "tellLaw", "(I)V"⟩, 67) := ⟨⟨by decide +kernel, by decide +kernel⟩, List.mem_of_getElem? (i := 1074) (by decide +kernel), List.mem_of_getElem? (i := 1382) (by decide +kernel), List.mem_of_getElem? (i := 1383) (by decide +kernel)⟩
theorem lw_p69 : lw_okq (⟨"UnderstudyShowModel", "expression", "()V"⟩, 67) := ⟨⟨by decide +kernel, by decide +kernel⟩, List.mem_of_getElem? (i := 1074) (by decide +kernel), List.mem_of_getElem? (i := 1386) (by decide +kernel), List.mem_of_getElem? (i := 1387) (by decide +kernel)⟩
theorem lw_p70 : lw_okq (⟨"UnderstudyShowModel", "unit", "()V"⟩, 67) := ⟨⟨by decide +kernel, by decide +kernel⟩, List.mem_of_getElem? (i := 1074) (by decide +kernel), List.mem_of_getElem? (i := 1390) (by decide +kernel), List.mem_of_getElem? (i := 1391) (by decide +kernel)⟩
theorem lw_p71 : lw_okq (⟨"UnderstudyShowModel", "emit", "(II)V"⟩, 67) := ⟨⟨by decide +kernel, by decide +kernel⟩, List.mem_of_getElem? (i := 1074) (by decide +kernel), List.mem_of_getElem? (i := 1394) (by decide +kernel), List.mem_of_getElem? (i := 1395) (by decide +kernel)⟩
theorem lw_p72 : lw_okq (⟨"UnderstudyShowModel", "comesOut", "(Z)V"⟩, 67) := ⟨⟨by decide +kernel, by decide +kernel⟩, List.mem_of_getElem? (i := 1074) (by decide +kernel), List.mem_of_getElem? (i := 1398) (by decide +kernel), List.mem_of_getElem? (i := 1399) (by decide +kernel)⟩
theorem lw_p73 : lw_okq (⟨"UnderstudyShowModel", "term", "()V"⟩, 67) := ⟨⟨by decide +kernel, by decide +kernel⟩, List.mem_of_getElem? (i := 1074) (by decide +kernel), List.mem_of_getElem? (i := 1402) (by decide +kernel), List.mem_of_getElem? (i := 1403) (by decide +kernel)⟩
theorem lw_p74 : lw_okq (⟨"UnderstudyShowModel", "isPerson", "(I)Z"⟩, 67) := ⟨⟨by decide +kernel, by decide +kernel⟩, List.mem_of_getElem? (i := 1074) (by decide +kernel), List.mem_of_getElem? (i := 1414) (by decide +kernel), List.mem_of_getElem? (i := 1415) (by decide +kernel)⟩
theorem lw_p75 : lw_okq (⟨"UnderstudyShowModel", "copies", "()V"⟩, 67) := ⟨⟨by decide +kernel, by decide +kernel⟩, List.mem_of_getElem? (i := 1074) (by decide +kernel), List.mem_of_getElem? (i := 1421) (by decide +kernel), List.mem_of_getElem? (i := 1422) (by decide +kernel)⟩
theorem lw_p76 : lw_okq (⟨"UnderstudyShowModel", "casts", "()V"⟩, 67) := ⟨⟨by decide +kernel, by decide +kernel⟩, List.mem_of_getElem? (i := 1074) (by decide +kernel), List.mem_of_getElem? (i := 1425) (by decide +kernel), List.mem_of_getElem? (i := 1426) (by decide +kernel)⟩
theorem lw_p77 : lw_okq (⟨"UnderstudyShowModel", "isOff", "(I)Z"⟩, 67) := ⟨⟨by decide +kernel, by decide +kernel⟩, List.mem_of_getElem? (i := 1074) (by decide +kernel), List.mem_of_getElem? (i := 1429) (by decide +kernel), List.mem_of_getElem? (i := 1430) (by decide +kernel)⟩
theorem lw_p78 : lw_okq (⟨"UnderstudyShowModel", "standsOf", "(II)I"⟩, 67) := ⟨⟨by decide +kernel, by decide +kernel⟩, List.mem_of_getElem? (i := 1074) (by decide +kernel), List.mem_of_getElem? (i := 1433) (by decide +kernel), List.mem_of_getElem? (i := 1434) (by decide +kernel)⟩
theorem lw_p79 : lw_okq (⟨"UnderstudyShowModel", "looks", "(II)V"⟩, 67) := ⟨⟨by decide +kernel, by decide +kernel⟩, List.mem_of_getElem? (i := 1074) (by decide +kernel), List.mem_of_getElem? (i := 1437) (by decide +kernel), List.mem_of_getElem? (i := 1438) (by decide +kernel)⟩
def lw_privs_5 : List (MethodName × Nat) := [(⟨"UnderstudyShowModel", "wrong", "(II)V"⟩, 67), (⟨"UnderstudyShowModel", "bounded", "(II)I"⟩, 67), (⟨"UnderstudyShowModel", "endsName", "(I)V"⟩, 67), (⟨"UnderstudyShowModel", "toldInt", "(II)I"⟩, 67), (⟨"UnderstudyShowModel", "tellLaw", "(I)V"⟩, 67), (⟨"UnderstudyShowModel", "expression", "()V"⟩, 67), (⟨"UnderstudyShowModel", "unit", "()V"⟩, 67), (⟨"UnderstudyShowModel", "emit", "(II)V"⟩, 67), (⟨"UnderstudyShowModel", "comesOut", "(Z)V"⟩, 67), (⟨"UnderstudyShowModel", "term", "()V"⟩, 67), (⟨"UnderstudyShowModel", "isPerson", "(I)Z"⟩, 67), (⟨"UnderstudyShowModel", "copies", "()V"⟩, 67), (⟨"UnderstudyShowModel", "casts", "()V"⟩, 67), (⟨"UnderstudyShowModel", "isOff", "(I)Z"⟩, 67), (⟨"UnderstudyShowModel", "standsOf", "(II)I"⟩, 67), (⟨"UnderstudyShowModel", "looks", "(II)V"⟩, 67)]
theorem lw_r5 : ∀ q ∈ lw_privs_5, lw_okq q := List.forall_mem_cons.mpr ⟨lw_p64, List.forall_mem_cons.mpr ⟨lw_p65, List.forall_mem_cons.mpr ⟨lw_p66, List.forall_mem_cons.mpr ⟨lw_p67, List.forall_mem_cons.mpr ⟨lw_p68, List.forall_mem_cons.mpr ⟨lw_p69, List.forall_mem_cons.mpr ⟨lw_p70, List.forall_mem_cons.mpr ⟨lw_p71, List.forall_mem_cons.mpr ⟨lw_p72, List.forall_mem_cons.mpr ⟨lw_p73, List.forall_mem_cons.mpr ⟨lw_p74, List.forall_mem_cons.mpr ⟨lw_p75, List.forall_mem_cons.mpr ⟨lw_p76, List.forall_mem_cons.mpr ⟨lw_p77, List.forall_mem_cons.mpr ⟨lw_p78, List.forall_mem_cons.mpr ⟨lw_p79, fun _ h => absurd h List.not_mem_nil⟩⟩⟩⟩⟩⟩⟩⟩⟩⟩⟩⟩⟩⟩⟩⟩
theorem lw_p80 : lw_okq (⟨"UnderstudyShowModel", "lawTells", "(II)I"⟩, 67) := ⟨⟨by decide +kernel, by decide +kernel⟩, List.mem_of_getElem? (i := 1074) (by decide +kernel), List.mem_of_getElem? (i := 1447) (by decide +kernel), List.mem_of_getElem? (i := 1448) (by decide +kernel)⟩
theorem lw_p81 : lw_okq (⟨"UnderstudyShowModel", "termOf", "(II)I"⟩, 67) := ⟨⟨by decide +kernel, by decide +kernel⟩, List.mem_of_getElem? (i := 1074) (by decide +kernel), List.mem_of_getElem? (i := 1451) (by decide +kernel), List.mem_of_getElem? (i := 1452) (by decide +kernel)⟩
theorem lw_p82 : lw_okq (⟨"UnderstudyShowModel", "castFor", "(I)I"⟩, 67) := ⟨⟨by decide +kernel, by decide +kernel⟩, List.mem_of_getElem? (i := 1074) (by decide +kernel), List.mem_of_getElem? (i := 1458) (by decide +kernel), List.mem_of_getElem? (i := 1459) (by decide +kernel)⟩
theorem lw_p83 : lw_okq (⟨"UnderstudyShowModel", "seenAny", "(I)I"⟩, 67) := ⟨⟨by decide +kernel, by decide +kernel⟩, List.mem_of_getElem? (i := 1074) (by decide +kernel), List.mem_of_getElem? (i := 1462) (by decide +kernel), List.mem_of_getElem? (i := 1463) (by decide +kernel)⟩
theorem lw_p84 : lw_okq (⟨"UnderstudyShowModel", "isPart", "(I)Z"⟩, 67) := ⟨⟨by decide +kernel, by decide +kernel⟩, List.mem_of_getElem? (i := 1074) (by decide +kernel), List.mem_of_getElem? (i := 1470) (by decide +kernel), List.mem_of_getElem? (i := 1471) (by decide +kernel)⟩
theorem lw_p85 : lw_okq (⟨"UnderstudyShowModel", "dogsOf", "(II)I"⟩, 67) := ⟨⟨by decide +kernel, by decide +kernel⟩, List.mem_of_getElem? (i := 1074) (by decide +kernel), List.mem_of_getElem? (i := 1474) (by decide +kernel), List.mem_of_getElem? (i := 1475) (by decide +kernel)⟩
theorem lw_p86 : lw_okq (⟨"UnderstudyShowModel", "writesOf", "(II)I"⟩, 67) := ⟨⟨by decide +kernel, by decide +kernel⟩, List.mem_of_getElem? (i := 1074) (by decide +kernel), List.mem_of_getElem? (i := 1482) (by decide +kernel), List.mem_of_getElem? (i := 1483) (by decide +kernel)⟩
theorem lw_p87 : lw_okq (⟨"UnderstudyShowModel", "marksOf", "(II)I"⟩, 67) := ⟨⟨by decide +kernel, by decide +kernel⟩, List.mem_of_getElem? (i := 1074) (by decide +kernel), List.mem_of_getElem? (i := 1486) (by decide +kernel), List.mem_of_getElem? (i := 1487) (by decide +kernel)⟩
theorem lw_p88 : lw_okq (⟨"UnderstudyShowModel", "does", "(II)V"⟩, 67) := ⟨⟨by decide +kernel, by decide +kernel⟩, List.mem_of_getElem? (i := 1074) (by decide +kernel), List.mem_of_getElem? (i := 1497) (by decide +kernel), List.mem_of_getElem? (i := 1498) (by decide +kernel)⟩
theorem lw_p89 : lw_okq (⟨"UnderstudyShowModel", "records", "()V"⟩, 67) := ⟨⟨by decide +kernel, by decide +kernel⟩, List.mem_of_getElem? (i := 1074) (by decide +kernel), List.mem_of_getElem? (i := 1501) (by decide +kernel), List.mem_of_getElem? (i := 1502) (by decide +kernel)⟩
theorem lw_p90 : lw_okq (⟨"UnderstudyShowModel", "goes", "(I)V"⟩, 67) := ⟨⟨by decide +kernel, by decide +kernel⟩, List.mem_of_getElem? (i := 1074) (by decide +kernel), List.mem_of_getElem? (i := 1520) (by decide +kernel), List.mem_of_getElem? (i := 1521) (by decide +kernel)⟩
theorem lw_p91 : lw_okq (⟨"UnderstudyShowModel", "dayGoes", "()V"⟩, 67) := ⟨⟨by decide +kernel, by decide +kernel⟩, List.mem_of_getElem? (i := 1074) (by decide +kernel), List.mem_of_getElem? (i := 1524) (by decide +kernel), List.mem_of_getElem? (i := 1525) (by decide +kernel)⟩
theorem lw_p92 : lw_okq (⟨"UnderstudyShowModel", "lotOf", "(I)I"⟩, 67) := ⟨⟨by decide +kernel, by decide +kernel⟩, List.mem_of_getElem? (i := 1074) (by decide +kernel), List.mem_of_getElem? (i := 1528) (by decide +kernel), List.mem_of_getElem? (i := 1529) (by decide +kernel)⟩
theorem lw_p93 : lw_okq (⟨"UnderstudyShowModel", "emptyBits", "()I"⟩, 67) := ⟨⟨by decide +kernel, by decide +kernel⟩, List.mem_of_getElem? (i := 1074) (by decide +kernel), List.mem_of_getElem? (i := 1548) (by decide +kernel), List.mem_of_getElem? (i := 1549) (by decide +kernel)⟩
theorem lw_p94 : lw_okq (⟨"UnderstudyShowModel", "fillsGiven", "()V"⟩, 67) := ⟨⟨by decide +kernel, by decide +kernel⟩, List.mem_of_getElem? (i := 1074) (by decide +kernel), List.mem_of_getElem? (i := 1556) (by decide +kernel), List.mem_of_getElem? (i := 1557) (by decide +kernel)⟩
theorem lw_p95 : lw_okq (⟨"UnderstudyShowModel", "fillsStands", "(I)V"⟩, 67) := ⟨⟨by decide +kernel, by decide +kernel⟩, List.mem_of_getElem? (i := 1074) (by decide +kernel), List.mem_of_getElem? (i := 1560) (by decide +kernel), List.mem_of_getElem? (i := 1561) (by decide +kernel)⟩
def lw_privs_6 : List (MethodName × Nat) := [(⟨"UnderstudyShowModel", "lawTells", "(II)I"⟩, 67), (⟨"UnderstudyShowModel", "termOf", "(II)I"⟩, 67), (⟨"UnderstudyShowModel", "castFor", "(I)I"⟩, 67), (⟨"UnderstudyShowModel", "seenAny", "(I)I"⟩, 67), (⟨"UnderstudyShowModel", "isPart", "(I)Z"⟩, 67), (⟨"UnderstudyShowModel", "dogsOf", "(II)I"⟩, 67), (⟨"UnderstudyShowModel", "writesOf", "(II)I"⟩, 67), (⟨"UnderstudyShowModel", "marksOf", "(II)I"⟩, 67), (⟨"UnderstudyShowModel", "does", "(II)V"⟩, 67), (⟨"UnderstudyShowModel", "records", "()V"⟩, 67), (⟨"UnderstudyShowModel", "goes", "(I)V"⟩, 67), (⟨"UnderstudyShowModel", "dayGoes", "()V"⟩, 67), (⟨"UnderstudyShowModel", "lotOf", "(I)I"⟩, 67), (⟨"UnderstudyShowModel", "emptyBits", "()I"⟩, 67), (⟨"UnderstudyShowModel", "fillsGiven", "()V"⟩, 67), (⟨"UnderstudyShowModel", "fillsStands", "(I)V"⟩, 67)]
theorem lw_r6 : ∀ q ∈ lw_privs_6, lw_okq q := List.forall_mem_cons.mpr ⟨lw_p80, List.forall_mem_cons.mpr ⟨lw_p81, List.forall_mem_cons.mpr ⟨lw_p82, List.forall_mem_cons.mpr ⟨lw_p83, List.forall_mem_cons.mpr ⟨lw_p84, List.forall_mem_cons.mpr ⟨lw_p85, List.forall_mem_cons.mpr ⟨lw_p86, List.forall_mem_cons.mpr ⟨lw_p87, List.forall_mem_cons.mpr ⟨lw_p88, List.forall_mem_cons.mpr ⟨lw_p89, List.forall_mem_cons.mpr ⟨lw_p90, List.forall_mem_cons.mpr ⟨lw_p91, List.forall_mem_cons.mpr ⟨lw_p92, List.forall_mem_cons.mpr ⟨lw_p93, List.forall_mem_cons.mpr ⟨lw_p94, List.forall_mem_cons.mpr ⟨lw_p95, fun _ h => absurd h List.not_mem_nil⟩⟩⟩⟩⟩⟩⟩⟩⟩⟩⟩⟩⟩⟩⟩⟩
theorem lw_p96 : lw_okq (⟨"UnderstudyShowModel", "ends", "(I)V"⟩, 67) := ⟨⟨by decide +kernel, by decide +kernel⟩, List.mem_of_getElem? (i := 1074) (by decide +kernel), List.mem_of_getElem? (i := 1564) (by decide +kernel), List.mem_of_getElem? (i := 1565) (by decide +kernel)⟩
theorem lw_p97 : lw_okq (⟨"UnderstudyShowModel", "isFree", "(III)Z"⟩, 67) := ⟨⟨by decide +kernel, by decide +kernel⟩, List.mem_of_getElem? (i := 1074) (by decide +kernel), List.mem_of_getElem? (i := 1568) (by decide +kernel), List.mem_of_getElem? (i := 1569) (by decide +kernel)⟩
theorem lw_p98 : lw_okq (⟨"UnderstudyShowModel", "with", "(III)I"⟩, 67) := ⟨⟨by decide +kernel, by decide +kernel⟩, List.mem_of_getElem? (i := 1074) (by decide +kernel), List.mem_of_getElem? (i := 1572) (by decide +kernel), List.mem_of_getElem? (i := 1573) (by decide +kernel)⟩
theorem lw_p99 : lw_okq (⟨"UnderstudyShowModel", "lowestFor", "(II)I"⟩, 67) := ⟨⟨by decide +kernel, by decide +kernel⟩, List.mem_of_getElem? (i := 1074) (by decide +kernel), List.mem_of_getElem? (i := 1576) (by decide +kernel), List.mem_of_getElem? (i := 1577) (by decide +kernel)⟩
theorem lw_p100 : lw_okq (⟨"UnderstudyShowModel", "costsOf", "(II)I"⟩, 67) := ⟨⟨by decide +kernel, by decide +kernel⟩, List.mem_of_getElem? (i := 1074) (by decide +kernel), List.mem_of_getElem? (i := 1584) (by decide +kernel), List.mem_of_getElem? (i := 1585) (by decide +kernel)⟩
theorem lw_p101 : lw_okq (⟨"UnderstudyShowModel", "wouldRather", "(II)Z"⟩, 67) := ⟨⟨by decide +kernel, by decide +kernel⟩, List.mem_of_getElem? (i := 1074) (by decide +kernel), List.mem_of_getElem? (i := 1605) (by decide +kernel), List.mem_of_getElem? (i := 1606) (by decide +kernel)⟩
theorem lw_p102 : lw_okq (⟨"UnderstudyShowModel", "sumCast", "()I"⟩, 67) := ⟨⟨by decide +kernel, by decide +kernel⟩, List.mem_of_getElem? (i := 1074) (by decide +kernel), List.mem_of_getElem? (i := 1613) (by decide +kernel), List.mem_of_getElem? (i := 1614) (by decide +kernel)⟩
theorem lw_p103 : lw_okq (⟨"UnderstudyShowModel", "standsAll", "()I"⟩, 67) := ⟨⟨by decide +kernel, by decide +kernel⟩, List.mem_of_getElem? (i := 1074) (by decide +kernel), List.mem_of_getElem? (i := 1617) (by decide +kernel), List.mem_of_getElem? (i := 1618) (by decide +kernel)⟩
theorem lw_p104 : lw_okq (⟨"UnderstudyShowModel", "seenAs", "(II)I"⟩, 67) := ⟨⟨by decide +kernel, by decide +kernel⟩, List.mem_of_getElem? (i := 1074) (by decide +kernel), List.mem_of_getElem? (i := 1645) (by decide +kernel), List.mem_of_getElem? (i := 1646) (by decide +kernel)⟩
theorem lw_p105 : lw_okq (⟨"UnderstudyShowModel", "copiesStill", "()V"⟩, 67) := ⟨⟨by decide +kernel, by decide +kernel⟩, List.mem_of_getElem? (i := 1074) (by decide +kernel), List.mem_of_getElem? (i := 1657) (by decide +kernel), List.mem_of_getElem? (i := 1658) (by decide +kernel)⟩
theorem lw_p106 : lw_okq (⟨"UnderstudyShowModel", "isChanged", "()Z"⟩, 67) := ⟨⟨by decide +kernel, by decide +kernel⟩, List.mem_of_getElem? (i := 1074) (by decide +kernel), List.mem_of_getElem? (i := 1661) (by decide +kernel), List.mem_of_getElem? (i := 1662) (by decide +kernel)⟩
theorem lw_p107 : lw_okq (⟨"UnderstudyShowModel", "pairAlike", "()I"⟩, 67) := ⟨⟨by decide +kernel, by decide +kernel⟩, List.mem_of_getElem? (i := 1074) (by decide +kernel), List.mem_of_getElem? (i := 1676) (by decide +kernel), List.mem_of_getElem? (i := 1677) (by decide +kernel)⟩
theorem lw_p108 : lw_okq (⟨"UnderstudyShowModel", "whoBits", "(I)I"⟩, 67) := ⟨⟨by decide +kernel, by decide +kernel⟩, List.mem_of_getElem? (i := 1074) (by decide +kernel), List.mem_of_getElem? (i := 1712) (by decide +kernel), List.mem_of_getElem? (i := 1713) (by decide +kernel)⟩
theorem lw_p109 : lw_okq (⟨"UnderstudyShowModel", "apartAll", "()I"⟩, 67) := ⟨⟨by decide +kernel, by decide +kernel⟩, List.mem_of_getElem? (i := 1074) (by decide +kernel), List.mem_of_getElem? (i := 1732) (by decide +kernel), List.mem_of_getElem? (i := 1733) (by decide +kernel)⟩
def lw_privs_7 : List (MethodName × Nat) := [(⟨"UnderstudyShowModel", "ends", "(I)V"⟩, 67), (⟨"UnderstudyShowModel", "isFree", "(III)Z"⟩, 67), (⟨"UnderstudyShowModel", "with", "(III)I"⟩, 67), (⟨"UnderstudyShowModel", "lowestFor", "(II)I"⟩, 67), (⟨"UnderstudyShowModel", "costsOf", "(II)I"⟩, 67), (⟨"UnderstudyShowModel", "wouldRather", "(II)Z"⟩, 67), (⟨"UnderstudyShowModel", "sumCast", "()I"⟩, 67), (⟨"UnderstudyShowModel", "standsAll", "()I"⟩, 67), (⟨"UnderstudyShowModel", "seenAs", "(II)I"⟩, 67), (⟨"UnderstudyShowModel", "copiesStill", "()V"⟩, 67), (⟨"UnderstudyShowModel", "isChanged", "()Z"⟩, 67), (⟨"UnderstudyShowModel", "pairAlike", "()I"⟩, 67), (⟨"UnderstudyShowModel", "whoBits", "(I)I"⟩, 67), (⟨"UnderstudyShowModel", "apartAll", "()I"⟩, 67)]
theorem lw_r7 : ∀ q ∈ lw_privs_7, lw_okq q := List.forall_mem_cons.mpr ⟨lw_p96, List.forall_mem_cons.mpr ⟨lw_p97, List.forall_mem_cons.mpr ⟨lw_p98, List.forall_mem_cons.mpr ⟨lw_p99, List.forall_mem_cons.mpr ⟨lw_p100, List.forall_mem_cons.mpr ⟨lw_p101, List.forall_mem_cons.mpr ⟨lw_p102, List.forall_mem_cons.mpr ⟨lw_p103, List.forall_mem_cons.mpr ⟨lw_p104, List.forall_mem_cons.mpr ⟨lw_p105, List.forall_mem_cons.mpr ⟨lw_p106, List.forall_mem_cons.mpr ⟨lw_p107, List.forall_mem_cons.mpr ⟨lw_p108, List.forall_mem_cons.mpr ⟨lw_p109, fun _ h => absurd h List.not_mem_nil⟩⟩⟩⟩⟩⟩⟩⟩⟩⟩⟩⟩⟩⟩
def lw_privs : List (MethodName × Nat) := lw_privs_1 ++ (lw_privs_2 ++ (lw_privs_3 ++ (lw_privs_4 ++ (lw_privs_5 ++ (lw_privs_6 ++ (lw_privs_7))))))
def lw_tbl : List Cond := k2_sels lw_privs ++ tables_1
theorem lw_privs_ok : ∀ q ∈ lw_privs, lw_okq q := by
  show ∀ q ∈ lw_privs_1 ++ (lw_privs_2 ++ (lw_privs_3 ++ (lw_privs_4 ++ (lw_privs_5 ++ (lw_privs_6 ++ (lw_privs_7)))))), lw_okq q
  exact List.forall_mem_append.mpr ⟨lw_r1, List.forall_mem_append.mpr ⟨lw_r2, List.forall_mem_append.mpr ⟨lw_r3, List.forall_mem_append.mpr ⟨lw_r4, List.forall_mem_append.mpr ⟨lw_r5, List.forall_mem_append.mpr ⟨lw_r6, lw_r7⟩⟩⟩⟩⟩⟩

def RX0 : String := "UnderstudyShow$Cast"
def TX0 : u_T := fun k => match k with
  | 0 => ("UnderstudyShow$Cast", "who", "[I", true)
  | 1 => ("UnderstudyShow$Cast", "as", "[I", true)
  | 2 => ("UnderstudyShow$Cast", "filled", "I", false)
  | _ => ("UnderstudyShow$Cast", "stands", "I", false)
def tyX0 : Nat → FieldType := fun k => match k with
  | 0 => .array .int
  | 1 => .array .int
  | 2 => .int
  | _ => .int
theorem nmX0 : ∀ a, a < 4 → ∀ b, b < 4 → a ≠ b → (TX0 a).2.1 ≠ (TX0 b).2.1 := by decide +kernel
theorem tyX0_ok : ∀ k, k < 4 → parseFieldDescriptor (TX0 k).2.2.1 = some (tyX0 k) := by decide +kernel
abbrev cX0_init : ByteArray := prog_2_method_1_code
def yX0_init : MethodName := ⟨RX0, "<init>", "()V"⟩
abbrev cX0_fill : ByteArray := prog_2_method_2_code
def yX0_fill : MethodName := ⟨RX0, "fill", "(LUnderstudyShow$Script;LUnderstudyShow$State;)V"⟩
abbrev cX0_fillPart : ByteArray := prog_2_method_3_code
def yX0_fillPart : MethodName := ⟨RX0, "fillPart", "(LUnderstudyShow$Script;LUnderstudyShow$State;I)V"⟩
abbrev cX0_emptyParts : ByteArray := prog_2_method_4_code
def yX0_emptyParts : MethodName := ⟨RX0, "emptyParts", "(I)I"⟩
abbrev cX0_passDays : ByteArray := prog_2_method_5_code
def yX0_passDays : MethodName := ⟨RX0, "passDays", "(LUnderstudyShow$Script;LUnderstudyShow$State;IIZ)Z"⟩
abbrev cX0_playParts : ByteArray := prog_2_method_6_code
def yX0_playParts : MethodName := ⟨RX0, "playParts", "(LUnderstudyShow$Script;LUnderstudyShow$State;IZ)Z"⟩
abbrev cX0_playPart : ByteArray := prog_2_method_7_code
def yX0_playPart : MethodName := ⟨RX0, "playPart", "(LUnderstudyShow$Script;LUnderstudyShow$State;IZ)V"⟩
abbrev cX0_isDogOut : ByteArray := prog_2_method_8_code
def yX0_isDogOut : MethodName := ⟨RX0, "isDogOut", "(LUnderstudyShow$Script;LUnderstudyShow$State;II)Z"⟩
abbrev cX0_lot : ByteArray := prog_2_method_9_code
def yX0_lot : MethodName := ⟨RX0, "lot", "(II)I"⟩
abbrev cX0_stirred : ByteArray := prog_2_method_10_code
def yX0_stirred : MethodName := ⟨RX0, "stirred", "(II)I"⟩
def RX1 : String := "UnderstudyShow$Giving"
def TX1 : u_T := fun k => match k with
  | 0 => ("UnderstudyShow$Giving", "worths", "[I", true)
  | 1 => ("UnderstudyShow$Giving", "sets", "[I", true)
  | 2 => ("UnderstudyShow$Giving", "mosts", "[I", true)
  | 3 => ("UnderstudyShow$Giving", "people", "I", false)
  | _ => ("UnderstudyShow$Giving", "parts", "I", false)
def tyX1 : Nat → FieldType := fun k => match k with
  | 0 => .array .int
  | 1 => .array .int
  | 2 => .array .int
  | 3 => .int
  | _ => .int
theorem nmX1 : ∀ a, a < 5 → ∀ b, b < 5 → a ≠ b → (TX1 a).2.1 ≠ (TX1 b).2.1 := by decide +kernel
theorem tyX1_ok : ∀ k, k < 5 → parseFieldDescriptor (TX1 k).2.2.1 = some (tyX1 k) := by decide +kernel
abbrev cX1_init : ByteArray := prog_3_method_1_code
def yX1_init : MethodName := ⟨RX1, "<init>", "()V"⟩
abbrev cX1_begin : ByteArray := prog_3_method_2_code
def yX1_begin : MethodName := ⟨RX1, "begin", "(LUnderstudyShow$Script;)V"⟩
abbrev cX1_put : ByteArray := prog_3_method_3_code
def yX1_put : MethodName := ⟨RX1, "put", "(III)V"⟩
abbrev cX1_tellWhoCan : ByteArray := prog_3_method_4_code
def yX1_tellWhoCan : MethodName := ⟨RX1, "tellWhoCan", "(LUnderstudyShow$Script;LUnderstudyShow$State;)V"⟩
abbrev cX1_tellAllWhoAreThere : ByteArray := prog_3_method_5_code
def yX1_tellAllWhoAreThere : MethodName := ⟨RX1, "tellAllWhoAreThere", "(LUnderstudyShow$Script;LUnderstudyShow$State;)V"⟩
abbrev cX1_tellStands : ByteArray := prog_3_method_6_code
def yX1_tellStands : MethodName := ⟨RX1, "tellStands", "(LUnderstudyShow$Script;LUnderstudyShow$State;I)V"⟩
abbrev cX1_canBe : ByteArray := prog_3_method_7_code
def yX1_canBe : MethodName := ⟨RX1, "canBe", "(III)Z"⟩
abbrev cX1_most : ByteArray := prog_3_method_8_code
def yX1_most : MethodName := ⟨RX1, "most", "()I"⟩
abbrev cX1_mostFrom : ByteArray := prog_3_method_9_code
def yX1_mostFrom : MethodName := ⟨RX1, "mostFrom", "(II)I"⟩
abbrev cX1_mostWith : ByteArray := prog_3_method_10_code
def yX1_mostWith : MethodName := ⟨RX1, "mostWith", "(III)I"⟩
abbrev cX1_toWhom : ByteArray := prog_3_method_11_code
def yX1_toWhom : MethodName := ⟨RX1, "toWhom", "(I)I"⟩
abbrev cX1_firstOfMost : ByteArray := prog_3_method_12_code
def yX1_firstOfMost : MethodName := ⟨RX1, "firstOfMost", "(II)I"⟩
abbrev cX1_howMany : ByteArray := prog_3_method_13_code
def yX1_howMany : MethodName := ⟨RX1, "howMany", "()I"⟩
abbrev cX1_greatestLeast : ByteArray := prog_3_method_14_code
def yX1_greatestLeast : MethodName := ⟨RX1, "greatestLeast", "()I"⟩
abbrev cX1_fewest : ByteArray := prog_3_method_15_code
def yX1_fewest : MethodName := ⟨RX1, "fewest", "()I"⟩
abbrev cX1_overAllWays : ByteArray := prog_3_method_16_code
def yX1_overAllWays : MethodName := ⟨RX1, "overAllWays", "(II)I"⟩
abbrev cX1_giveNext : ByteArray := prog_3_method_17_code
def yX1_giveNext : MethodName := ⟨RX1, "giveNext", "(III)V"⟩
abbrev cX1_further : ByteArray := prog_3_method_18_code
def yX1_further : MethodName := ⟨RX1, "further", "(III)I"⟩
abbrev cX1_better : ByteArray := prog_3_method_19_code
def yX1_better : MethodName := ⟨RX1, "better", "(III)I"⟩
def RX2 : String := "UnderstudyShow$Law"
def TX2 : u_T := fun k => match k with
  | 0 => ("UnderstudyShow$Law", "steps", "[I", true)
  | 1 => ("UnderstudyShow$Law", "starts", "[I", true)
  | 2 => ("UnderstudyShow$Law", "stack", "[I", true)
  | 3 => ("UnderstudyShow$Law", "sums", "I", false)
  | _ => ("UnderstudyShow$Law", "used", "I", false)
def tyX2 : Nat → FieldType := fun k => match k with
  | 0 => .array .int
  | 1 => .array .int
  | 2 => .array .int
  | 3 => .int
  | _ => .int
theorem nmX2 : ∀ a, a < 5 → ∀ b, b < 5 → a ≠ b → (TX2 a).2.1 ≠ (TX2 b).2.1 := by decide +kernel
theorem tyX2_ok : ∀ k, k < 5 → parseFieldDescriptor (TX2 k).2.2.1 = some (tyX2 k) := by decide +kernel
abbrev cX2_init : ByteArray := prog_4_method_1_code
def yX2_init : MethodName := ⟨RX2, "<init>", "()V"⟩
abbrev cX2_clear : ByteArray := prog_4_method_2_code
def yX2_clear : MethodName := ⟨RX2, "clear", "()V"⟩
abbrev cX2_put : ByteArray := prog_4_method_3_code
def yX2_put : MethodName := ⟨RX2, "put", "(I)V"⟩
abbrev cX2_endSum : ByteArray := prog_4_method_4_code
def yX2_endSum : MethodName := ⟨RX2, "endSum", "()V"⟩
abbrev cX2_setNumber : ByteArray := prog_4_method_5_code
def yX2_setNumber : MethodName := ⟨RX2, "setNumber", "(I)V"⟩
abbrev cX2_setNumberLess : ByteArray := prog_4_method_6_code
def yX2_setNumberLess : MethodName := ⟨RX2, "setNumberLess", "(III)V"⟩
abbrev cX2_worth : ByteArray := prog_4_method_7_code
def yX2_worth : MethodName := ⟨RX2, "worth", "([II)I"⟩
abbrev cX2_heldTo : ByteArray := prog_4_method_8_code
def yX2_heldTo : MethodName := ⟨RX2, "heldTo", "(JI)I"⟩
abbrev cX2_worthOfSum : ByteArray := prog_4_method_9_code
def yX2_worthOfSum : MethodName := ⟨RX2, "worthOfSum", "(I[I)J"⟩
abbrev cX2_joined : ByteArray := prog_4_method_10_code
def yX2_joined : MethodName := ⟨RX2, "joined", "(III)I"⟩
def RX3 : String := "UnderstudyShow$Past"
def TX3 : u_T := fun k => match k with
  | 0 => ("UnderstudyShow$Past", "states", "[LUnderstudyShow$State;", true)
  | 1 => ("UnderstudyShow$Past", "next", "I", false)
  | _ => ("UnderstudyShow$Past", "many", "I", false)
def tyX3 : Nat → FieldType := fun k => match k with
  | 0 => .array (.object "UnderstudyShow$State")
  | 1 => .int
  | _ => .int
theorem nmX3 : ∀ a, a < 3 → ∀ b, b < 3 → a ≠ b → (TX3 a).2.1 ≠ (TX3 b).2.1 := by decide +kernel
theorem tyX3_ok : ∀ k, k < 3 → parseFieldDescriptor (TX3 k).2.2.1 = some (tyX3 k) := by decide +kernel
abbrev cX3_init : ByteArray := prog_5_method_1_code
def yX3_init : MethodName := ⟨RX3, "<init>", "()V"⟩
abbrev cX3_clear : ByteArray := prog_5_method_2_code
def yX3_clear : MethodName := ⟨RX3, "clear", "()V"⟩
abbrev cX3_remember : ByteArray := prog_5_method_3_code
def yX3_remember : MethodName := ⟨RX3, "remember", "(LUnderstudyShow$State;)V"⟩
abbrev cX3_takeBack : ByteArray := prog_5_method_4_code
def yX3_takeBack : MethodName := ⟨RX3, "takeBack", "(LUnderstudyShow$State;)Z"⟩
def RX4 : String := "UnderstudyShow$Reader"
def TX4 : u_T := fun k => match k with
  | 0 => ("UnderstudyShow$Reader", "tokens", "LUnderstudyShow$Tokens;", true)
  | 1 => ("UnderstudyShow$Reader", "waiting", "[I", true)
  | 2 => ("UnderstudyShow$Reader", "waitingMany", "I", false)
  | 3 => ("UnderstudyShow$Reader", "at", "I", false)
  | 4 => ("UnderstudyShow$Reader", "fault", "I", false)
  | 5 => ("UnderstudyShow$Reader", "faultPlace", "I", false)
  | 6 => ("UnderstudyShow$Reader", "laterFault", "I", false)
  | _ => ("UnderstudyShow$Reader", "laterPlace", "I", false)
def tyX4 : Nat → FieldType := fun k => match k with
  | 0 => .object "UnderstudyShow$Tokens"
  | 1 => .array .int
  | 2 => .int
  | 3 => .int
  | 4 => .int
  | 5 => .int
  | 6 => .int
  | _ => .int
theorem nmX4 : ∀ a, a < 8 → ∀ b, b < 8 → a ≠ b → (TX4 a).2.1 ≠ (TX4 b).2.1 := by decide +kernel
theorem tyX4_ok : ∀ k, k < 8 → parseFieldDescriptor (TX4 k).2.2.1 = some (tyX4 k) := by decide +kernel
abbrev cX4_init : ByteArray := prog_6_method_1_code
def yX4_init : MethodName := ⟨RX4, "<init>", "()V"⟩
abbrev cX4_readText : ByteArray := prog_6_method_2_code
def yX4_readText : MethodName := ⟨RX4, "readText", "([BILUnderstudyShow$Script;)I"⟩
abbrev cX4_sort : ByteArray := prog_6_method_3_code
def yX4_sort : MethodName := ⟨RX4, "sort", "()I"⟩
abbrev cX4_fail : ByteArray := prog_6_method_4_code
def yX4_fail : MethodName := ⟨RX4, "fail", "(I)V"⟩
abbrev cX4_failLater : ByteArray := prog_6_method_5_code
def yX4_failLater : MethodName := ⟨RX4, "failLater", "(I)V"⟩
abbrev cX4_take : ByteArray := prog_6_method_6_code
def yX4_take : MethodName := ⟨RX4, "take", "()V"⟩
abbrev cX4_expect : ByteArray := prog_6_method_7_code
def yX4_expect : MethodName := ⟨RX4, "expect", "(I)V"⟩
abbrev cX4_readTell : ByteArray := prog_6_method_8_code
def yX4_readTell : MethodName := ⟨RX4, "readTell", "(LUnderstudyShow$Script;)V"⟩
abbrev cX4_readFigure : ByteArray := prog_6_method_9_code
def yX4_readFigure : MethodName := ⟨RX4, "readFigure", "(LUnderstudyShow$Script;Z)V"⟩
abbrev cX4_readName : ByteArray := prog_6_method_10_code
def yX4_readName : MethodName := ⟨RX4, "readName", "(LUnderstudyShow$Script;)J"⟩
abbrev cX4_readNumber : ByteArray := prog_6_method_11_code
def yX4_readNumber : MethodName := ⟨RX4, "readNumber", "(I)I"⟩
abbrev cX4_readLaw : ByteArray := prog_6_method_12_code
def yX4_readLaw : MethodName := ⟨RX4, "readLaw", "(LUnderstudyShow$Law;)V"⟩
abbrev cX4_readSum : ByteArray := prog_6_method_13_code
def yX4_readSum : MethodName := ⟨RX4, "readSum", "(LUnderstudyShow$Law;)V"⟩
abbrev cX4_readUnit : ByteArray := prog_6_method_14_code
def yX4_readUnit : MethodName := ⟨RX4, "readUnit", "(LUnderstudyShow$Law;)V"⟩
abbrev cX4_waitFor : ByteArray := prog_6_method_15_code
def yX4_waitFor : MethodName := ⟨RX4, "waitFor", "(I)V"⟩
abbrev cX4_rank : ByteArray := prog_6_method_16_code
def yX4_rank : MethodName := ⟨RX4, "rank", "(I)I"⟩
abbrev cX4_putWaiting : ByteArray := prog_6_method_17_code
def yX4_putWaiting : MethodName := ⟨RX4, "putWaiting", "(LUnderstudyShow$Law;I)V"⟩
def RX5 : String := "UnderstudyShow$Script"
def TX5 : u_T := fun k => match k with
  | 0 => ("UnderstudyShow$Script", "names", "[J", true)
  | 1 => ("UnderstudyShow$Script", "hours", "[I", true)
  | 2 => ("UnderstudyShow$Script", "kinds", "[I", true)
  | 3 => ("UnderstudyShow$Script", "sizes", "[I", true)
  | 4 => ("UnderstudyShow$Script", "partHours", "[I", true)
  | 5 => ("UnderstudyShow$Script", "partKinds", "[I", true)
  | 6 => ("UnderstudyShow$Script", "partSizes", "[I", true)
  | 7 => ("UnderstudyShow$Script", "laws", "[LUnderstudyShow$Law;", true)
  | 8 => ("UnderstudyShow$Script", "facts", "[I", true)
  | 9 => ("UnderstudyShow$Script", "people", "I", false)
  | 10 => ("UnderstudyShow$Script", "parts", "I", false)
  | 11 => ("UnderstudyShow$Script", "least", "I", false)
  | _ => ("UnderstudyShow$Script", "seed", "I", false)
def tyX5 : Nat → FieldType := fun k => match k with
  | 0 => .array .long
  | 1 => .array .int
  | 2 => .array .int
  | 3 => .array .int
  | 4 => .array .int
  | 5 => .array .int
  | 6 => .array .int
  | 7 => .array (.object "UnderstudyShow$Law")
  | 8 => .array .int
  | 9 => .int
  | 10 => .int
  | 11 => .int
  | _ => .int
theorem nmX5 : ∀ a, a < 13 → ∀ b, b < 13 → a ≠ b → (TX5 a).2.1 ≠ (TX5 b).2.1 := by decide +kernel
theorem tyX5_ok : ∀ k, k < 13 → parseFieldDescriptor (TX5 k).2.2.1 = some (tyX5 k) := by decide +kernel
abbrev cX5_init : ByteArray := prog_7_method_1_code
def yX5_init : MethodName := ⟨RX5, "<init>", "()V"⟩
abbrev cX5_clear : ByteArray := prog_7_method_2_code
def yX5_clear : MethodName := ⟨RX5, "clear", "()V"⟩
abbrev cX5_hasName : ByteArray := prog_7_method_3_code
def yX5_hasName : MethodName := ⟨RX5, "hasName", "(J)Z"⟩
abbrev cX5_addPerson : ByteArray := prog_7_method_4_code
def yX5_addPerson : MethodName := ⟨RX5, "addPerson", "(JIII)V"⟩
abbrev cX5_addPart : ByteArray := prog_7_method_5_code
def yX5_addPart : MethodName := ⟨RX5, "addPart", "(JIII)V"⟩
abbrev cX5_measure : ByteArray := prog_7_method_6_code
def yX5_measure : MethodName := ⟨RX5, "measure", "(ILUnderstudyShow$State;II)I"⟩
def RX6 : String := "UnderstudyShow$State"
def TX6 : u_T := fun k => match k with
  | 0 => ("UnderstudyShow$State", "hours", "[I", true)
  | 1 => ("UnderstudyShow$State", "partHours", "[I", true)
  | 2 => ("UnderstudyShow$State", "marks", "[I", true)
  | 3 => ("UnderstudyShow$State", "seen", "[I", true)
  | 4 => ("UnderstudyShow$State", "off", "I", false)
  | 5 => ("UnderstudyShow$State", "day", "I", false)
  | _ => ("UnderstudyShow$State", "dogs", "I", false)
def tyX6 : Nat → FieldType := fun k => match k with
  | 0 => .array .int
  | 1 => .array .int
  | 2 => .array .int
  | 3 => .array .int
  | 4 => .int
  | 5 => .int
  | _ => .int
theorem nmX6 : ∀ a, a < 7 → ∀ b, b < 7 → a ≠ b → (TX6 a).2.1 ≠ (TX6 b).2.1 := by decide +kernel
theorem tyX6_ok : ∀ k, k < 7 → parseFieldDescriptor (TX6 k).2.2.1 = some (tyX6 k) := by decide +kernel
abbrev cX6_init : ByteArray := prog_8_method_1_code
def yX6_init : MethodName := ⟨RX6, "<init>", "()V"⟩
abbrev cX6_begin : ByteArray := prog_8_method_2_code
def yX6_begin : MethodName := ⟨RX6, "begin", "(LUnderstudyShow$Script;)V"⟩
abbrev cX6_copyFrom : ByteArray := prog_8_method_3_code
def yX6_copyFrom : MethodName := ⟨RX6, "copyFrom", "(LUnderstudyShow$State;)V"⟩
abbrev cX6_isOff : ByteArray := prog_8_method_4_code
def yX6_isOff : MethodName := ⟨RX6, "isOff", "(I)Z"⟩
abbrev cX6_seenAs : ByteArray := prog_8_method_5_code
def yX6_seenAs : MethodName := ⟨RX6, "seenAs", "(II)I"⟩
abbrev cX6_seeAndMark : ByteArray := prog_8_method_6_code
def yX6_seeAndMark : MethodName := ⟨RX6, "seeAndMark", "(III)V"⟩
abbrev cX6_goNearer : ByteArray := prog_8_method_7_code
def yX6_goNearer : MethodName := ⟨RX6, "goNearer", "(II)V"⟩
def RX7 : String := "UnderstudyShow$Tokens"
def TX7 : u_T := fun k => match k with
  | 0 => ("UnderstudyShow$Tokens", "sorts", "[I", true)
  | 1 => ("UnderstudyShow$Tokens", "places", "[I", true)
  | 2 => ("UnderstudyShow$Tokens", "numbers", "[I", true)
  | _ => ("UnderstudyShow$Tokens", "spellings", "[J", true)
def tyX7 : Nat → FieldType := fun k => match k with
  | 0 => .array .int
  | 1 => .array .int
  | 2 => .array .int
  | _ => .array .long
theorem nmX7 : ∀ a, a < 4 → ∀ b, b < 4 → a ≠ b → (TX7 a).2.1 ≠ (TX7 b).2.1 := by decide +kernel
theorem tyX7_ok : ∀ k, k < 4 → parseFieldDescriptor (TX7 k).2.2.1 = some (tyX7 k) := by decide +kernel
abbrev cX7_init : ByteArray := prog_9_method_1_code
def yX7_init : MethodName := ⟨RX7, "<init>", "()V"⟩
abbrev cX7_cut : ByteArray := prog_9_method_2_code
def yX7_cut : MethodName := ⟨RX7, "cut", "([BI)V"⟩
abbrev cX7_byteAt : ByteArray := prog_9_method_3_code
def yX7_byteAt : MethodName := ⟨RX7, "byteAt", "([BII)I"⟩
abbrev cX7_isBlank : ByteArray := prog_9_method_4_code
def yX7_isBlank : MethodName := ⟨RX7, "isBlank", "(I)Z"⟩
abbrev cX7_isLetter : ByteArray := prog_9_method_5_code
def yX7_isLetter : MethodName := ⟨RX7, "isLetter", "(I)Z"⟩
abbrev cX7_isDigit : ByteArray := prog_9_method_6_code
def yX7_isDigit : MethodName := ⟨RX7, "isDigit", "(I)Z"⟩
abbrev cX7_behindBlanks : ByteArray := prog_9_method_7_code
def yX7_behindBlanks : MethodName := ⟨RX7, "behindBlanks", "([BII)I"⟩
abbrev cX7_cutOne : ByteArray := prog_9_method_8_code
def yX7_cutOne : MethodName := ⟨RX7, "cutOne", "([BIII)I"⟩
abbrev cX7_cutLetters : ByteArray := prog_9_method_9_code
def yX7_cutLetters : MethodName := ⟨RX7, "cutLetters", "([BIII)I"⟩
abbrev cX7_cutDigits : ByteArray := prog_9_method_10_code
def yX7_cutDigits : MethodName := ⟨RX7, "cutDigits", "([BIII)I"⟩
abbrev cX7_sortOf : ByteArray := prog_9_method_11_code
def yX7_sortOf : MethodName := ⟨RX7, "sortOf", "(J)I"⟩
abbrev cX7_spellingOf : ByteArray := prog_9_method_12_code
def yX7_spellingOf : MethodName := ⟨RX7, "spellingOf", "(I)J"⟩
def RX8 : String := "UnderstudyShow$Told"
def TX8 : u_T := fun k => match k with
  | 0 => ("UnderstudyShow$Told", "parts", "[I", true)
  | 1 => ("UnderstudyShow$Told", "worths", "[I", true)
  | 2 => ("UnderstudyShow$Told", "so", "[Z", true)
  | _ => ("UnderstudyShow$Told", "many", "I", false)
def tyX8 : Nat → FieldType := fun k => match k with
  | 0 => .array .int
  | 1 => .array .int
  | 2 => .array .boolean
  | _ => .int
theorem nmX8 : ∀ a, a < 4 → ∀ b, b < 4 → a ≠ b → (TX8 a).2.1 ≠ (TX8 b).2.1 := by decide +kernel
theorem tyX8_ok : ∀ k, k < 4 → parseFieldDescriptor (TX8 k).2.2.1 = some (tyX8 k) := by decide +kernel
abbrev cX8_init : ByteArray := prog_10_method_1_code
def yX8_init : MethodName := ⟨RX8, "<init>", "()V"⟩
abbrev cX8_clear : ByteArray := prog_10_method_2_code
def yX8_clear : MethodName := ⟨RX8, "clear", "()V"⟩
abbrev cX8_add : ByteArray := prog_10_method_3_code
def yX8_add : MethodName := ⟨RX8, "add", "(IIZ)I"⟩
abbrev cX8_whoIsLeft : ByteArray := prog_10_method_4_code
def yX8_whoIsLeft : MethodName := ⟨RX8, "whoIsLeft", "(ILUnderstudyShow$Script;LUnderstudyShow$State;)I"⟩
abbrev cX8_fits : ByteArray := prog_10_method_5_code
def yX8_fits : MethodName := ⟨RX8, "fits", "(ILUnderstudyShow$Script;LUnderstudyShow$State;I)Z"⟩
def RX9 : String := "UnderstudyShow"
def TX9 : u_T := fun k => match k with
  | 0 => ("UnderstudyShow", "tape", "[B", true)
  | 1 => ("UnderstudyShow", "tapeLength", "I", false)
  | 2 => ("UnderstudyShow", "reader", "LUnderstudyShow$Reader;", true)
  | 3 => ("UnderstudyShow", "latestPlace", "I", false)
  | 4 => ("UnderstudyShow", "script", "LUnderstudyShow$Script;", false)
  | 5 => ("UnderstudyShow", "draft", "LUnderstudyShow$Script;", false)
  | 6 => ("UnderstudyShow", "now", "LUnderstudyShow$State;", true)
  | 7 => ("UnderstudyShow", "maybe", "LUnderstudyShow$State;", true)
  | 8 => ("UnderstudyShow", "cast", "LUnderstudyShow$Cast;", true)
  | 9 => ("UnderstudyShow", "giving", "LUnderstudyShow$Giving;", true)
  | 10 => ("UnderstudyShow", "past", "LUnderstudyShow$Past;", true)
  | 11 => ("UnderstudyShow", "told", "LUnderstudyShow$Told;", true)
  | 12 => ("UnderstudyShow", "slots", "[LUnderstudyShow$State;", true)
  | _ => ("UnderstudyShow", "held", "[Z", true)
def tyX9 : Nat → FieldType := fun k => match k with
  | 0 => .array .byte
  | 1 => .int
  | 2 => .object "UnderstudyShow$Reader"
  | 3 => .int
  | 4 => .object "UnderstudyShow$Script"
  | 5 => .object "UnderstudyShow$Script"
  | 6 => .object "UnderstudyShow$State"
  | 7 => .object "UnderstudyShow$State"
  | 8 => .object "UnderstudyShow$Cast"
  | 9 => .object "UnderstudyShow$Giving"
  | 10 => .object "UnderstudyShow$Past"
  | 11 => .object "UnderstudyShow$Told"
  | 12 => .array (.object "UnderstudyShow$State")
  | _ => .array .boolean
theorem nmX9 : ∀ a, a < 14 → ∀ b, b < 14 → a ≠ b → (TX9 a).2.1 ≠ (TX9 b).2.1 := by decide +kernel
theorem tyX9_ok : ∀ k, k < 14 → parseFieldDescriptor (TX9 k).2.2.1 = some (tyX9 k) := by decide +kernel
abbrev cX9_init : ByteArray := prog_1_method_1_code
def yX9_init : MethodName := ⟨RX9, "<init>", "()V"⟩
abbrev cX9_feed : ByteArray := prog_1_method_2_code
def yX9_feed : MethodName := ⟨RX9, "feed", "(IIIII)I"⟩
abbrev cX9_putFourBytes : ByteArray := prog_1_method_3_code
def yX9_putFourBytes : MethodName := ⟨RX9, "putFourBytes", "(I)V"⟩
abbrev cX9_back : ByteArray := prog_1_method_4_code
def yX9_back : MethodName := ⟨RX9, "back", "(I)I"⟩
abbrev cX9_read : ByteArray := prog_1_method_5_code
def yX9_read : MethodName := ⟨RX9, "read", "()I"⟩
abbrev cX9_playDraft : ByteArray := prog_1_method_6_code
def yX9_playDraft : MethodName := ⟨RX9, "playDraft", "()V"⟩
abbrev cX9_place : ByteArray := prog_1_method_7_code
def yX9_place : MethodName := ⟨RX9, "place", "()I"⟩
abbrev cX9_isPerson : ByteArray := prog_1_method_8_code
def yX9_isPerson : MethodName := ⟨RX9, "isPerson", "(I)Z"⟩
abbrev cX9_isPart : ByteArray := prog_1_method_9_code
def yX9_isPart : MethodName := ⟨RX9, "isPart", "(I)Z"⟩
abbrev cX9_isHour : ByteArray := prog_1_method_10_code
def yX9_isHour : MethodName := ⟨RX9, "isHour", "(I)Z"⟩
abbrev cX9_isOneOfTwo : ByteArray := prog_1_method_11_code
def yX9_isOneOfTwo : MethodName := ⟨RX9, "isOneOfTwo", "(I)Z"⟩
abbrev cX9_hoursApart : ByteArray := prog_1_method_12_code
def yX9_hoursApart : MethodName := ⟨RX9, "hoursApart", "(II)I"⟩
abbrev cX9_laterHour : ByteArray := prog_1_method_13_code
def yX9_laterHour : MethodName := ⟨RX9, "laterHour", "(I)I"⟩
abbrev cX9_earlierHour : ByteArray := prog_1_method_14_code
def yX9_earlierHour : MethodName := ⟨RX9, "earlierHour", "(I)I"⟩
abbrev cX9_person : ByteArray := prog_1_method_15_code
def yX9_person : MethodName := ⟨RX9, "person", "(II)I"⟩
abbrev cX9_seenAsAny : ByteArray := prog_1_method_16_code
def yX9_seenAsAny : MethodName := ⟨RX9, "seenAsAny", "(I)I"⟩
abbrev cX9_part : ByteArray := prog_1_method_17_code
def yX9_part : MethodName := ⟨RX9, "part", "(II)I"⟩
abbrev cX9_dogsOfPart : ByteArray := prog_1_method_18_code
def yX9_dogsOfPart : MethodName := ⟨RX9, "dogsOfPart", "(I)I"⟩
abbrev cX9_tells : ByteArray := prog_1_method_19_code
def yX9_tells : MethodName := ⟨RX9, "tells", "(III)I"⟩
abbrev cX9_move : ByteArray := prog_1_method_20_code
def yX9_move : MethodName := ⟨RX9, "move", "(II)Z"⟩
abbrev cX9_write : ByteArray := prog_1_method_21_code
def yX9_write : MethodName := ⟨RX9, "write", "(II)Z"⟩
abbrev cX9_keepOff : ByteArray := prog_1_method_22_code
def yX9_keepOff : MethodName := ⟨RX9, "keepOff", "(IZ)Z"⟩
abbrev cX9_days : ByteArray := prog_1_method_23_code
def yX9_days : MethodName := ⟨RX9, "days", "(I)I"⟩
abbrev cX9_undo : ByteArray := prog_1_method_24_code
def yX9_undo : MethodName := ⟨RX9, "undo", "()Z"⟩
abbrev cX9_empty : ByteArray := prog_1_method_25_code
def yX9_empty : MethodName := ⟨RX9, "empty", "()I"⟩
abbrev cX9_standsOf : ByteArray := prog_1_method_26_code
def yX9_standsOf : MethodName := ⟨RX9, "standsOf", "(LUnderstudyShow$State;)I"⟩
abbrev cX9_rather : ByteArray := prog_1_method_27_code
def yX9_rather : MethodName := ⟨RX9, "rather", "(I)I"⟩
abbrev cX9_wouldRather : ByteArray := prog_1_method_28_code
def yX9_wouldRather : MethodName := ⟨RX9, "wouldRather", "(II)Z"⟩
abbrev cX9_standsIfAny : ByteArray := prog_1_method_29_code
def yX9_standsIfAny : MethodName := ⟨RX9, "standsIfAny", "(II)I"⟩
abbrev cX9_given : ByteArray := prog_1_method_30_code
def yX9_given : MethodName := ⟨RX9, "given", "(I)I"⟩
abbrev cX9_whole : ByteArray := prog_1_method_31_code
def yX9_whole : MethodName := ⟨RX9, "whole", "()I"⟩
abbrev cX9_costs : ByteArray := prog_1_method_32_code
def yX9_costs : MethodName := ⟨RX9, "costs", "(II)I"⟩
abbrev cX9_hoursToMove : ByteArray := prog_1_method_33_code
def yX9_hoursToMove : MethodName := ⟨RX9, "hoursToMove", "(II)I"⟩
abbrev cX9_ways : ByteArray := prog_1_method_34_code
def yX9_ways : MethodName := ⟨RX9, "ways", "()I"⟩
abbrev cX9_fairest : ByteArray := prog_1_method_35_code
def yX9_fairest : MethodName := ⟨RX9, "fairest", "()I"⟩
abbrev cX9_bestHour : ByteArray := prog_1_method_36_code
def yX9_bestHour : MethodName := ⟨RX9, "bestHour", "(II)I"⟩
abbrev cX9_trade : ByteArray := prog_1_method_37_code
def yX9_trade : MethodName := ⟨RX9, "trade", "(II)I"⟩
abbrev cX9_castWithout : ByteArray := prog_1_method_38_code
def yX9_castWithout : MethodName := ⟨RX9, "castWithout", "(I)LUnderstudyShow$Cast;"⟩
abbrev cX9_key : ByteArray := prog_1_method_39_code
def yX9_key : MethodName := ⟨RX9, "key", "()I"⟩
abbrev cX9_missed : ByteArray := prog_1_method_40_code
def yX9_missed : MethodName := ⟨RX9, "missed", "(I)I"⟩
abbrev cX9_crowd : ByteArray := prog_1_method_41_code
def yX9_crowd : MethodName := ⟨RX9, "crowd", "(I)I"⟩
abbrev cX9_howManyAt : ByteArray := prog_1_method_42_code
def yX9_howManyAt : MethodName := ⟨RX9, "howManyAt", "(I)I"⟩
abbrev cX9_habit : ByteArray := prog_1_method_43_code
def yX9_habit : MethodName := ⟨RX9, "habit", "(II)I"⟩
abbrev cX9_regular : ByteArray := prog_1_method_44_code
def yX9_regular : MethodName := ⟨RX9, "regular", "(II)I"⟩
abbrev cX9_settles : ByteArray := prog_1_method_45_code
def yX9_settles : MethodName := ⟨RX9, "settles", "()I"⟩
abbrev cX9_drift : ByteArray := prog_1_method_46_code
def yX9_drift : MethodName := ⟨RX9, "drift", "(II)I"⟩
abbrev cX9_meet : ByteArray := prog_1_method_47_code
def yX9_meet : MethodName := ⟨RX9, "meet", "(I)I"⟩
abbrev cX9_firstTwoAtOneHour : ByteArray := prog_1_method_48_code
def yX9_firstTwoAtOneHour : MethodName := ⟨RX9, "firstTwoAtOneHour", "(LUnderstudyShow$State;)I"⟩
abbrev cX9_away : ByteArray := prog_1_method_49_code
def yX9_away : MethodName := ⟨RX9, "away", "()I"⟩
abbrev cX9_then : ByteArray := prog_1_method_50_code
def yX9_then : MethodName := ⟨RX9, "then", "(III)I"⟩
abbrev cX9_marksIn : ByteArray := prog_1_method_51_code
def yX9_marksIn : MethodName := ⟨RX9, "marksIn", "(II)I"⟩
abbrev cX9_star : ByteArray := prog_1_method_52_code
def yX9_star : MethodName := ⟨RX9, "star", "(II)I"⟩
abbrev cX9_year : ByteArray := prog_1_method_53_code
def yX9_year : MethodName := ⟨RX9, "year", "(II)I"⟩
abbrev cX9_tell : ByteArray := prog_1_method_54_code
def yX9_tell : MethodName := ⟨RX9, "tell", "(IIZ)I"⟩
abbrev cX9_forget : ByteArray := prog_1_method_55_code
def yX9_forget : MethodName := ⟨RX9, "forget", "()I"⟩
abbrev cX9_who : ByteArray := prog_1_method_56_code
def yX9_who : MethodName := ⟨RX9, "who", "(II)I"⟩
abbrev cX9_ask : ByteArray := prog_1_method_57_code
def yX9_ask : MethodName := ⟨RX9, "ask", "(II)I"⟩
abbrev cX9_leftAtWorst : ByteArray := prog_1_method_58_code
def yX9_leftAtWorst : MethodName := ⟨RX9, "leftAtWorst", "(III)I"⟩
abbrev cX9_isSlot : ByteArray := prog_1_method_59_code
def yX9_isSlot : MethodName := ⟨RX9, "isSlot", "(I)Z"⟩
abbrev cX9_hold : ByteArray := prog_1_method_60_code
def yX9_hold : MethodName := ⟨RX9, "hold", "(I)Z"⟩
abbrev cX9_restore : ByteArray := prog_1_method_61_code
def yX9_restore : MethodName := ⟨RX9, "restore", "(I)Z"⟩
abbrev cX9_count : ByteArray := prog_1_method_62_code
def yX9_count : MethodName := ⟨RX9, "count", "(I)I"⟩
abbrev cX9_countOfCast : ByteArray := prog_1_method_63_code
def yX9_countOfCast : MethodName := ⟨RX9, "countOfCast", "(I)I"⟩
abbrev cX9_marksOfAll : ByteArray := prog_1_method_64_code
def yX9_marksOfAll : MethodName := ⟨RX9, "marksOfAll", "()I"⟩
abbrev cX9_slotsHeld : ByteArray := prog_1_method_65_code
def yX9_slotsHeld : MethodName := ⟨RX9, "slotsHeld", "()I"⟩
abbrev cX9_idlePeople : ByteArray := prog_1_method_66_code
def yX9_idlePeople : MethodName := ⟨RX9, "idlePeople", "()I"⟩
abbrev cX9_hoursApartInCast : ByteArray := prog_1_method_67_code
def yX9_hoursApartInCast : MethodName := ⟨RX9, "hoursApartInCast", "()I"⟩
def RX10 : String := "UnderstudyShowModel"
def TX10 : u_T := fun k => match k with
  | 0 => ("UnderstudyShowModel", "thrown", "I", false)
  | 1 => ("UnderstudyShowModel", "tape", "[B", true)
  | 2 => ("UnderstudyShowModel", "taped", "I", false)
  | 3 => ("UnderstudyShowModel", "text", "[B", true)
  | 4 => ("UnderstudyShowModel", "size", "I", false)
  | 5 => ("UnderstudyShowModel", "tKind", "[I", true)
  | 6 => ("UnderstudyShowModel", "tPlace", "[I", true)
  | 7 => ("UnderstudyShowModel", "tValue", "[I", true)
  | 8 => ("UnderstudyShowModel", "tName", "[J", true)
  | 9 => ("UnderstudyShowModel", "keys", "[J", true)
  | 10 => ("UnderstudyShowModel", "tokens", "I", false)
  | 11 => ("UnderstudyShowModel", "t", "I", false)
  | 12 => ("UnderstudyShowModel", "open", "I", false)
  | 13 => ("UnderstudyShowModel", "fault", "I", false)
  | 14 => ("UnderstudyShowModel", "faultPlace", "I", false)
  | 15 => ("UnderstudyShowModel", "worst", "I", false)
  | 16 => ("UnderstudyShowModel", "worstPlace", "I", false)
  | 17 => ("UnderstudyShowModel", "place", "I", false)
  | 18 => ("UnderstudyShowModel", "live", "I", false)
  | 19 => ("UnderstudyShowModel", "side", "I", false)
  | 20 => ("UnderstudyShowModel", "names", "I", false)
  | 21 => ("UnderstudyShowModel", "nameOf", "[J", true)
  | 22 => ("UnderstudyShowModel", "people", "[I", true)
  | 23 => ("UnderstudyShowModel", "hourTold", "[I", true)
  | 24 => ("UnderstudyShowModel", "kindOf", "[I", true)
  | 25 => ("UnderstudyShowModel", "sizeOf", "[I", true)
  | 26 => ("UnderstudyShowModel", "parts", "[I", true)
  | 27 => ("UnderstudyShowModel", "partTold", "[I", true)
  | 28 => ("UnderstudyShowModel", "partKind", "[I", true)
  | 29 => ("UnderstudyShowModel", "partSize", "[I", true)
  | 30 => ("UnderstudyShowModel", "atLeast", "[I", true)
  | 31 => ("UnderstudyShowModel", "seed", "[I", true)
  | 32 => ("UnderstudyShowModel", "lawFirst", "[I", true)
  | 33 => ("UnderstudyShowModel", "lawLast", "[I", true)
  | 34 => ("UnderstudyShowModel", "branches", "I", false)
  | 35 => ("UnderstudyShowModel", "hasTest", "[Z", true)
  | 36 => ("UnderstudyShowModel", "testFrom", "[I", true)
  | 37 => ("UnderstudyShowModel", "testMid", "[I", true)
  | 38 => ("UnderstudyShowModel", "testTo", "[I", true)
  | 39 => ("UnderstudyShowModel", "termTo", "[I", true)
  | 40 => ("UnderstudyShowModel", "codes", "I", false)
  | 41 => ("UnderstudyShowModel", "code", "[I", true)
  | 42 => ("UnderstudyShowModel", "codeInt", "[I", true)
  | 43 => ("UnderstudyShowModel", "waits", "[I", true)
  | 44 => ("UnderstudyShowModel", "waiting", "I", false)
  | 45 => ("UnderstudyShowModel", "variables", "[I", true)
  | 46 => ("UnderstudyShowModel", "pile", "[I", true)
  | 47 => ("UnderstudyShowModel", "isBroken", "Z", false)
  | 48 => ("UnderstudyShowModel", "now", "[I", true)
  | 49 => ("UnderstudyShowModel", "row", "[I", true)
  | 50 => ("UnderstudyShowModel", "lots", "I", false)
  | 51 => ("UnderstudyShowModel", "isStill", "Z", false)
  | 52 => ("UnderstudyShowModel", "castAs", "[I", true)
  | 53 => ("UnderstudyShowModel", "isWritten", "[Z", true)
  | 54 => ("UnderstudyShowModel", "hasDog", "[Z", true)
  | 55 => ("UnderstudyShowModel", "marksNow", "[I", true)
  | 56 => ("UnderstudyShowModel", "undos", "I", false)
  | 57 => ("UnderstudyShowModel", "history", "[I", true)
  | 58 => ("UnderstudyShowModel", "tableOf", "[I", true)
  | 59 => ("UnderstudyShowModel", "bestFrom", "[I", true)
  | 60 => ("UnderstudyShowModel", "hourAhead", "[I", true)
  | 61 => ("UnderstudyShowModel", "tolds", "I", false)
  | 62 => ("UnderstudyShowModel", "toldPart", "[I", true)
  | 63 => ("UnderstudyShowModel", "toldBy", "[I", true)
  | 64 => ("UnderstudyShowModel", "toldSo", "[Z", true)
  | 65 => ("UnderstudyShowModel", "isHeld", "[Z", true)
  | _ => ("UnderstudyShowModel", "heldRows", "[I", true)
def tyX10 : Nat → FieldType := fun k => match k with
  | 0 => .int
  | 1 => .array .byte
  | 2 => .int
  | 3 => .array .byte
  | 4 => .int
  | 5 => .array .int
  | 6 => .array .int
  | 7 => .array .int
  | 8 => .array .long
  | 9 => .array .long
  | 10 => .int
  | 11 => .int
  | 12 => .int
  | 13 => .int
  | 14 => .int
  | 15 => .int
  | 16 => .int
  | 17 => .int
  | 18 => .int
  | 19 => .int
  | 20 => .int
  | 21 => .array .long
  | 22 => .array .int
  | 23 => .array .int
  | 24 => .array .int
  | 25 => .array .int
  | 26 => .array .int
  | 27 => .array .int
  | 28 => .array .int
  | 29 => .array .int
  | 30 => .array .int
  | 31 => .array .int
  | 32 => .array .int
  | 33 => .array .int
  | 34 => .int
  | 35 => .array .boolean
  | 36 => .array .int
  | 37 => .array .int
  | 38 => .array .int
  | 39 => .array .int
  | 40 => .int
  | 41 => .array .int
  | 42 => .array .int
  | 43 => .array .int
  | 44 => .int
  | 45 => .array .int
  | 46 => .array .int
  | 47 => .boolean
  | 48 => .array .int
  | 49 => .array .int
  | 50 => .int
  | 51 => .boolean
  | 52 => .array .int
  | 53 => .array .boolean
  | 54 => .array .boolean
  | 55 => .array .int
  | 56 => .int
  | 57 => .array .int
  | 58 => .array .int
  | 59 => .array .int
  | 60 => .array .int
  | 61 => .int
  | 62 => .array .int
  | 63 => .array .int
  | 64 => .array .boolean
  | 65 => .array .boolean
  | _ => .array .int
theorem nmX10 : ∀ a, a < 67 → ∀ b, b < 67 → a ≠ b → (TX10 a).2.1 ≠ (TX10 b).2.1 := by decide +kernel
theorem tyX10_ok : ∀ k, k < 67 → parseFieldDescriptor (TX10 k).2.2.1 = some (tyX10 k) := by decide +kernel
abbrev cX10_init : ByteArray := prog_12_method_2_code
def yX10_init : MethodName := ⟨RX10, "<init>", "()V"⟩
abbrev cX10_feed : ByteArray := prog_12_method_3_code
def yX10_feed : MethodName := ⟨RX10, "feed", "(IIIII)I"⟩
abbrev cX10_put : ByteArray := prog_12_method_4_code
def yX10_put : MethodName := ⟨RX10, "put", "(I)V"⟩
abbrev cX10_back : ByteArray := prog_12_method_5_code
def yX10_back : MethodName := ⟨RX10, "back", "(I)I"⟩
abbrev cX10_byteAt : ByteArray := prog_12_method_6_code
def yX10_byteAt : MethodName := ⟨RX10, "byteAt", "(I)I"⟩
abbrev cX10_isDigit : ByteArray := prog_12_method_7_code
def yX10_isDigit : MethodName := ⟨RX10, "isDigit", "(I)Z"⟩
abbrev cX10_isLetter : ByteArray := prog_12_method_8_code
def yX10_isLetter : MethodName := ⟨RX10, "isLetter", "(I)Z"⟩
abbrev cX10_appends : ByteArray := prog_12_method_9_code
def yX10_appends : MethodName := ⟨RX10, "appends", "(JI)J"⟩
abbrev cX10_word : ByteArray := prog_12_method_10_code
def yX10_word : MethodName := ⟨RX10, "word", "(IIIIIII)J"⟩
abbrev cX10_token : ByteArray := prog_12_method_11_code
def yX10_token : MethodName := ⟨RX10, "token", "(IIIJ)V"⟩
abbrev cX10_cut : ByteArray := prog_12_method_12_code
def yX10_cut : MethodName := ⟨RX10, "cut", "()V"⟩
abbrev cX10_sign : ByteArray := prog_12_method_13_code
def yX10_sign : MethodName := ⟨RX10, "sign", "(III)I"⟩
abbrev cX10_is : ByteArray := prog_12_method_14_code
def yX10_is : MethodName := ⟨RX10, "is", "(I)Z"⟩
abbrev cX10_fail : ByteArray := prog_12_method_15_code
def yX10_fail : MethodName := ⟨RX10, "fail", "(I)V"⟩
abbrev cX10_wrong : ByteArray := prog_12_method_16_code
def yX10_wrong : MethodName := ⟨RX10, "wrong", "(II)V"⟩
abbrev cX10_goesOn : ByteArray := prog_12_method_17_code
def yX10_goesOn : MethodName := ⟨RX10, "goesOn", "()V"⟩
abbrev cX10_must : ByteArray := prog_12_method_18_code
def yX10_must : MethodName := ⟨RX10, "must", "(I)V"⟩
abbrev cX10_plain : ByteArray := prog_12_method_19_code
def yX10_plain : MethodName := ⟨RX10, "plain", "(I)V"⟩
abbrev cX10_read : ByteArray := prog_12_method_20_code
def yX10_read : MethodName := ⟨RX10, "read", "()I"⟩
abbrev cX10_place : ByteArray := prog_12_method_21_code
def yX10_place : MethodName := ⟨RX10, "place", "()I"⟩
abbrev cX10_roomFor : ByteArray := prog_12_method_22_code
def yX10_roomFor : MethodName := ⟨RX10, "roomFor", "(II)V"⟩
abbrev cX10_toldInt : ByteArray := prog_12_method_23_code
def yX10_toldInt : MethodName := ⟨RX10, "toldInt", "(II)I"⟩
abbrev cX10_tellOne : ByteArray := prog_12_method_24_code
def yX10_tellOne : MethodName := ⟨RX10, "tellOne", "()V"⟩
abbrev cX10_named : ByteArray := prog_12_method_25_code
def yX10_named : MethodName := ⟨RX10, "named", "()I"⟩
abbrev cX10_endsName : ByteArray := prog_12_method_26_code
def yX10_endsName : MethodName := ⟨RX10, "endsName", "(I)V"⟩
abbrev cX10_bounded : ByteArray := prog_12_method_27_code
def yX10_bounded : MethodName := ⟨RX10, "bounded", "(II)I"⟩
abbrev cX10_tellLaw : ByteArray := prog_12_method_28_code
def yX10_tellLaw : MethodName := ⟨RX10, "tellLaw", "(I)V"⟩
abbrev cX10_term : ByteArray := prog_12_method_29_code
def yX10_term : MethodName := ⟨RX10, "term", "()V"⟩
abbrev cX10_emit : ByteArray := prog_12_method_30_code
def yX10_emit : MethodName := ⟨RX10, "emit", "(II)V"⟩
abbrev cX10_comesOut : ByteArray := prog_12_method_31_code
def yX10_comesOut : MethodName := ⟨RX10, "comesOut", "(Z)V"⟩
abbrev cX10_expression : ByteArray := prog_12_method_32_code
def yX10_expression : MethodName := ⟨RX10, "expression", "()V"⟩
abbrev cX10_unit : ByteArray := prog_12_method_33_code
def yX10_unit : MethodName := ⟨RX10, "unit", "()V"⟩
abbrev cX10_termOf : ByteArray := prog_12_method_34_code
def yX10_termOf : MethodName := ⟨RX10, "termOf", "(II)I"⟩
abbrev cX10_in : ByteArray := prog_12_method_35_code
def yX10_in : MethodName := ⟨RX10, "in", "(III)Z"⟩
abbrev cX10_within : ByteArray := prog_12_method_36_code
def yX10_within : MethodName := ⟨RX10, "within", "(III)I"⟩
abbrev cX10_bits : ByteArray := prog_12_method_37_code
def yX10_bits : MethodName := ⟨RX10, "bits", "(I)I"⟩
abbrev cX10_off : ByteArray := prog_12_method_38_code
def yX10_off : MethodName := ⟨RX10, "off", "(II)I"⟩
abbrev cX10_roundOff : ByteArray := prog_12_method_39_code
def yX10_roundOff : MethodName := ⟨RX10, "roundOff", "(II)I"⟩
abbrev cX10_isPerson : ByteArray := prog_12_method_40_code
def yX10_isPerson : MethodName := ⟨RX10, "isPerson", "(I)Z"⟩
abbrev cX10_isPart : ByteArray := prog_12_method_41_code
def yX10_isPart : MethodName := ⟨RX10, "isPart", "(I)Z"⟩
abbrev cX10_isHour : ByteArray := prog_12_method_42_code
def yX10_isHour : MethodName := ⟨RX10, "isHour", "(I)Z"⟩
abbrev cX10_begins : ByteArray := prog_12_method_43_code
def yX10_begins : MethodName := ⟨RX10, "begins", "()V"⟩
abbrev cX10_keepsRow : ByteArray := prog_12_method_44_code
def yX10_keepsRow : MethodName := ⟨RX10, "keepsRow", "()V"⟩
abbrev cX10_copies : ByteArray := prog_12_method_45_code
def yX10_copies : MethodName := ⟨RX10, "copies", "()V"⟩
abbrev cX10_copiesStill : ByteArray := prog_12_method_46_code
def yX10_copiesStill : MethodName := ⟨RX10, "copiesStill", "()V"⟩
abbrev cX10_mixed : ByteArray := prog_12_method_47_code
def yX10_mixed : MethodName := ⟨RX10, "mixed", "(II)I"⟩
abbrev cX10_lotOf : ByteArray := prog_12_method_48_code
def yX10_lotOf : MethodName := ⟨RX10, "lotOf", "(I)I"⟩
abbrev cX10_looks : ByteArray := prog_12_method_49_code
def yX10_looks : MethodName := ⟨RX10, "looks", "(II)V"⟩
abbrev cX10_lawTells : ByteArray := prog_12_method_50_code
def yX10_lawTells : MethodName := ⟨RX10, "lawTells", "(II)I"⟩
abbrev cX10_standsOf : ByteArray := prog_12_method_51_code
def yX10_standsOf : MethodName := ⟨RX10, "standsOf", "(II)I"⟩
abbrev cX10_writesOf : ByteArray := prog_12_method_52_code
def yX10_writesOf : MethodName := ⟨RX10, "writesOf", "(II)I"⟩
abbrev cX10_marksOf : ByteArray := prog_12_method_53_code
def yX10_marksOf : MethodName := ⟨RX10, "marksOf", "(II)I"⟩
abbrev cX10_dogsOf : ByteArray := prog_12_method_54_code
def yX10_dogsOf : MethodName := ⟨RX10, "dogsOf", "(II)I"⟩
abbrev cX10_isOff : ByteArray := prog_12_method_55_code
def yX10_isOff : MethodName := ⟨RX10, "isOff", "(I)Z"⟩
abbrev cX10_casts : ByteArray := prog_12_method_56_code
def yX10_casts : MethodName := ⟨RX10, "casts", "()V"⟩
abbrev cX10_emptyBits : ByteArray := prog_12_method_57_code
def yX10_emptyBits : MethodName := ⟨RX10, "emptyBits", "()I"⟩
abbrev cX10_standsAll : ByteArray := prog_12_method_58_code
def yX10_standsAll : MethodName := ⟨RX10, "standsAll", "()I"⟩
abbrev cX10_castFor : ByteArray := prog_12_method_59_code
def yX10_castFor : MethodName := ⟨RX10, "castFor", "(I)I"⟩
abbrev cX10_towards : ByteArray := prog_12_method_60_code
def yX10_towards : MethodName := ⟨RX10, "towards", "(II)I"⟩
abbrev cX10_dayGoes : ByteArray := prog_12_method_61_code
def yX10_dayGoes : MethodName := ⟨RX10, "dayGoes", "()V"⟩
abbrev cX10_goes : ByteArray := prog_12_method_62_code
def yX10_goes : MethodName := ⟨RX10, "goes", "(I)V"⟩
abbrev cX10_seenAny : ByteArray := prog_12_method_63_code
def yX10_seenAny : MethodName := ⟨RX10, "seenAny", "(I)I"⟩
abbrev cX10_person : ByteArray := prog_12_method_64_code
def yX10_person : MethodName := ⟨RX10, "person", "(II)I"⟩
abbrev cX10_part : ByteArray := prog_12_method_65_code
def yX10_part : MethodName := ⟨RX10, "part", "(II)I"⟩
abbrev cX10_tells : ByteArray := prog_12_method_66_code
def yX10_tells : MethodName := ⟨RX10, "tells", "(III)I"⟩
abbrev cX10_records : ByteArray := prog_12_method_67_code
def yX10_records : MethodName := ⟨RX10, "records", "()V"⟩
abbrev cX10_does : ByteArray := prog_12_method_68_code
def yX10_does : MethodName := ⟨RX10, "does", "(II)V"⟩
abbrev cX10_move : ByteArray := prog_12_method_69_code
def yX10_move : MethodName := ⟨RX10, "move", "(II)Z"⟩
abbrev cX10_write : ByteArray := prog_12_method_70_code
def yX10_write : MethodName := ⟨RX10, "write", "(II)Z"⟩
abbrev cX10_keepOff : ByteArray := prog_12_method_71_code
def yX10_keepOff : MethodName := ⟨RX10, "keepOff", "(IZ)Z"⟩
abbrev cX10_isLong : ByteArray := prog_12_method_72_code
def yX10_isLong : MethodName := ⟨RX10, "isLong", "(I)Z"⟩
abbrev cX10_isSome : ByteArray := prog_12_method_73_code
def yX10_isSome : MethodName := ⟨RX10, "isSome", "(I)Z"⟩
abbrev cX10_days : ByteArray := prog_12_method_74_code
def yX10_days : MethodName := ⟨RX10, "days", "(I)I"⟩
abbrev cX10_undo : ByteArray := prog_12_method_75_code
def yX10_undo : MethodName := ⟨RX10, "undo", "()Z"⟩
abbrev cX10_empty : ByteArray := prog_12_method_76_code
def yX10_empty : MethodName := ⟨RX10, "empty", "()I"⟩
abbrev cX10_fillsStands : ByteArray := prog_12_method_77_code
def yX10_fillsStands : MethodName := ⟨RX10, "fillsStands", "(I)V"⟩
abbrev cX10_isFree : ByteArray := prog_12_method_78_code
def yX10_isFree : MethodName := ⟨RX10, "isFree", "(III)Z"⟩
abbrev cX10_with : ByteArray := prog_12_method_79_code
def yX10_with : MethodName := ⟨RX10, "with", "(III)I"⟩
abbrev cX10_ends : ByteArray := prog_12_method_80_code
def yX10_ends : MethodName := ⟨RX10, "ends", "(I)V"⟩
abbrev cX10_fillsGiven : ByteArray := prog_12_method_81_code
def yX10_fillsGiven : MethodName := ⟨RX10, "fillsGiven", "()V"⟩
abbrev cX10_lowestFor : ByteArray := prog_12_method_82_code
def yX10_lowestFor : MethodName := ⟨RX10, "lowestFor", "(II)I"⟩
abbrev cX10_given : ByteArray := prog_12_method_83_code
def yX10_given : MethodName := ⟨RX10, "given", "(I)I"⟩
abbrev cX10_costsOf : ByteArray := prog_12_method_84_code
def yX10_costsOf : MethodName := ⟨RX10, "costsOf", "(II)I"⟩
abbrev cX10_costs : ByteArray := prog_12_method_85_code
def yX10_costs : MethodName := ⟨RX10, "costs", "(II)I"⟩
abbrev cX10_whole : ByteArray := prog_12_method_86_code
def yX10_whole : MethodName := ⟨RX10, "whole", "()I"⟩
abbrev cX10_ways : ByteArray := prog_12_method_87_code
def yX10_ways : MethodName := ⟨RX10, "ways", "()I"⟩
abbrev cX10_fairest : ByteArray := prog_12_method_88_code
def yX10_fairest : MethodName := ⟨RX10, "fairest", "()I"⟩
abbrev cX10_wouldRather : ByteArray := prog_12_method_89_code
def yX10_wouldRather : MethodName := ⟨RX10, "wouldRather", "(II)Z"⟩
abbrev cX10_rather : ByteArray := prog_12_method_90_code
def yX10_rather : MethodName := ⟨RX10, "rather", "(I)I"⟩
abbrev cX10_sumCast : ByteArray := prog_12_method_91_code
def yX10_sumCast : MethodName := ⟨RX10, "sumCast", "()I"⟩
abbrev cX10_bestHour : ByteArray := prog_12_method_92_code
def yX10_bestHour : MethodName := ⟨RX10, "bestHour", "(II)I"⟩
abbrev cX10_trade : ByteArray := prog_12_method_93_code
def yX10_trade : MethodName := ⟨RX10, "trade", "(II)I"⟩
abbrev cX10_key : ByteArray := prog_12_method_94_code
def yX10_key : MethodName := ⟨RX10, "key", "()I"⟩
abbrev cX10_missed : ByteArray := prog_12_method_95_code
def yX10_missed : MethodName := ⟨RX10, "missed", "(I)I"⟩
abbrev cX10_crowd : ByteArray := prog_12_method_96_code
def yX10_crowd : MethodName := ⟨RX10, "crowd", "(I)I"⟩
abbrev cX10_seenAs : ByteArray := prog_12_method_97_code
def yX10_seenAs : MethodName := ⟨RX10, "seenAs", "(II)I"⟩
abbrev cX10_habit : ByteArray := prog_12_method_98_code
def yX10_habit : MethodName := ⟨RX10, "habit", "(II)I"⟩
abbrev cX10_regular : ByteArray := prog_12_method_99_code
def yX10_regular : MethodName := ⟨RX10, "regular", "(II)I"⟩
abbrev cX10_isChanged : ByteArray := prog_12_method_100_code
def yX10_isChanged : MethodName := ⟨RX10, "isChanged", "()Z"⟩
abbrev cX10_settles : ByteArray := prog_12_method_101_code
def yX10_settles : MethodName := ⟨RX10, "settles", "()I"⟩
abbrev cX10_drift : ByteArray := prog_12_method_102_code
def yX10_drift : MethodName := ⟨RX10, "drift", "(II)I"⟩
abbrev cX10_pairAlike : ByteArray := prog_12_method_103_code
def yX10_pairAlike : MethodName := ⟨RX10, "pairAlike", "()I"⟩
abbrev cX10_meet : ByteArray := prog_12_method_104_code
def yX10_meet : MethodName := ⟨RX10, "meet", "(I)I"⟩
abbrev cX10_away : ByteArray := prog_12_method_105_code
def yX10_away : MethodName := ⟨RX10, "away", "()I"⟩
abbrev cX10_then : ByteArray := prog_12_method_106_code
def yX10_then : MethodName := ⟨RX10, "then", "(III)I"⟩
abbrev cX10_marksIn : ByteArray := prog_12_method_107_code
def yX10_marksIn : MethodName := ⟨RX10, "marksIn", "(II)I"⟩
abbrev cX10_star : ByteArray := prog_12_method_108_code
def yX10_star : MethodName := ⟨RX10, "star", "(II)I"⟩
abbrev cX10_year : ByteArray := prog_12_method_109_code
def yX10_year : MethodName := ⟨RX10, "year", "(II)I"⟩
abbrev cX10_tell : ByteArray := prog_12_method_110_code
def yX10_tell : MethodName := ⟨RX10, "tell", "(IIZ)I"⟩
abbrev cX10_forget : ByteArray := prog_12_method_111_code
def yX10_forget : MethodName := ⟨RX10, "forget", "()I"⟩
abbrev cX10_whoBits : ByteArray := prog_12_method_112_code
def yX10_whoBits : MethodName := ⟨RX10, "whoBits", "(I)I"⟩
abbrev cX10_who : ByteArray := prog_12_method_113_code
def yX10_who : MethodName := ⟨RX10, "who", "(II)I"⟩
abbrev cX10_ask : ByteArray := prog_12_method_114_code
def yX10_ask : MethodName := ⟨RX10, "ask", "(II)I"⟩
abbrev cX10_hold : ByteArray := prog_12_method_115_code
def yX10_hold : MethodName := ⟨RX10, "hold", "(I)Z"⟩
abbrev cX10_restore : ByteArray := prog_12_method_116_code
def yX10_restore : MethodName := ⟨RX10, "restore", "(I)Z"⟩
abbrev cX10_apartAll : ByteArray := prog_12_method_117_code
def yX10_apartAll : MethodName := ⟨RX10, "apartAll", "()I"⟩
abbrev cX10_count : ByteArray := prog_12_method_118_code
def yX10_count : MethodName := ⟨RX10, "count", "(I)I"⟩
def RJ11 : String := "java/lang/Character"
def TJ11 : u_T := fun k => match k with
  | _ => ("", "", "", false)
def tyJ11 : Nat → FieldType := fun k => match k with
  | _ => .int
theorem nmJ11 : ∀ a, a < 0 → ∀ b, b < 0 → a ≠ b → (TJ11 a).2.1 ≠ (TJ11 b).2.1 := by decide +kernel
theorem tyJ11_ok : ∀ k, k < 0 → parseFieldDescriptor (TJ11 k).2.2.1 = some (tyJ11 k) := by decide +kernel
abbrev cJ11_isValidCodePoint_9a6ad : ByteArray := prog_13_method_11_code
def yJ11_isValidCodePoint_9a6ad : MethodName := ⟨RJ11, "isValidCodePoint", "(I)Z"⟩
abbrev cJ11_highSurrogate_5068e : ByteArray := prog_13_method_28_code
def yJ11_highSurrogate_5068e : MethodName := ⟨RJ11, "highSurrogate", "(I)C"⟩
abbrev cJ11_lowSurrogate_5068e : ByteArray := prog_13_method_29_code
def yJ11_lowSurrogate_5068e : MethodName := ⟨RJ11, "lowSurrogate", "(I)C"⟩
def RJ6 : String := "java/lang/Integer"
def TJ6 : u_T := fun k => match k with
  | _ => ("", "", "", false)
def tyJ6 : Nat → FieldType := fun k => match k with
  | _ => .int
theorem nmJ6 : ∀ a, a < 0 → ∀ b, b < 0 → a ≠ b → (TJ6 a).2.1 ≠ (TJ6 b).2.1 := by decide +kernel
theorem tyJ6_ok : ∀ k, k < 0 → parseFieldDescriptor (TJ6 k).2.2.1 = some (tyJ6 k) := by decide +kernel
abbrev cJ6_bitCount_0f7a4 : ByteArray := prog_14_method_49_code
def yJ6_bitCount_0f7a4 : MethodName := ⟨RJ6, "bitCount", "(I)I"⟩
def RJ9 : String := "java/lang/Math"
def TJ9 : u_T := fun k => match k with
  | _ => ("", "", "", false)
def tyJ9 : Nat → FieldType := fun k => match k with
  | _ => .int
theorem nmJ9 : ∀ a, a < 0 → ∀ b, b < 0 → a ≠ b → (TJ9 a).2.1 ≠ (TJ9 b).2.1 := by decide +kernel
theorem tyJ9_ok : ∀ k, k < 0 → parseFieldDescriptor (TJ9 k).2.2.1 = some (tyJ9 k) := by decide +kernel
abbrev cJ9_abs_0f7a4 : ByteArray := prog_15_method_59_code
def yJ9_abs_0f7a4 : MethodName := ⟨RJ9, "abs", "(I)I"⟩
abbrev cJ9_max_7cf53 : ByteArray := prog_15_method_65_code
def yJ9_max_7cf53 : MethodName := ⟨RJ9, "max", "(II)I"⟩
abbrev cJ9_max_f86c9 : ByteArray := prog_15_method_66_code
def yJ9_max_f86c9 : MethodName := ⟨RJ9, "max", "(JJ)J"⟩
abbrev cJ9_min_7cf53 : ByteArray := prog_15_method_69_code
def yJ9_min_7cf53 : MethodName := ⟨RJ9, "min", "(II)I"⟩
abbrev cJ9_min_f86c9 : ByteArray := prog_15_method_70_code
def yJ9_min_f86c9 : MethodName := ⟨RJ9, "min", "(JJ)J"⟩
def RJ0 : String := "java/lang/String"
def TJ0 : u_T := fun k => match k with
  | _ => ("", "", "", false)
def tyJ0 : Nat → FieldType := fun k => match k with
  | _ => .int
theorem nmJ0 : ∀ a, a < 0 → ∀ b, b < 0 → a ≠ b → (TJ0 a).2.1 ≠ (TJ0 b).2.1 := by decide +kernel
theorem tyJ0_ok : ∀ k, k < 0 → parseFieldDescriptor (TJ0 k).2.2.1 = some (tyJ0 k) := by decide +kernel
abbrev cJ0_length_8abf5 : ByteArray := prog_16_method_54_code
def yJ0_length_8abf5 : MethodName := ⟨RJ0, "length", "()I"⟩
abbrev cJ0_charAt_5068e : ByteArray := prog_16_method_56_code
def yJ0_charAt_5068e : MethodName := ⟨RJ0, "charAt", "(I)C"⟩
abbrev cJ0_indexOf_0f7a4 : ByteArray := prog_16_method_79_code
def yJ0_indexOf_0f7a4 : MethodName := ⟨RJ0, "indexOf", "(I)I"⟩
abbrev cJ0_indexOf_7cf53 : ByteArray := prog_16_method_80_code
def yJ0_indexOf_7cf53 : MethodName := ⟨RJ0, "indexOf", "(II)I"⟩
abbrev cJ0_coder_7d493 : ByteArray := prog_16_method_152_code
def yJ0_coder_7d493 : MethodName := ⟨RJ0, "coder", "()B"⟩
abbrev cJ0_isLatin1_aae02 : ByteArray := prog_16_method_154_code
def yJ0_isLatin1_aae02 : MethodName := ⟨RJ0, "isLatin1", "()Z"⟩
abbrev cJ0_checkIndex_df160 : ByteArray := prog_16_method_155_code
def yJ0_checkIndex_df160 : MethodName := ⟨RJ0, "checkIndex", "(II)V"⟩
abbrev cJ0_checkBoundsBeginEnd_23922 : ByteArray := prog_16_method_158_code
def yJ0_checkBoundsBeginEnd_23922 : MethodName := ⟨RJ0, "checkBoundsBeginEnd", "(III)V"⟩
def RJ1 : String := "java/lang/StringLatin1"
def TJ1 : u_T := fun k => match k with
  | _ => ("", "", "", false)
def tyJ1 : Nat → FieldType := fun k => match k with
  | _ => .int
theorem nmJ1 : ∀ a, a < 0 → ∀ b, b < 0 → a ≠ b → (TJ1 a).2.1 ≠ (TJ1 b).2.1 := by decide +kernel
theorem tyJ1_ok : ∀ k, k < 0 → parseFieldDescriptor (TJ1 k).2.2.1 = some (tyJ1 k) := by decide +kernel
abbrev cJ1_charAt_3b067 : ByteArray := prog_17_method_2_code
def yJ1_charAt_3b067 : MethodName := ⟨RJ1, "charAt", "([BI)C"⟩
abbrev cJ1_canEncode_9a6ad : ByteArray := prog_17_method_4_code
def yJ1_canEncode_9a6ad : MethodName := ⟨RJ1, "canEncode", "(I)Z"⟩
abbrev cJ1_indexOf_4cfef : ByteArray := prog_17_method_22_code
def yJ1_indexOf_4cfef : MethodName := ⟨RJ1, "indexOf", "([BIII)I"⟩
abbrev cJ1_indexOfChar_4cfef : ByteArray := prog_17_method_23_code
def yJ1_indexOfChar_4cfef : MethodName := ⟨RJ1, "indexOfChar", "([BIII)I"⟩
def RJ2 : String := "java/lang/StringUTF16"
def TJ2 : u_T := fun k => match k with
  | _ => ("", "", "", false)
def tyJ2 : Nat → FieldType := fun k => match k with
  | _ => .int
theorem nmJ2 : ∀ a, a < 0 → ∀ b, b < 0 → a ≠ b → (TJ2 a).2.1 ≠ (TJ2 b).2.1 := by decide +kernel
theorem tyJ2_ok : ∀ k, k < 0 → parseFieldDescriptor (TJ2 k).2.2.1 = some (tyJ2 k) := by decide +kernel
abbrev cJ2_getChar_3b067 : ByteArray := prog_18_method_5_code
def yJ2_getChar_3b067 : MethodName := ⟨RJ2, "getChar", "([BI)C"⟩
abbrev cJ2_length_9d52b : ByteArray := prog_18_method_6_code
def yJ2_length_9d52b : MethodName := ⟨RJ2, "length", "([B)I"⟩
abbrev cJ2_indexOf_4cfef : ByteArray := prog_18_method_40_code
def yJ2_indexOf_4cfef : MethodName := ⟨RJ2, "indexOf", "([BIII)I"⟩
abbrev cJ2_indexOfChar_4cfef : ByteArray := prog_18_method_47_code
def yJ2_indexOfChar_4cfef : MethodName := ⟨RJ2, "indexOfChar", "([BIII)I"⟩
abbrev cJ2_indexOfCharUnsafe_4cfef : ByteArray := prog_18_method_48_code
def yJ2_indexOfCharUnsafe_4cfef : MethodName := ⟨RJ2, "indexOfCharUnsafe", "([BIII)I"⟩
abbrev cJ2_indexOfSupplementary_4cfef : ByteArray := prog_18_method_49_code
def yJ2_indexOfSupplementary_4cfef : MethodName := ⟨RJ2, "indexOfSupplementary", "([BIII)I"⟩
abbrev cJ2_charAt_3b067 : ByteArray := prog_18_method_83_code
def yJ2_charAt_3b067 : MethodName := ⟨RJ2, "charAt", "([BI)C"⟩
abbrev cJ2_checkIndex_2214a : ByteArray := prog_18_method_91_code
def yJ2_checkIndex_2214a : MethodName := ⟨RJ2, "checkIndex", "(I[B)V"⟩
abbrev cJ2_checkBoundsBeginEnd_d044e : ByteArray := prog_18_method_93_code
def yJ2_checkBoundsBeginEnd_d044e : MethodName := ⟨RJ2, "checkBoundsBeginEnd", "(II[B)V"⟩
def RJ10 : String := "java/lang/System"
def TJ10 : u_T := fun k => match k with
  | _ => ("", "", "", false)
def tyJ10 : Nat → FieldType := fun k => match k with
  | _ => .int
theorem nmJ10 : ∀ a, a < 0 → ∀ b, b < 0 → a ≠ b → (TJ10 a).2.1 ≠ (TJ10 b).2.1 := by decide +kernel
theorem tyJ10_ok : ∀ k, k < 0 → parseFieldDescriptor (TJ10 k).2.2.1 = some (tyJ10 k) := by decide +kernel
def RJ3 : String := "jdk/internal/util/Preconditions"
def TJ3 : u_T := fun k => match k with
  | _ => ("", "", "", false)
def tyJ3 : Nat → FieldType := fun k => match k with
  | _ => .int
theorem nmJ3 : ∀ a, a < 0 → ∀ b, b < 0 → a ≠ b → (TJ3 a).2.1 ≠ (TJ3 b).2.1 := by decide +kernel
theorem tyJ3_ok : ∀ k, k < 0 → parseFieldDescriptor (TJ3 k).2.2.1 = some (tyJ3 k) := by decide +kernel
abbrev cJ3_checkIndex_8e157 : ByteArray := prog_20_method_11_code
def yJ3_checkIndex_8e157 : MethodName := ⟨RJ3, "checkIndex", "(IILjava/util/function/BiFunction;)I"⟩
abbrev cJ3_checkFromToIndex_8c36e : ByteArray := prog_20_method_12_code
def yJ3_checkFromToIndex_8c36e : MethodName := ⟨RJ3, "checkFromToIndex", "(IIILjava/util/function/BiFunction;)I"⟩
def RL : String := "UnderstudyShowLaw"
abbrev cL_law : ByteArray := code
def yL_law : MethodName := ⟨RL, "law", "([I)Z"⟩
end
section
def zz_T : List Cond := lw_tbl.filter goodWord
def zz_isN : Cond → Bool
  | .fieldLinkNest _ _ _ _ _ _ => true
  | .methodLinkNest _ _ _ _ => true
  | _ => false
def zz_nw : List Cond := lw_tbl.filter zz_isN
abbrev zz_cl : List vw_C := [(RX0, TX0, 4), (RX1, TX1, 5), (RX2, TX2, 5), (RX3, TX3, 3), (RX4, TX4, 8), (RX5, TX5, 13), (RX6, TX6, 7), (RX7, TX7, 4), (RX8, TX8, 4), (RX9, TX9, 14), (RX10, TX10, 67)]
abbrev zz_G : Type := va_G × (Nat → ClassId)
def zz_ty (G : zz_G) : List (ClassId × FieldType) := [(G.2 0, .int), (G.2 1, .byte), (G.2 2, .boolean), (G.2 3, .long), (G.2 4, .object "UnderstudyShow$Law"), (G.2 5, .object "UnderstudyShow$State")]
def zz_N (U : State) : Prop := (∀ w ∈ zz_nw, va_Nw w U) ∧ va_AO "UnderstudyShow$Law" U ∧ va_AO "UnderstudyShow$State" U
def zz_rm (d mc ms : Nat) : Room := { frames := d, cells := mc, slots := ms, locals := 40 * d }
abbrev zz_Y : Type := MethodName × ByteArray × Nat × Option FieldType
def zz_ws (Y : zz_Y) : List Cond := .code Y.1 Y.2.1 Y.2.2.1 Y.2.2.2 :: zz_T
def zz_Pre (G : zz_G) (w0 : va_W) (sz : Nat) (U : State) : Prop := U.heap.size = sz ∧ va_P G.1 zz_cl w0 U.heap ∧ va_K G.1 zz_cl (zz_ty G) U ∧ va_D (fun _ => True) w0 ∧ zz_N U
def zz_Q (G : zz_G) (w0 : va_W) (sz : Nat) (post : Option Value → va_W → Prop) : Array Value → State → Outcome → State → Prop := fun _ st oc t => (∃ (r : Option Value) (u : va_W), oc = .returned r ∧ post r u ∧ va_P G.1 zz_cl u t.heap ∧ va_K G.1 zz_cl (zz_ty G) t ∧ va_D (va_A w0 sz) u) ∧ va_F (va_A w0 sz) st t
/-- the contract of a method: from any heap that holds the world w0 it returns r, the heap then holds a world u, 'post r u' -/
def zz_M (l : Launch) (G : zz_G) (Y : zz_Y) (d mc ms : Nat) (vs : List Value) (w0 : va_W) (post : Option Value → va_W → Prop) : Prop := ∀ sz : Nat, Met l Y.1 (zz_ws Y) (zz_rm d mc ms) (va_Pc vs (zz_Pre G w0 sz)) (zz_Q G w0 sz post) mc ms (va_A w0 sz)
def zz_w (G : zz_G) (A : Nat → Prop) (s : State) (ws : va_W) (H : Heap) (locs : List Loc) : Prop := va_K G.1 zz_cl (zz_ty G) s ∧ va_P G.1 zz_cl ws H ∧ va_D A ws ∧ va_S A s.heap H locs ∧ (∀ q, s.heap.size ≤ q → A q) ∧ zz_N s
def zz_CL (ci : Nat) (C : String) (T : u_T) (N : Nat) : Prop := zz_cl[ci]? = some (C, T, N) ∧ (∀ w ∈ u_ws C T N, w ∈ zz_T) ∧ ∃ ty0 : Nat → FieldType, (∀ k, k < N → parseFieldDescriptor (T k).2.2.1 = some (ty0 k)) ∧ (∀ a, a < N → ∀ b, b < N → a ≠ b → (T a).2.1 ≠ (T b).2.1)
def zz_FL (own : String) (index ci k : Nat) : Prop := ∃ (C : String) (T : u_T) (N : Nat), zz_CL ci C T N ∧ k < N ∧ (Cond.fieldLink own index (T k).1 (T k).2.1 (T k).2.2.1 ∈ zz_T ∨ ∃ host : String, Cond.fieldLinkNest own index (T k).1 (T k).2.1 (T k).2.2.1 host ∈ zz_nw)
def zz_FP (own : String) (index ci k : Nat) (ty : FieldType) : Prop := ∃ (C : String) (T : u_T) (N : Nat), zz_CL ci C T N ∧ k < N ∧ (Cond.fieldLink own index (T k).1 (T k).2.1 (T k).2.2.1 ∈ zz_T ∨ ∃ host : String, Cond.fieldLinkNest own index (T k).1 (T k).2.1 (T k).2.2.1 host ∈ zz_nw) ∧ (T k).2.2.2 = false ∧ parseFieldDescriptor (T k).2.2.1 = some ty
def zz_FF (own : String) (index ci k : Nat) (ty : FieldType) : Prop := ∃ (C : String) (T : u_T) (N : Nat), zz_CL ci C T N ∧ k < N ∧ Cond.fieldLink own index (T k).1 (T k).2.1 (T k).2.2.1 ∈ zz_T ∧ (T k).2.2.2 = true ∧ parseFieldDescriptor (T k).2.2.1 = some ty ∧ (T k).1 = own
def zz_lk (own : String) (index : Nat) (y : MethodName) : Prop := Cond.methodLink own index y ∈ zz_T ∨ ∃ host : String, Cond.methodLinkNest own index y host ∈ zz_nw
def zz_yy (Y : zz_Y) (n : Nat) : Prop := Cond.initialized Y.1.cls ∈ zz_T ∧ Cond.code Y.1 Y.2.1 Y.2.2.1 Y.2.2.2 ∈ zz_T ∧ Y.1.cls ≠ "java/lang/invoke/MethodHandle" ∧ Y.1.cls ≠ "java/lang/invoke/VarHandle" ∧ (parseMethodDescriptor Y.1.desc).map (fun d => d.parameters.length) = some n
def zz_LV (own : String) (index : Nat) (Y : zz_Y) (n : Nat) : Prop := zz_lk own index Y.1 ∧ Cond.instanceMethod Y.1 ∈ zz_T ∧ Cond.selects Y.1.cls Y.1 Y.1 ∈ zz_T ∧ zz_yy Y n
def zz_LS (own : String) (index : Nat) (Y : zz_Y) (n : Nat) : Prop := zz_lk own index Y.1 ∧ Cond.static Y.1 ∈ zz_T ∧ zz_yy Y n
def zz_LI (own : String) (index : Nat) (Y : zz_Y) (n : Nat) : Prop := zz_lk own index Y.1 ∧ Cond.instanceMethod Y.1 ∈ zz_T ∧ Y.1.name = "<init>" ∧ zz_yy Y n
theorem zz_m {w : Cond} (h : w ∈ lw_tbl) (g : goodWord w = true) : w ∈ zz_T := List.mem_filter.mpr ⟨h, g⟩
theorem zz_t (i : Nat) {w : Cond} (h : tables_1[i]? = some w) (g : goodWord w = true) : w ∈ zz_T := zz_m (List.mem_append_right _ (List.mem_of_getElem? h)) g
theorem zz_s (i : Nat) {w : Cond} (h : (k2_sels lw_privs)[i]? = some w) (g : goodWord w = true) : w ∈ zz_T := zz_m (List.mem_append_left _ (List.mem_of_getElem? h)) g
theorem zz_goodT : zz_T.all goodWord = true := List.all_eq_true.mpr (fun _ h => (List.mem_filter.mp h).2)
theorem zz_n (i : Nat) {w : Cond} (h : tables_1[i]? = some w) (g : zz_isN w = true) : w ∈ zz_nw := List.mem_filter.mpr ⟨List.mem_append_right _ (List.mem_of_getElem? h), g⟩
theorem zz_oi1 : Cond.instanceMethod objectInit ∈ zz_T := (zz_t 26 (by decide +kernel) (by decide +kernel))
theorem zz_oi2 : Cond.code objectInit ⟨#[0xb1]⟩ 1 none ∈ zz_T := (zz_t 27 (by decide +kernel) (by decide +kernel))
theorem zz_ac1 : Cond.native arraycopyName ∈ zz_T := (zz_t 624 (by decide +kernel) (by decide +kernel))
theorem zz_ac2 : Cond.static arraycopyName ∈ zz_T := (zz_t 623 (by decide +kernel) (by decide +kernel))
theorem zz_ac3 : Cond.initialized "java/lang/System" ∈ zz_T := (zz_t 18 (by decide +kernel) (by decide +kernel))
theorem zz_mt : Cond.initialized "java/lang/Math" ∈ zz_T := (zz_t 16 (by decide +kernel) (by decide +kernel))
theorem zz_mx1 : Cond.static Lib.Math.max.name ∈ zz_T := (zz_t 495 (by decide +kernel) (by decide +kernel))
theorem zz_mx2 : Cond.code Lib.Math.max.name Lib.Math.max.code 2 (some .int) ∈ zz_T := (zz_t 496 (by decide +kernel) (by decide +kernel))
theorem zz_mn1 : Cond.static Lib.Math.min.name ∈ zz_T := (zz_t 498 (by decide +kernel) (by decide +kernel))
theorem zz_mn2 : Cond.code Lib.Math.min.name Lib.Math.min.code 2 (some .int) ∈ zz_T := (zz_t 499 (by decide +kernel) (by decide +kernel))
theorem zz_N.warm {s U : State} (hW : s.WarmedH U.vm) (h : zz_N s) : zz_N U := by
  refine ⟨fun w hw => ?_, va_AO.moved hW.alike h.2.1, va_AO.moved hW.alike h.2.2⟩
  have h1 := h.1 w hw
  have h2 := (List.mem_filter.mp hw).2
  cases w <;> first | exact va_Nw.warmF hW h1 | exact va_Nw.warmM hW h1 | exact absurd h2 (by decide) | (exfalso; revert h2; simp [zz_isN])
theorem zz_N.calling {U : State} {g : JFrame} {mk : MethodId} {a : Array Value} (h : zz_N U) : zz_N (U.calling g mk a) := by
  refine ⟨fun w hw => ?_, va_AO.moved (Vm.Alike.refl U.vm) h.2.1, va_AO.moved (Vm.Alike.refl U.vm) h.2.2⟩
  have h1 := h.1 w hw
  have h2 := (List.mem_filter.mp hw).2
  cases w <;> first | exact va_Nw.same rfl rfl h1 | exact absurd h2 (by decide) | (exfalso; revert h2; simp [zz_isN])
theorem zz_Pre.blind {G : zz_G} {w0 : va_W} {sz : Nat} {vs : List Value} : FrameBlind (va_Pc vs (zz_Pre G w0 sz)) := fun a U g mk q => by
  obtain ⟨q0, q1, q2, q3, q4, q5⟩ := q
  exact ⟨q0, q1, q2, va_K.moved (u := U) (U := U.calling g mk a) (Vm.Alike.refl U.vm) q3, q4, q5.calling⟩
theorem zz_good {Y : zz_Y} (h : Cond.code Y.1 Y.2.1 Y.2.2.1 Y.2.2.2 ∈ zz_T) : GoodIn zz_T (zz_ws Y) := by
  intro w hw
  rcases List.mem_cons.mp hw with rfl | hw
  · exact ⟨h, good_of_word (List.mem_filter.mp h).2⟩
  · exact ⟨hw, good_of_word (List.mem_filter.mp hw).2⟩
theorem zz_w.sub {G : zz_G} {A : Nat → Prop} {s : State} {ws ws' : va_W} {H : Heap} {locs : List Loc} (h : zz_w G A s ws H locs) (is : List Nat) (hn : va_nd is = true) (hs : is.map (fun i => ws[i]?) = ws'.map some) : zz_w G A s ws' H locs := by
  obtain ⟨hK, hP, hD, hS, hA, hN⟩ := h
  refine ⟨hK, hP.sub is ?_, hD.sub is hn hs, hS, hA, hN⟩
  clear hn hD hP
  induction is generalizing ws' with
  | nil => cases ws' with
    | nil => rfl
    | cons a t => simp at hs
  | cons i is ih => cases ws' with
    | nil => simp at hs
    | cons a t =>
      simp only [List.map_cons, List.cons.injEq] at hs
      simp only [List.filterMap_cons, hs.1]
      rw [ih hs.2]
theorem zz_topi {p : Program} {l : Launch} {e : Env} {R : Room} {s : State} {m : MethodId} {args : Array Value} {below : List Frame} {meth : Method} {c : Code} {H : Heap} {locs : List Loc} {cells slots : Nat} {Q : State → Prop} {pc : Nat} {ls : Array Slot} {rest : List Value} {x y : Int32} (h : x = y) (k : W p l e R s m args below meth c H locs cells slots Q (F0 m pc ls (.int y :: rest))) : W p l e R s m args below meth c H locs cells slots Q (F0 m pc ls (.int x :: rest)) := by subst h; exact k
theorem zz_topl {p : Program} {l : Launch} {e : Env} {R : Room} {s : State} {m : MethodId} {args : Array Value} {below : List Frame} {meth : Method} {c : Code} {H : Heap} {locs : List Loc} {cells slots : Nat} {Q : State → Prop} {pc : Nat} {ls : Array Slot} {rest : List Value} {x y : Int64} (h : x = y) (k : W p l e R s m args below meth c H locs cells slots Q (F0 m pc ls (.long y :: rest))) : W p l e R s m args below meth c H locs cells slots Q (F0 m pc ls (.long x :: rest)) := by subst h; exact k
section ZE
variable {l : Launch} {G : zz_G} {y : MethodName} {cc : ByteArray} {nL d mc ms : Nat} {rt : FieldType} {vs : List Value} {w0 : va_W} {post : Option Value → va_W → Prop}
theorem zz_enteri (hy : plainName y.cls = true) (hn : (lg_sl vs).length ≤ nL) (body : ∀ (p : Program) (e : Env) (s : State) (m : MethodId) (args : Array Value) (below : List Frame) (meth : Method) (c : Code) (A : Nat → Prop) (Q : State → Prop) (ls : Array Slot), CallFix p m c cc nL s args zz_T y.cls → meth.name = y.name →
    (∀ (H : Heap) (locs : List Loc) (u : va_W) (pc : Nat) (ls : Array Slot) (v : Int32), post (some (.int v)) u → zz_w G A s u H locs → narrow rt (.int v) = .int v → decode cc pc = .ok (.ireturn, 1) → W p l e (zz_rm d mc ms) s m args below meth c H locs mc ms Q (F0 m pc ls [.int v])) →
    zz_w G A s w0 s.heap [] → lv_has ls nL (lv_args 0 vs) → W p l e (zz_rm d mc ms) s m args below meth c s.heap [] 0 0 Q (F0 m 0 ls [])) : zz_M l G (y, cc, nL, some rt) d mc ms vs w0 post := by
  intro sz
  refine Met.ofW (cc := cc) (maxL := nL) (ret := some rt) hy rfl ?_
  intro p e s m args below meth c s₁ B hml hv
  obtain ⟨rfl, hsz, hP, hK, hD0, hN⟩ := hv
  have hts := atoms_spec (ws := zz_ws (y, cc, nL, some rt)) B.pre
  have hown : s.vm.findClass y.cls = some m.cls := findClass_of_methodNamed B.named
  have hlocks := B.notSynchronized
  have hnm := (name_of_methodNamed B.named B.method).1
  subst hsz
  rw [lg_entry_eq]
  refine body p e s m _ below meth c (va_A w0 s.heap.size) _ _ ⟨B.exec, B.bytes, hml, hown, fun w h => hts w (List.mem_cons_of_mem _ h)⟩ hnm ?_ ⟨hK, hP, hD0.self, va_S.rf, fun q h => Or.inr h, hN⟩ (lv_entry vs hn)
  intro H locs u pc ls v hp hw hn hd
  obtain ⟨hK, hP, hD, hS, hA, hN⟩ := hw
  exact W.zret B.exec B.bytes B.returns hn (fun t ht hW => ⟨⟨_, u, rfl, hp, by rw [ht]; exact hP, va_K.moved hW.alike hK, hD⟩, hS.F ht⟩) hS.2.2 hd
theorem zz_enterl (hy : plainName y.cls = true) (hn : (lg_sl vs).length ≤ nL) (body : ∀ (p : Program) (e : Env) (s : State) (m : MethodId) (args : Array Value) (below : List Frame) (meth : Method) (c : Code) (A : Nat → Prop) (Q : State → Prop) (ls : Array Slot), CallFix p m c cc nL s args zz_T y.cls → meth.name = y.name →
    (∀ (H : Heap) (locs : List Loc) (u : va_W) (pc : Nat) (ls : Array Slot) (v : Int64), post (some (.long v)) u → zz_w G A s u H locs → decode cc pc = .ok (.lreturn, 1) → W p l e (zz_rm d mc ms) s m args below meth c H locs mc ms Q (F0 m pc ls [.long v])) →
    zz_w G A s w0 s.heap [] → lv_has ls nL (lv_args 0 vs) → W p l e (zz_rm d mc ms) s m args below meth c s.heap [] 0 0 Q (F0 m 0 ls [])) : zz_M l G (y, cc, nL, some .long) d mc ms vs w0 post := by
  intro sz
  refine Met.ofW (cc := cc) (maxL := nL) (ret := some .long) hy rfl ?_
  intro p e s m args below meth c s₁ B hml hv
  obtain ⟨rfl, hsz, hP, hK, hD0, hN⟩ := hv
  have hts := atoms_spec (ws := zz_ws (y, cc, nL, some .long)) B.pre
  have hown : s.vm.findClass y.cls = some m.cls := findClass_of_methodNamed B.named
  have hlocks := B.notSynchronized
  have hnm := (name_of_methodNamed B.named B.method).1
  subst hsz
  rw [lg_entry_eq]
  refine body p e s m _ below meth c (va_A w0 s.heap.size) _ _ ⟨B.exec, B.bytes, hml, hown, fun w h => hts w (List.mem_cons_of_mem _ h)⟩ hnm ?_ ⟨hK, hP, hD0.self, va_S.rf, fun q h => Or.inr h, hN⟩ (lv_entry vs hn)
  intro H locs u pc ls v hp hw hd
  obtain ⟨hK, hP, hD, hS, hA, hN⟩ := hw
  exact W.lret B.exec B.bytes B.returns (fun t ht hW => ⟨⟨_, u, rfl, hp, by rw [ht]; exact hP, va_K.moved hW.alike hK, hD⟩, hS.F ht⟩) hS.2.2 hd
theorem zz_enterv (hy : plainName y.cls = true) (hn : (lg_sl vs).length ≤ nL) (body : ∀ (p : Program) (e : Env) (s : State) (m : MethodId) (args : Array Value) (below : List Frame) (meth : Method) (c : Code) (A : Nat → Prop) (Q : State → Prop) (ls : Array Slot), CallFix p m c cc nL s args zz_T y.cls → meth.name = y.name →
    (∀ (H : Heap) (locs : List Loc) (u : va_W) (pc : Nat) (ls : Array Slot), post none u → zz_w G A s u H locs → decode cc pc = .ok (.return_, 1) → W p l e (zz_rm d mc ms) s m args below meth c H locs mc ms Q (F0 m pc ls [])) →
    zz_w G A s w0 s.heap [] → lv_has ls nL (lv_args 0 vs) → W p l e (zz_rm d mc ms) s m args below meth c s.heap [] 0 0 Q (F0 m 0 ls [])) : zz_M l G (y, cc, nL, none) d mc ms vs w0 post := by
  intro sz
  refine Met.ofW (cc := cc) (maxL := nL) (ret := none) hy rfl ?_
  intro p e s m args below meth c s₁ B hml hv
  obtain ⟨rfl, hsz, hP, hK, hD0, hN⟩ := hv
  have hts := atoms_spec (ws := zz_ws (y, cc, nL, none)) B.pre
  have hown : s.vm.findClass y.cls = some m.cls := findClass_of_methodNamed B.named
  have hlocks := B.notSynchronized
  have hnm := (name_of_methodNamed B.named B.method).1
  subst hsz
  rw [lg_entry_eq]
  refine body p e s m _ below meth c (va_A w0 s.heap.size) _ _ ⟨B.exec, B.bytes, hml, hown, fun w h => hts w (List.mem_cons_of_mem _ h)⟩ hnm ?_ ⟨hK, hP, hD0.self, va_S.rf, fun q h => Or.inr h, hN⟩ (lv_entry vs hn)
  intro H locs u pc ls hp hw hd
  obtain ⟨hK, hP, hD, hS, hA, hN⟩ := hw
  exact W.vret B.exec B.bytes B.returns (fun t ht hW => ⟨⟨_, u, rfl, hp, by rw [ht]; exact hP, va_K.moved hW.alike hK, hD⟩, hS.F ht⟩) hS.2.2 hd
theorem zz_enterr {cn : String} (hy : plainName y.cls = true) (hn : (lg_sl vs).length ≤ nL) (body : ∀ (p : Program) (e : Env) (s : State) (m : MethodId) (args : Array Value) (below : List Frame) (meth : Method) (c : Code) (A : Nat → Prop) (Q : State → Prop) (ls : Array Slot), CallFix p m c cc nL s args zz_T y.cls → meth.name = y.name →
    (∀ (H : Heap) (locs : List Loc) (u : va_W) (pc : Nat) (ls : Array Slot) (v : Nat), post (some (.ref v)) u → zz_w G A s u H locs → decode cc pc = .ok (.areturn, 1) → W p l e (zz_rm d mc ms) s m args below meth c H locs mc ms Q (F0 m pc ls [.ref v])) →
    zz_w G A s w0 s.heap [] → lv_has ls nL (lv_args 0 vs) → W p l e (zz_rm d mc ms) s m args below meth c s.heap [] 0 0 Q (F0 m 0 ls [])) : zz_M l G (y, cc, nL, some (.object cn)) d mc ms vs w0 post := by
  intro sz
  refine Met.ofW (cc := cc) (maxL := nL) (ret := some (.object cn)) hy rfl ?_
  intro p e s m args below meth c s₁ B hml hv
  obtain ⟨rfl, hsz, hP, hK, hD0, hN⟩ := hv
  have hts := atoms_spec (ws := zz_ws (y, cc, nL, some (.object cn))) B.pre
  have hown : s.vm.findClass y.cls = some m.cls := findClass_of_methodNamed B.named
  have hlocks := B.notSynchronized
  have hnm := (name_of_methodNamed B.named B.method).1
  subst hsz
  rw [lg_entry_eq]
  refine body p e s m _ below meth c (va_A w0 s.heap.size) _ _ ⟨B.exec, B.bytes, hml, hown, fun w h => hts w (List.mem_cons_of_mem _ h)⟩ hnm ?_ ⟨hK, hP, hD0.self, va_S.rf, fun q h => Or.inr h, hN⟩ (lv_entry vs hn)
  intro H locs u pc ls v hp hw hd
  obtain ⟨hK, hP, hD, hS, hA, hN⟩ := hw
  exact W.aret B.exec B.bytes B.returns (Or.inl ⟨_, rfl⟩) (Or.inr ⟨_, rfl⟩) (fun t ht hW => ⟨⟨_, u, rfl, hp, by rw [ht]; exact hP, va_K.moved hW.alike hK, hD⟩, hS.F ht⟩) hS.2.2 hd
end ZE
section ZR
variable {p : Program} {l : Launch} {e : Env} {R : Room} {s : State} {m : MethodId} {args : Array Value} {below : List Frame} {meth : Method} {c : Code} {H : Heap} {locs : List Loc} {cells slots : Nat} {Q : State → Prop}
variable {cc : ByteArray} {pc : Nat} {ls : Array Slot} {rest : List Value} {G : zz_G} {A : Nat → Prop} {a : Nat} {ws ws' : va_W} {nL : Nat} {own : String} {index : Nat}
theorem zz_get {ci k : Nat} (S : CallFix p m c cc nL s args zz_T own) (hw : zz_w G A s ws H locs) (hf : zz_FL own index ci k) (q0 : Nat) {fs : List Value} (he : ws[q0]? = some (a, .inr (ci, fs))) {v : Value} (hv : fs[k]? = some v) (hdg : decode cc pc = .ok (.getfield index, 3))
    (kk : W p l e R s m args below meth c H locs cells slots Q (F0 m (pc + 3) ls (v :: rest))) : W p l e R s m args below meth c H locs cells slots Q (F0 m pc ls (.ref a :: rest)) := by
  obtain ⟨hK, hP, hD, hS, hA, hN⟩ := hw
  obtain ⟨hx, hb, hml, hown, hts⟩ := S
  obtain ⟨C, T, N, ⟨hc, hin, ty0, hty, hnm⟩, hk, hl⟩ := hf
  rcases hl with hl | ⟨host, hl⟩
  · exact va_get hx hb hts hin hown hK hP q0 he hc k hk (hts _ hl) (fun _ h => h) hv hdg kk
  · exact va_getN hx hb hts hin hown hK hP q0 he hc k hk (va_Nw.use rfl (hN.1 _ hl)) (fun _ h => h) hv hdg kk
theorem zz_put {ci k : Nat} {ty : FieldType} (S : CallFix p m c cc nL s args zz_T own) (hw : zz_w G A s ws H locs) (hf : zz_FP own index ci k ty) (q0 : Nat) {fs : List Value} (he : ws[q0]? = some (a, .inr (ci, fs))) {v : Value} (hn : narrow ty v = v) (hfit : fits ty v = true) (hl : k < fs.length) (hws : ws.set q0 (a, .inr (ci, fs.set k v)) = ws') (hdg : decode cc pc = .ok (.putfield index, 3))
    (kk : ∀ (H1 : Heap) (locs1 : List Loc), zz_w G A s ws' H1 locs1 → W p l e R s m args below meth c H1 locs1 cells slots Q (F0 m (pc + 3) ls rest)) : W p l e R s m args below meth c H locs cells slots Q (F0 m pc ls (v :: .ref a :: rest)) := by
  obtain ⟨hK, hP, hD, hS, hA, hN⟩ := hw
  obtain ⟨hx, hb, hml, hown, hts⟩ := S
  obtain ⟨C, T, N, ⟨hc, hin, ty0, hty, hnm⟩, hk, hl0, hfin, hd⟩ := hf
  subst hws
  rcases hl0 with hl0 | ⟨host, hl0⟩
  · exact va_put hx hb hts hin ty0 hty hnm hown hK hP hD hS q0 he hc k hk (hts _ hl0) (fun _ h => h) hfin hd hn hfit hl hdg (fun H1 locs1 h1 h2 h3 => kk H1 locs1 ⟨hK, h1, h2, h3, hA, hN⟩)
  · exact va_putN hx hb hts hin ty0 hty hnm hown hK hP hD hS q0 he hc k hk (va_Nw.use rfl (hN.1 _ hl0)) (fun _ h => h) hfin hd hn hfit hl hdg (fun H1 locs1 h1 h2 h3 => kk H1 locs1 ⟨hK, h1, h2, h3, hA, hN⟩)
theorem zz_putF {ci k : Nat} {ty : FieldType} (S : CallFix p m c cc nL s args zz_T own) (hin0 : meth.name = "<init>") (hw : zz_w G A s ws H locs) (hf : zz_FF own index ci k ty) (q0 : Nat) {fs : List Value} (he : ws[q0]? = some (a, .inr (ci, fs))) {v : Value} (hn : narrow ty v = v) (hfit : fits ty v = true) (hl : k < fs.length) (hws : ws.set q0 (a, .inr (ci, fs.set k v)) = ws') (hdg : decode cc pc = .ok (.putfield index, 3))
    (kk : ∀ (H1 : Heap) (locs1 : List Loc), zz_w G A s ws' H1 locs1 → W p l e R s m args below meth c H1 locs1 cells slots Q (F0 m (pc + 3) ls rest)) : W p l e R s m args below meth c H locs cells slots Q (F0 m pc ls (v :: .ref a :: rest)) := by
  obtain ⟨hK, hP, hD, hS, hA, hN⟩ := hw
  obtain ⟨hx, hb, hml, hown, hts⟩ := S
  obtain ⟨C, T, N, ⟨hc, hin, ty0, hty, hnm⟩, hk, hl0, hfin, hd, hdecl⟩ := hf
  subst hws
  exact va_putF hx hb hts hin ty0 hty hnm hown hK hP hD hS q0 he hc k hk (hts _ hl0) (fun _ h => h) hfin hin0 hdecl hd hn hfit hl hdg (fun H1 locs1 h1 h2 h3 => kk H1 locs1 ⟨hK, h1, h2, h3, hA, hN⟩)
theorem zz_iald (S : CallFix p m c cc nL s args zz_T own) (hw : zz_w G A s ws H locs) (q0 : Nat) {n : Nat} {f : Nat → Int32} (ha : ws[q0]? = some (a, .inl (G.2 0, n, .inl f))) {i v : Int32} (hin : vp_in i n) (hv : f i.toNatClampNeg = v) (hdg : decode cc pc = .ok (.iaload, 1))
    (kk : W p l e R s m args below meth c H locs cells slots Q (F0 m (pc + 1) ls (.int v :: rest))) : W p l e R s m args below meth c H locs cells slots Q (F0 m pc ls (.int i :: .ref a :: rest)) := by
  subst hv; exact va_iald S.1 S.2.1 hw.1 hw.2.1 q0 0 ha rfl hin hdg kk
theorem zz_bald (S : CallFix p m c cc nL s args zz_T own) (hw : zz_w G A s ws H locs) (q0 : Nat) {n : Nat} {f : Nat → Int32} (ha : ws[q0]? = some (a, .inl (G.2 1, n, .inl f))) {i v : Int32} (hin : vp_in i n) (hv : f i.toNatClampNeg = v) (hdg : decode cc pc = .ok (.baload, 1))
    (kk : W p l e R s m args below meth c H locs cells slots Q (F0 m (pc + 1) ls (.int v :: rest))) : W p l e R s m args below meth c H locs cells slots Q (F0 m pc ls (.int i :: .ref a :: rest)) := by
  subst hv; exact va_bald S.1 S.2.1 hw.1 hw.2.1 q0 1 ha rfl hin hdg kk
theorem zz_zald (S : CallFix p m c cc nL s args zz_T own) (hw : zz_w G A s ws H locs) (q0 : Nat) {n : Nat} {f : Nat → Int32} (ha : ws[q0]? = some (a, .inl (G.2 2, n, .inl f))) {i v : Int32} (hin : vp_in i n) (hv : f i.toNatClampNeg = v) (hdg : decode cc pc = .ok (.baload, 1))
    (kk : W p l e R s m args below meth c H locs cells slots Q (F0 m (pc + 1) ls (.int v :: rest))) : W p l e R s m args below meth c H locs cells slots Q (F0 m pc ls (.int i :: .ref a :: rest)) := by
  subst hv; exact va_zald S.1 S.2.1 hw.1 hw.2.1 q0 2 ha rfl hin hdg kk
theorem zz_lald (S : CallFix p m c cc nL s args zz_T own) (hw : zz_w G A s ws H locs) (q0 : Nat) {n : Nat} {f : Nat → Int64} (ha : ws[q0]? = some (a, .inl (G.2 3, n, .inr (.inl f)))) {i : Int32} {v : Int64} (hin : vp_in i n) (hv : f i.toNatClampNeg = v) (hdg : decode cc pc = .ok (.laload, 1))
    (kk : W p l e R s m args below meth c H locs cells slots Q (F0 m (pc + 1) ls (.long v :: rest))) : W p l e R s m args below meth c H locs cells slots Q (F0 m pc ls (.int i :: .ref a :: rest)) := by
  subst hv; exact va_lald S.1 S.2.1 hw.1 hw.2.1 q0 3 ha rfl hin hdg kk
theorem zz_aldL (S : CallFix p m c cc nL s args zz_T own) (hw : zz_w G A s ws H locs) (q0 : Nat) {n : Nat} {f : Nat → Option Nat} (ha : ws[q0]? = some (a, .inl (G.2 4, n, .inr (.inr (.inr (.inr f)))))) {i : Int32} {v : Nat} (hin : vp_in i n) (hv : f i.toNatClampNeg = some v) (hdg : decode cc pc = .ok (.aaload, 1))
    (kk : W p l e R s m args below meth c H locs cells slots Q (F0 m (pc + 1) ls (.ref v :: rest))) : W p l e R s m args below meth c H locs cells slots Q (F0 m pc ls (.int i :: .ref a :: rest)) := by
  refine va_aldq S.1 S.2.1 hw.1 hw.2.1 q0 4 ha rfl hin hdg ?_
  rw [hv]; exact kk
theorem zz_aldS (S : CallFix p m c cc nL s args zz_T own) (hw : zz_w G A s ws H locs) (q0 : Nat) {n : Nat} {f : Nat → Option Nat} (ha : ws[q0]? = some (a, .inl (G.2 5, n, .inr (.inr (.inr (.inr f)))))) {i : Int32} {v : Nat} (hin : vp_in i n) (hv : f i.toNatClampNeg = some v) (hdg : decode cc pc = .ok (.aaload, 1))
    (kk : W p l e R s m args below meth c H locs cells slots Q (F0 m (pc + 1) ls (.ref v :: rest))) : W p l e R s m args below meth c H locs cells slots Q (F0 m pc ls (.int i :: .ref a :: rest)) := by
  refine va_aldq S.1 S.2.1 hw.1 hw.2.1 q0 5 ha rfl hin hdg ?_
  rw [hv]; exact kk
theorem zz_iast (S : CallFix p m c cc nL s args zz_T own) (hw : zz_w G A s ws H locs) (q0 : Nat) {n : Nat} {f g : Nat → Int32} (ha : ws[q0]? = some (a, .inl (G.2 0, n, .inl f))) {i x : Int32} (hin : vp_in i n) (hg : upd f i.toNatClampNeg x = g) (hws : ws.set q0 (a, .inl (G.2 0, n, .inl g)) = ws') (hdg : decode cc pc = .ok (.iastore, 1))
    (kk : ∀ (H1 : Heap) (locs1 : List Loc), zz_w G A s ws' H1 locs1 → W p l e R s m args below meth c H1 locs1 cells slots Q (F0 m (pc + 1) ls rest)) : W p l e R s m args below meth c H locs cells slots Q (F0 m pc ls (.int x :: .int i :: .ref a :: rest)) := by
  obtain ⟨hK, hP, hD, hS, hA, hN⟩ := hw
  subst hws; subst hg
  exact va_iast S.1 S.2.1 hK hP hD hS q0 0 ha rfl hin hdg (fun H1 locs1 h1 h2 h3 => kk H1 locs1 ⟨hK, h1, h2, h3, hA, hN⟩)
theorem zz_bast (S : CallFix p m c cc nL s args zz_T own) (hw : zz_w G A s ws H locs) (q0 : Nat) {n : Nat} {f g : Nat → Int32} (ha : ws[q0]? = some (a, .inl (G.2 1, n, .inl f))) {i x : Int32} (hin : vp_in i n) (hg : upd f i.toNatClampNeg (vp_nar .byte x) = g) (hws : ws.set q0 (a, .inl (G.2 1, n, .inl g)) = ws') (hdg : decode cc pc = .ok (.bastore, 1))
    (kk : ∀ (H1 : Heap) (locs1 : List Loc), zz_w G A s ws' H1 locs1 → W p l e R s m args below meth c H1 locs1 cells slots Q (F0 m (pc + 1) ls rest)) : W p l e R s m args below meth c H locs cells slots Q (F0 m pc ls (.int x :: .int i :: .ref a :: rest)) := by
  obtain ⟨hK, hP, hD, hS, hA, hN⟩ := hw
  subst hws; subst hg
  exact va_bast S.1 S.2.1 hK hP hD hS q0 1 ha rfl hin hdg (fun H1 locs1 h1 h2 h3 => kk H1 locs1 ⟨hK, h1, h2, h3, hA, hN⟩)
theorem zz_zast (S : CallFix p m c cc nL s args zz_T own) (hw : zz_w G A s ws H locs) (q0 : Nat) {n : Nat} {f g : Nat → Int32} (ha : ws[q0]? = some (a, .inl (G.2 2, n, .inl f))) {i x : Int32} (hin : vp_in i n) (hg : upd f i.toNatClampNeg (vp_nar .boolean x) = g) (hws : ws.set q0 (a, .inl (G.2 2, n, .inl g)) = ws') (hdg : decode cc pc = .ok (.bastore, 1))
    (kk : ∀ (H1 : Heap) (locs1 : List Loc), zz_w G A s ws' H1 locs1 → W p l e R s m args below meth c H1 locs1 cells slots Q (F0 m (pc + 1) ls rest)) : W p l e R s m args below meth c H locs cells slots Q (F0 m pc ls (.int x :: .int i :: .ref a :: rest)) := by
  obtain ⟨hK, hP, hD, hS, hA, hN⟩ := hw
  subst hws; subst hg
  exact va_zast S.1 S.2.1 hK hP hD hS q0 2 ha rfl hin hdg (fun H1 locs1 h1 h2 h3 => kk H1 locs1 ⟨hK, h1, h2, h3, hA, hN⟩)
theorem zz_last (S : CallFix p m c cc nL s args zz_T own) (hw : zz_w G A s ws H locs) (q0 : Nat) {n : Nat} {f g : Nat → Int64} (ha : ws[q0]? = some (a, .inl (G.2 3, n, .inr (.inl f)))) {i : Int32} {x : Int64} (hin : vp_in i n) (hg : vp_updL f i.toNatClampNeg x = g) (hws : ws.set q0 (a, .inl (G.2 3, n, .inr (.inl g))) = ws') (hdg : decode cc pc = .ok (.lastore, 1))
    (kk : ∀ (H1 : Heap) (locs1 : List Loc), zz_w G A s ws' H1 locs1 → W p l e R s m args below meth c H1 locs1 cells slots Q (F0 m (pc + 1) ls rest)) : W p l e R s m args below meth c H locs cells slots Q (F0 m pc ls (.long x :: .int i :: .ref a :: rest)) := by
  obtain ⟨hK, hP, hD, hS, hA, hN⟩ := hw
  subst hws; subst hg
  exact va_last S.1 S.2.1 hK hP hD hS q0 3 ha rfl hin hdg (fun H1 locs1 h1 h2 h3 => kk H1 locs1 ⟨hK, h1, h2, h3, hA, hN⟩)
theorem zz_astL (S : CallFix p m c cc nL s args zz_T own) (hw : zz_w G A s ws H locs) (q0 qk : Nat) {n v : Nat} {vs : List Value} {f g : Nat → Option Nat} (ha : ws[q0]? = some (a, .inl (G.2 4, n, .inr (.inr (.inr (.inr f)))))) (hv : ws[qk]? = some (v, .inr (2, vs))) {i : Int32} (hin : vp_in i n) (hg : va_up f i.toNatClampNeg (some v) = g) (hws : ws.set q0 (a, .inl (G.2 4, n, .inr (.inr (.inr (.inr g))))) = ws') (hdg : decode cc pc = .ok (.aastore, 1))
    (kk : ∀ (H1 : Heap) (locs1 : List Loc), zz_w G A s ws' H1 locs1 → W p l e R s m args below meth c H1 locs1 cells slots Q (F0 m (pc + 1) ls rest)) : W p l e R s m args below meth c H locs cells slots Q (F0 m pc ls (.ref v :: .int i :: .ref a :: rest)) := by
  obtain ⟨hK, hP, hD, hS, hA, hN⟩ := hw
  subst hws; subst hg
  exact va_astq S.1 S.2.1 hK hP hD hS q0 4 qk 2 (r := (RX2, TX2, 5)) ha rfl hv rfl hin hdg (fun H1 locs1 h1 h2 h3 => kk H1 locs1 ⟨hK, h1, h2, h3, hA, hN⟩)
theorem zz_astS (S : CallFix p m c cc nL s args zz_T own) (hw : zz_w G A s ws H locs) (q0 qk : Nat) {n v : Nat} {vs : List Value} {f g : Nat → Option Nat} (ha : ws[q0]? = some (a, .inl (G.2 5, n, .inr (.inr (.inr (.inr f)))))) (hv : ws[qk]? = some (v, .inr (6, vs))) {i : Int32} (hin : vp_in i n) (hg : va_up f i.toNatClampNeg (some v) = g) (hws : ws.set q0 (a, .inl (G.2 5, n, .inr (.inr (.inr (.inr g))))) = ws') (hdg : decode cc pc = .ok (.aastore, 1))
    (kk : ∀ (H1 : Heap) (locs1 : List Loc), zz_w G A s ws' H1 locs1 → W p l e R s m args below meth c H1 locs1 cells slots Q (F0 m (pc + 1) ls rest)) : W p l e R s m args below meth c H locs cells slots Q (F0 m pc ls (.ref v :: .int i :: .ref a :: rest)) := by
  obtain ⟨hK, hP, hD, hS, hA, hN⟩ := hw
  subst hws; subst hg
  exact va_astq S.1 S.2.1 hK hP hD hS q0 5 qk 6 (r := (RX6, TX6, 7)) ha rfl hv rfl hin hdg (fun H1 locs1 h1 h2 h3 => kk H1 locs1 ⟨hK, h1, h2, h3, hA, hN⟩)
theorem zz_alen (S : CallFix p m c cc nL s args zz_T own) (hw : zz_w G A s ws H locs) (q0 t0 : Nat) {cA : ClassId} {x : vp_A} (ha : ws[q0]? = some (a, .inl (cA, x))) {ty : FieldType} (ht : (zz_ty G)[t0]? = some (cA, ty)) {v : Int32} (hv : Int32.ofNat x.1 = v) (hdg : decode cc pc = .ok (.arraylength, 1))
    (kk : W p l e R s m args below meth c H locs cells slots Q (F0 m (pc + 1) ls (.int v :: rest))) : W p l e R s m args below meth c H locs cells slots Q (F0 m pc ls (.ref a :: rest)) := va_alen S.1 S.2.1 hw.1 hw.2.1 q0 t0 ha ht hv hdg kk
theorem zz_new {C : String} {T : u_T} {N ci : Nat} (S : CallFix p m c cc nL s args zz_T own) (hw : zz_w G A s ws H locs) (hCL : zz_CL ci C T N) (tyf : Nat → FieldType) (htf : ∀ k, k < N → parseFieldDescriptor (T k).2.2.1 = some (tyf k)) (h1 : Cond.classLink own index C ∈ zz_T) (h2 : Cond.instantiable C N ∈ zz_T) (h3 : Cond.initialized C ∈ zz_T) {fs : List Value} (hfs : ∀ j, j < N → defaultValue (tyf j) = vp_V fs j) (hcells : cells + 1 ≤ R.cells) (hslots : slots + N ≤ R.slots) (hdg : decode cc pc = .ok (.new index, 3))
    (kk : ∀ (q : Nat) (H1 : Heap), zz_w G A s (ws ++ [(q, .inr (ci, fs))]) H1 locs → W p l e R s m args below meth c H1 locs (cells + 1) (slots + N) Q (F0 m (pc + 3) ls (.ref q :: rest))) : W p l e R s m args below meth c H locs cells slots Q (F0 m pc ls rest) := by
  obtain ⟨hK, hP, hD, hS, hA, hN⟩ := hw
  obtain ⟨hx, hb, hml, hown, hts⟩ := S
  obtain ⟨hc, hin, ty0, hty, hnm⟩ := hCL
  exact va_new hx hb hts hin tyf htf hown (hts _ h1) (hts _ h2) (hts _ h3) hK hP hD hS hA hc hfs hcells hslots hdg (fun q H1 g1 g2 g3 => kk q H1 ⟨hK, g1, g2, g3, hA, hN⟩)
theorem zz_newa {at_ : ArrayType} {ty : FieldType} {a0 : vp_A} {n : Int32} {N' : Nat} (t0 : Nat) (S : CallFix p m c cc nL s args zz_T own) (hw : zz_w G A s ws H locs) (harr : Cond.arrayClass (newarray.typeOf at_) ∈ zz_T) (hty : newarray.typeOf at_ = ty) (ht : (zz_ty G)[t0]? = some (G.2 t0, ty)) (hpt : ∀ (U : State) (cA : ClassId), va_RA U cA ty → U.vm.findClass ("[" ++ ty.toString) = some cA) (ha : ∀ cA : ClassId, vp_cell cA a0 = arrV cA N' (fun _ => defaultValue ty)) (hn : ¬ n < 0) (hN : n.toNatClampNeg = N') (hbytes : N' * componentBytes ty ≤ 536870912) (hcells : cells + 1 ≤ R.cells) (hslots : slots + N' ≤ R.slots) (hdg : decode cc pc = .ok (.newarray at_, 2))
    (kk : ∀ (q : Nat) (H1 : Heap), zz_w G A s (ws ++ [(q, .inl (G.2 t0, a0))]) H1 locs → W p l e R s m args below meth c H1 locs (cells + 1) (slots + N') Q (F0 m (pc + 2) ls (.ref q :: rest))) : W p l e R s m args below meth c H locs cells slots Q (F0 m pc ls (.int n :: rest)) := by
  obtain ⟨hK, hP, hD, hS, hA, hN0⟩ := hw
  obtain ⟨hx, hb, hml, hown, hts⟩ := S
  refine va_newa (atype := at_) hx hb (hts _ harr) hty hK hP hD hS hA ha hn hN hbytes hcells hslots hdg (fun q cA H1 g0 g1 g2 g3 => ?_)
  have e1 := hpt _ _ (g0.2 6 (cA, ty) rfl).2
  have e2 := hpt _ _ (hK.2 t0 _ ht).2
  have e : cA = G.2 t0 := Option.some.inj (e1.symm.trans e2)
  subst e
  exact kk q H1 ⟨hK, g1, g2, g3, hA, hN0⟩
theorem zz_newq {C : String} {n : Int32} {N' : Nat} (t0 : Nat) (S : CallFix p m c cc nL s args zz_T own) (hw : zz_w G A s ws H locs) (h1 : Cond.classLink own index C ∈ zz_T) (hao : va_AO C s) (ht : (zz_ty G)[t0]? = some (G.2 t0, .object C)) (hn : ¬ n < 0) (hN : n.toNatClampNeg = N') (hbytes : N' * 4 ≤ 536870912) (hcells : cells + 1 ≤ R.cells) (hslots : slots + N' ≤ R.slots) (hdg : decode cc pc = .ok (.anewarray index, 3))
    (kk : ∀ (q : Nat) (H1 : Heap), zz_w G A s (ws ++ [(q, .inl (G.2 t0, N', .inr (.inr (.inr (.inr (fun _ => none))))))]) H1 locs → W p l e R s m args below meth c H1 locs (cells + 1) (slots + N') Q (F0 m (pc + 3) ls (.ref q :: rest))) : W p l e R s m args below meth c H locs cells slots Q (F0 m pc ls (.int n :: rest)) := by
  obtain ⟨hK, hP, hD, hS, hA, hN0⟩ := hw
  obtain ⟨hx, hb, hml, hown, hts⟩ := S
  refine va_newq hx hb hown (hts _ h1) hao hK hP hD hS hA hn hN hbytes hcells hslots hdg (fun q cA H1 g0 g1 g2 g3 => ?_)
  obtain ⟨_, _, _, _, _, e1⟩ := (g0.2 6 (cA, .object C) rfl).2
  obtain ⟨_, _, _, _, _, e2⟩ := (hK.2 t0 _ ht).2
  have e : cA = G.2 t0 := Option.some.inj (e1.symm.trans e2)
  subst e
  exact kk q H1 ⟨hK, g1, g2, g3, hA, hN0⟩
theorem zz_obj (S : CallFix p m c cc nL s args zz_T own) (hlk : Cond.methodLink own index objectInit ∈ zz_T) (hl : ls.size = nL) (hd : decode cc pc = .ok (.invokespecial index, 3)) (hfr : 1 ≤ R.frames) (hlo : (rest.map fun v => v.category).sum + 12 ≤ R.locals) (kk : W p l e R s m args below meth c H locs cells slots Q (F0 m (pc + 3) ls rest)) : W p l e R s m args below meth c H locs cells slots Q (F0 m pc ls (.ref a :: rest)) := by
  obtain ⟨hx, hb, hml, hown, hts⟩ := S
  exact W.objInit hx hb hown (hts _ hlk) (hts _ zz_oi1) (hts _ zz_oi2) rfl (by rw [hml]; exact hl) rfl hd hfr (by show 2 * 0 + _ + 12 ≤ _; omega) kk
theorem zz_go {mc ms : Nat} {st0 : List Value} {av : Array Value} {wc wr : va_W} {post : Option Value → va_W → Prop} (hr : va_Run p l e R s m args below meth c H locs cells slots mc ms (F0 m pc ls st0) rest (zz_Q G wc H.size post av) (va_A wc H.size)) (hw : zz_w G A s ws H locs) (isC isR : List Nat) (hC : isC.map (fun i => ws[i]?) = wc.map some) (hR : isR.map (fun i => ws[i]?) = wr.map some) (hn : va_nd isR = true) (hdis : ∀ i ∈ isR, i ∉ isC)
    (kk : ∀ (r : Option Value) (u : va_W) (H1 : Heap) (locs1 : List Loc), post r u → zz_w G A s (wr ++ u) H1 locs1 → W p l e R s m args below meth c H1 locs1 (cells + mc) (slots + ms) Q (F0 m (pc + 3) ls (r.toList ++ rest))) : W p l e R s m args below meth c H locs cells slots Q (F0 m pc ls st0) := by
  obtain ⟨hK, hP, hD, hS, hA, hN⟩ := hw
  have hF := va_free (wc := wc) hD hS hA isC hC
  intro T hT X
  obtain ⟨v, st₀, t, T', L, h0, X', hL, e1, e2, ⟨⟨r, u, hv, hp, hP1, hK1, hD1⟩, hz, hk⟩, st⟩ := hr T hT X
  cases hv
  rw [h0] at hz hk
  obtain ⟨hP2, hD2⟩ := va_join (wr := wr) (w1 := u) hP hD isC isR hC hR hn hdis hk hF hP1 hD1
  obtain ⟨t2, a1, b1⟩ := kk _ u T'.heap (locs ++ L) hp
    ⟨hK, by rw [e1]; exact hP2, hD2, ⟨Nat.le_trans hS.1 (by rw [e1]; exact hz), fun q h1 h2 => by rw [e1, hk q (Nat.lt_of_lt_of_le h1 hS.1) (fun z => h2 (hF q z))]; exact hS.2.1 q h1 h2, fun q hq => by
      rcases List.mem_append.mp hq with h | h
      · exact hS.2.2 q h
      · exact hF _ (hL q h)⟩, hA, hN⟩ T' rfl X'
  exact ⟨t2, st t2 a1, b1⟩
theorem zz_pre {wc : va_W} {vs : List Value} (hw : zz_w G A s ws H locs) (isC : List Nat) (hn : va_nd isC = true) (hC : isC.map (fun i => ws[i]?) = wc.map some) : ∀ U : State, U.heap = H → s.WarmedH U.vm → va_Pc vs (zz_Pre G wc H.size) vs.toArray U := by
  intro U hU hW
  obtain ⟨hK, hP, hD, hS, hA, hN⟩ := hw.sub isC hn hC
  subst hU
  exact ⟨rfl, rfl, hP, va_K.moved hW.alike hK, ⟨hD.1, fun _ _ _ => trivial⟩, hN.warm hW⟩
theorem zz_callV {Y : zz_Y} {n d mc ms ci qb b : Nat} {As st0 : List Value} {wc wr : va_W} {post : Option Value → va_W → Prop} {fs : List Value} (S : CallFix p m c cc nL s args zz_T own) (hw : zz_w G A s ws H locs) (hl : ls.size = nL) (lk : zz_LV own index Y n) (ct : zz_M l G Y d mc ms (.ref b :: As) wc post) (hRm : d + 1 ≤ R.frames ∧ 8 + (Y.2.2.1 + 11) + 40 * d ≤ R.locals) (hf : cells + mc ≤ R.cells ∧ slots + ms ≤ R.slots) (isC isR : List Nat) (hnC : va_nd isC = true) (hC : isC.map (fun i => ws[i]?) = wc.map some) (hR : isR.map (fun i => ws[i]?) = wr.map some) (hn : va_nd isR = true) (hdis : ∀ i ∈ isR, i ∉ isC) (hqb : ws[qb]? = some (b, .inr (ci, fs))) (hci : (zz_cl[ci]?).map (fun q => q.1) = some Y.1.cls) (hA : As.length = n) (hst : st0 = As.reverse ++ .ref b :: rest) (hW : (rest.map fun v => v.category).sum ≤ 8) (hdg : decode cc pc = .ok (.invokevirtual index, 3))
    (kk : ∀ (r : Option Value) (u : va_W) (H1 : Heap) (locs1 : List Loc), post r u → zz_w G A s (wr ++ u) H1 locs1 → W p l e R s m args below meth c H1 locs1 (cells + mc) (slots + ms) Q (F0 m (pc + 3) ls (r.toList ++ rest))) : W p l e R s m args below meth c H locs cells slots Q (F0 m pc ls st0) := by
  obtain ⟨hlk, hin, hsel, hini, hcode, hy1, hy2, hpar⟩ := lk
  have hts := S.2.2.2.2
  have hrecv : ∃ cell : Cell, H[b]? = some cell ∧ cell.vm.isStatics = false ∧ s.vm.findClass Y.1.cls = some cell.cls := by
    cases hq : zz_cl[ci]? with
    | none => rw [hq] at hci; cases hci
    | some q =>
      rw [hq] at hci
      have e : q.1 = Y.1.cls := Option.some.inj hci
      rw [← e]
      exact va_recv hw.1 hw.2.1 hq hqb
  refine zz_go (rest := rest) (av := (Value.ref b :: As).toArray) ?_ hw isC isR hC hR hn hdis kk
  rcases hlk with hlk | ⟨host, hlk⟩
  · exact va_runV (n := n) S (ct H.size) ⟨callB_of n hts (zz_good hcode) rfl rfl rfl (hts _ hini) (hts _ hlk) ⟨hy1, hy2, hpar⟩ hRm, hts _ hin, hts _ hsel⟩ ⟨zz_Pre.blind, hrecv, zz_pre hw isC hnC hC⟩ rfl hA hl hst (by show 2 * 0 + _ ≤ _; omega) hdg hf
  · exact va_runVN (n := n) (host := host) (C := Y.1.cls) S (ct H.size) ⟨va_cnB n hts (zz_good hcode) rfl rfl rfl (hw.2.2.2.2.2.1 _ hlk) (hts _ hini) ⟨hy1, hy2, hpar⟩ hRm, hts _ hin, hts _ hsel⟩ ⟨zz_Pre.blind, hrecv, zz_pre hw isC hnC hC⟩ rfl hA hl hst (by show 2 * 0 + _ ≤ _; omega) hdg hf
theorem zz_callS {Y : zz_Y} {n d mc ms : Nat} {As st0 : List Value} {wc wr : va_W} {post : Option Value → va_W → Prop} (S : CallFix p m c cc nL s args zz_T own) (hw : zz_w G A s ws H locs) (hl : ls.size = nL) (lk : zz_LS own index Y n) (ct : zz_M l G Y d mc ms As wc post) (hRm : d + 1 ≤ R.frames ∧ 8 + (Y.2.2.1 + 11) + 40 * d ≤ R.locals) (hf : cells + mc ≤ R.cells ∧ slots + ms ≤ R.slots) (isC isR : List Nat) (hnC : va_nd isC = true) (hC : isC.map (fun i => ws[i]?) = wc.map some) (hR : isR.map (fun i => ws[i]?) = wr.map some) (hn : va_nd isR = true) (hdis : ∀ i ∈ isR, i ∉ isC) (hA : As.length = n) (hst : st0 = As.reverse ++ rest) (hW : (rest.map fun v => v.category).sum ≤ 8) (hdg : decode cc pc = .ok (.invokestatic index, 3))
    (kk : ∀ (r : Option Value) (u : va_W) (H1 : Heap) (locs1 : List Loc), post r u → zz_w G A s (wr ++ u) H1 locs1 → W p l e R s m args below meth c H1 locs1 (cells + mc) (slots + ms) Q (F0 m (pc + 3) ls (r.toList ++ rest))) : W p l e R s m args below meth c H locs cells slots Q (F0 m pc ls st0) := by
  obtain ⟨hlk, hstt, hini, hcode, hy1, hy2, hpar⟩ := lk
  have hts := S.2.2.2.2
  refine zz_go (rest := rest) (av := As.toArray) ?_ hw isC isR hC hR hn hdis kk
  rcases hlk with hlk | ⟨host, hlk⟩
  · exact va_runS (n := n) S (ct H.size) ⟨callB_of n hts (zz_good hcode) rfl rfl rfl (hts _ hini) (hts _ hlk) ⟨hy1, hy2, hpar⟩ hRm, hts _ hstt⟩ ⟨zz_Pre.blind, zz_pre hw isC hnC hC⟩ rfl hA hl hst (by show 2 * 0 + _ ≤ _; omega) hdg hf
  · exact va_runSN (n := n) (host := host) S (ct H.size) ⟨va_cnB n hts (zz_good hcode) rfl rfl rfl (hw.2.2.2.2.2.1 _ hlk) (hts _ hini) ⟨hy1, hy2, hpar⟩ hRm, hts _ hstt, trivial⟩ ⟨zz_Pre.blind, zz_pre hw isC hnC hC⟩ rfl hA hl hst (by show 2 * 0 + _ ≤ _; omega) hdg hf
theorem zz_callI {y : MethodName} {bytes : ByteArray} {mL n d mc ms b : Nat} {As st0 : List Value} {wc wr : va_W} {post : Option Value → va_W → Prop} (S : CallFix p m c cc nL s args zz_T own) (hw : zz_w G A s ws H locs) (hl : ls.size = nL) (lk : zz_LI own index (y, bytes, mL, none) n) (ct : zz_M l G (y, bytes, mL, none) d mc ms (.ref b :: As) wc post) (hRm : d + 1 ≤ R.frames ∧ 8 + (mL + 11) + 40 * d ≤ R.locals) (hf : cells + mc ≤ R.cells ∧ slots + ms ≤ R.slots) (isC isR : List Nat) (hnC : va_nd isC = true) (hC : isC.map (fun i => ws[i]?) = wc.map some) (hR : isR.map (fun i => ws[i]?) = wr.map some) (hn : va_nd isR = true) (hdis : ∀ i ∈ isR, i ∉ isC) (hA : As.length = n) (hst : st0 = As.reverse ++ .ref b :: rest) (hW : (rest.map fun v => v.category).sum ≤ 8) (hdg : decode cc pc = .ok (.invokespecial index, 3))
    (kk : ∀ (r : Option Value) (u : va_W) (H1 : Heap) (locs1 : List Loc), post r u → zz_w G A s (wr ++ u) H1 locs1 → W p l e R s m args below meth c H1 locs1 (cells + mc) (slots + ms) Q (F0 m (pc + 3) ls (r.toList ++ rest))) : W p l e R s m args below meth c H locs cells slots Q (F0 m pc ls st0) := by
  obtain ⟨hlk, hin, hnm, hini, hcode, hy1, hy2, hpar⟩ := lk
  have hts := S.2.2.2.2
  refine zz_go (rest := rest) (av := (Value.ref b :: As).toArray) ?_ hw isC isR hC hR hn hdis kk
  rcases hlk with hlk | ⟨host, hlk⟩
  · exact va_runI (n := n) S (ct H.size) ⟨callB_of n hts (zz_good hcode) rfl rfl rfl (hts _ hini) (hts _ hlk) ⟨hy1, hy2, hpar⟩ hRm, hnm, hts _ hin⟩ ⟨zz_Pre.blind, zz_pre hw isC hnC hC⟩ rfl hA hl hst (by show 2 * 0 + _ ≤ _; omega) hdg hf
  · exact va_runIN (n := n) (host := host) S (ct H.size) ⟨va_cnB n hts (zz_good hcode) rfl rfl rfl (hw.2.2.2.2.2.1 _ hlk) (hts _ hini) ⟨hy1, hy2, hpar⟩ hRm, hnm, hts _ hin⟩ ⟨zz_Pre.blind, zz_pre hw isC hnC hC⟩ rfl hA hl hst (by show 2 * 0 + _ ≤ _; omega) hdg hf
theorem zz_copyi (S : CallFix p m c cc nL s args zz_T own) (hw : zz_w G A s ws H locs) (hl : ls.size = nL) (hlk : Cond.methodLink own index arraycopyName ∈ zz_T) (q0 q1 : Nat) {a0 : Nat} {n0 n1 : Nat} {f g g' : Nat → Int32} (ha0 : ws[q0]? = some (a0, .inl (G.2 0, n0, .inl f))) (ha1 : ws[q1]? = some (a, .inl (G.2 0, n1, .inl g)))
    {sp dp n : Int32} (h1 : ¬ sp < 0) (h2 : ¬ dp < 0) (h3 : ¬ n < 0) (h4 : sp.toNatClampNeg + n.toNatClampNeg ≤ n0) (h5 : dp.toNatClampNeg + n.toNatClampNeg ≤ n1) (hg : va_cpy f g sp.toNatClampNeg dp.toNatClampNeg n.toNatClampNeg = g') (hws : ws.set q1 (a, .inl (G.2 0, n1, .inl g')) = ws')
    (hframes : 1 ≤ R.frames) (hlocals : (rest.map fun v => v.category).sum + (nativeFrameWords "java/lang/System" "arraycopy" 5 + 11) ≤ R.locals) (hdg : decode cc pc = .ok (.invokestatic index, 3))
    (kk : ∀ (H1 : Heap) (locs1 : List Loc), zz_w G A s ws' H1 locs1 → W p l e R s m args below meth c H1 locs1 cells slots Q (F0 m (pc + 3) ls rest)) : W p l e R s m args below meth c H locs cells slots Q (F0 m pc ls (.int n :: .int dp :: .ref a :: .int sp :: .ref a0 :: rest)) := by
  obtain ⟨hK, hP, hD, hS, hA, hN⟩ := hw
  obtain ⟨hx, hb, hml, hown, hts⟩ := S
  subst hws; subst hg
  exact va_copyi hx hb (by rw [hml, hl]) hown (hts _ hlk) (hts _ zz_ac1) (hts _ zz_ac2) (hts _ zz_ac3) hK hP hD hS q0 q1 0 0 ha0 ha1 rfl rfl rfl h1 h2 h3 h4 h5 (fun _ _ => rfl) hframes hlocals hdg (fun H1 locs1 h1 h2 h3 => kk H1 locs1 ⟨hK, h1, h2, h3, hA, hN⟩)
theorem zz_max (S : CallFix p m c cc nL s args zz_T own) (hl : ls.size = nL) (hlk : Cond.methodLink own index Lib.Math.max.name ∈ zz_T) (hfr : 1 ≤ R.frames) (hlo : (rest.map fun v => v.category).sum + 13 ≤ R.locals) (hc : cells ≤ R.cells) (hs : slots ≤ R.slots) {x y : Int32} (hdg : decode cc pc = .ok (.invokestatic index, 3)) (kk : W p l e R s m args below meth c H locs cells slots Q (F0 m (pc + 3) ls (.int (if x < y then y else x) :: rest))) : W p l e R s m args below meth c H locs cells slots Q (F0 m pc ls (.int y :: .int x :: rest)) := by
  obtain ⟨hx, hb, hml, hown, hts⟩ := S
  exact va_mmax hx hb (by rw [hml, hl]) hown (hts _ hlk) (hts _ zz_mx1) (hts _ zz_mt) (hts _ zz_mx2) hfr hlo hc hs hdg kk
theorem zz_min (S : CallFix p m c cc nL s args zz_T own) (hl : ls.size = nL) (hlk : Cond.methodLink own index Lib.Math.min.name ∈ zz_T) (hfr : 1 ≤ R.frames) (hlo : (rest.map fun v => v.category).sum + 13 ≤ R.locals) (hc : cells ≤ R.cells) (hs : slots ≤ R.slots) {x y : Int32} (hdg : decode cc pc = .ok (.invokestatic index, 3)) (kk : W p l e R s m args below meth c H locs cells slots Q (F0 m (pc + 3) ls (.int (if y < x then y else x) :: rest))) : W p l e R s m args below meth c H locs cells slots Q (F0 m pc ls (.int y :: .int x :: rest)) := by
  obtain ⟨hx, hb, hml, hown, hts⟩ := S
  exact va_mmin hx hb (by rw [hml, hl]) hown (hts _ hlk) (hts _ zz_mn1) (hts _ zz_mt) (hts _ zz_mn2) hfr hlo hc hs hdg kk
end ZR
end
section
theorem zz_c1 (i : Nat) {w : Cond} (h : tables_1_1[i]? = some w) (g : goodWord w = true) : w ∈ zz_T := zz_m (List.mem_append_right _ (List.mem_append_left _ (List.mem_of_getElem? h))) g
theorem zz_c2 (i : Nat) {w : Cond} (h : tables_1_2[i]? = some w) (g : goodWord w = true) : w ∈ zz_T := zz_m (List.mem_append_right _ (List.mem_append_right _ (List.mem_append_left _ (List.mem_of_getElem? h)))) g
theorem zz_c3 (i : Nat) {w : Cond} (h : tables_1_3[i]? = some w) (g : goodWord w = true) : w ∈ zz_T := zz_m (List.mem_append_right _ (List.mem_append_right _ (List.mem_append_right _ (List.mem_append_left _ (List.mem_of_getElem? h))))) g
theorem zz_c4 (i : Nat) {w : Cond} (h : tables_1_4[i]? = some w) (g : goodWord w = true) : w ∈ zz_T := zz_m (List.mem_append_right _ (List.mem_append_right _ (List.mem_append_right _ (List.mem_append_right _ (List.mem_append_left _ (List.mem_of_getElem? h)))))) g
theorem zz_c5 (i : Nat) {w : Cond} (h : tables_1_5[i]? = some w) (g : goodWord w = true) : w ∈ zz_T := zz_m (List.mem_append_right _ (List.mem_append_right _ (List.mem_append_right _ (List.mem_append_right _ (List.mem_append_right _ (List.mem_append_left _ (List.mem_of_getElem? h))))))) g
theorem zz_c6 (i : Nat) {w : Cond} (h : tables_1_6[i]? = some w) (g : goodWord w = true) : w ∈ zz_T := zz_m (List.mem_append_right _ (List.mem_append_right _ (List.mem_append_right _ (List.mem_append_right _ (List.mem_append_right _ (List.mem_append_right _ (List.mem_append_left _ (List.mem_of_getElem? h)))))))) g
theorem zz_c7 (i : Nat) {w : Cond} (h : tables_1_7[i]? = some w) (g : goodWord w = true) : w ∈ zz_T := zz_m (List.mem_append_right _ (List.mem_append_right _ (List.mem_append_right _ (List.mem_append_right _ (List.mem_append_right _ (List.mem_append_right _ (List.mem_append_right _ (List.mem_append_left _ (List.mem_of_getElem? h))))))))) g
theorem zz_c8 (i : Nat) {w : Cond} (h : tables_1_8[i]? = some w) (g : goodWord w = true) : w ∈ zz_T := zz_m (List.mem_append_right _ (List.mem_append_right _ (List.mem_append_right _ (List.mem_append_right _ (List.mem_append_right _ (List.mem_append_right _ (List.mem_append_right _ (List.mem_append_right _ (List.mem_of_getElem? h))))))))) g
theorem ipX0 : ∀ w ∈ u_ws RX0 TX0 4, w ∈ zz_T := by
  have h : u_ws RX0 TX0 4 = [256, 258, 260, 262].filterMap (fun i => tables_1[i]?) := by decide +kernel
  intro w hw
  have g : (u_ws RX0 TX0 4).all goodWord = true := by decide +kernel
  have g1 := List.all_eq_true.mp g w hw
  rw [h] at hw
  obtain ⟨i, -, hi⟩ := List.mem_filterMap.mp hw
  exact zz_t i hi g1
theorem kX0 : zz_CL 0 RX0 TX0 4 := ⟨rfl, ipX0, tyX0, tyX0_ok, nmX0⟩
theorem ipX1 : ∀ w ∈ u_ws RX1 TX1 5, w ∈ zz_T := by
  have h : u_ws RX1 TX1 5 = [276, 278, 280, 282, 284].filterMap (fun i => tables_1[i]?) := by decide +kernel
  intro w hw
  have g : (u_ws RX1 TX1 5).all goodWord = true := by decide +kernel
  have g1 := List.all_eq_true.mp g w hw
  rw [h] at hw
  obtain ⟨i, -, hi⟩ := List.mem_filterMap.mp hw
  exact zz_t i hi g1
theorem kX1 : zz_CL 1 RX1 TX1 5 := ⟨rfl, ipX1, tyX1, tyX1_ok, nmX1⟩
theorem ipX2 : ∀ w ∈ u_ws RX2 TX2 5, w ∈ zz_T := by
  have h : u_ws RX2 TX2 5 = [104, 106, 108, 110, 112].filterMap (fun i => tables_1[i]?) := by decide +kernel
  intro w hw
  have g : (u_ws RX2 TX2 5).all goodWord = true := by decide +kernel
  have g1 := List.all_eq_true.mp g w hw
  rw [h] at hw
  obtain ⟨i, -, hi⟩ := List.mem_filterMap.mp hw
  exact zz_t i hi g1
theorem kX2 : zz_CL 2 RX2 TX2 5 := ⟨rfl, ipX2, tyX2, tyX2_ok, nmX2⟩
theorem ipX3 : ∀ w ∈ u_ws RX3 TX3 3, w ∈ zz_T := by
  have h : u_ws RX3 TX3 3 = [300, 302, 304].filterMap (fun i => tables_1[i]?) := by decide +kernel
  intro w hw
  have g : (u_ws RX3 TX3 3).all goodWord = true := by decide +kernel
  have g1 := List.all_eq_true.mp g w hw
  rw [h] at hw
  obtain ⟨i, -, hi⟩ := List.mem_filterMap.mp hw
  exact zz_t i hi g1
theorem kX3 : zz_CL 3 RX3 TX3 3 := ⟨rfl, ipX3, tyX3, tyX3_ok, nmX3⟩
theorem ipX4 : ∀ w ∈ u_ws RX4 TX4 8, w ∈ zz_T := by
  have h : u_ws RX4 TX4 8 = [69, 71, 73, 75, 77, 79, 81, 83].filterMap (fun i => tables_1[i]?) := by decide +kernel
  intro w hw
  have g : (u_ws RX4 TX4 8).all goodWord = true := by decide +kernel
  have g1 := List.all_eq_true.mp g w hw
  rw [h] at hw
  obtain ⟨i, -, hi⟩ := List.mem_filterMap.mp hw
  exact zz_t i hi g1
theorem kX4 : zz_CL 4 RX4 TX4 8 := ⟨rfl, ipX4, tyX4, tyX4_ok, nmX4⟩
theorem ipX5 : ∀ w ∈ u_ws RX5 TX5 13, w ∈ zz_T := by
  have h : u_ws RX5 TX5 13 = [175, 177, 179, 181, 183, 185, 187, 189, 191, 193, 195, 197, 199].filterMap (fun i => tables_1[i]?) := by decide +kernel
  intro w hw
  have g : (u_ws RX5 TX5 13).all goodWord = true := by decide +kernel
  have g1 := List.all_eq_true.mp g w hw
  rw [h] at hw
  obtain ⟨i, -, hi⟩ := List.mem_filterMap.mp hw
  exact zz_t i hi g1
theorem kX5 : zz_CL 5 RX5 TX5 13 := ⟨rfl, ipX5, tyX5, tyX5_ok, nmX5⟩
theorem ipX6 : ∀ w ∈ u_ws RX6 TX6 7, w ∈ zz_T := by
  have h : u_ws RX6 TX6 7 = [227, 229, 231, 233, 235, 237, 239].filterMap (fun i => tables_1[i]?) := by decide +kernel
  intro w hw
  have g : (u_ws RX6 TX6 7).all goodWord = true := by decide +kernel
  have g1 := List.all_eq_true.mp g w hw
  rw [h] at hw
  obtain ⟨i, -, hi⟩ := List.mem_filterMap.mp hw
  exact zz_t i hi g1
theorem kX6 : zz_CL 6 RX6 TX6 7 := ⟨rfl, ipX6, tyX6, tyX6_ok, nmX6⟩
theorem ipX7 : ∀ w ∈ u_ws RX7 TX7 4, w ∈ zz_T := by
  have h : u_ws RX7 TX7 4 = [48, 50, 52, 54].filterMap (fun i => tables_1[i]?) := by decide +kernel
  intro w hw
  have g : (u_ws RX7 TX7 4).all goodWord = true := by decide +kernel
  have g1 := List.all_eq_true.mp g w hw
  rw [h] at hw
  obtain ⟨i, -, hi⟩ := List.mem_filterMap.mp hw
  exact zz_t i hi g1
theorem kX7 : zz_CL 7 RX7 TX7 4 := ⟨rfl, ipX7, tyX7, tyX7_ok, nmX7⟩
theorem ipX8 : ∀ w ∈ u_ws RX8 TX8 4, w ∈ zz_T := by
  have h : u_ws RX8 TX8 4 = [318, 320, 322, 324].filterMap (fun i => tables_1[i]?) := by decide +kernel
  intro w hw
  have g : (u_ws RX8 TX8 4).all goodWord = true := by decide +kernel
  have g1 := List.all_eq_true.mp g w hw
  rw [h] at hw
  obtain ⟨i, -, hi⟩ := List.mem_filterMap.mp hw
  exact zz_t i hi g1
theorem kX8 : zz_CL 8 RX8 TX8 4 := ⟨rfl, ipX8, tyX8, tyX8_ok, nmX8⟩
theorem ipX9 : ∀ w ∈ u_ws RX9 TX9 14, w ∈ zz_T := by
  have h : u_ws RX9 TX9 14 = [342, 344, 346, 348, 350, 352, 354, 356, 358, 360, 362, 364, 366, 368].filterMap (fun i => tables_1[i]?) := by decide +kernel
  intro w hw
  have g : (u_ws RX9 TX9 14).all goodWord = true := by decide +kernel
  have g1 := List.all_eq_true.mp g w hw
  rw [h] at hw
  obtain ⟨i, -, hi⟩ := List.mem_filterMap.mp hw
  exact zz_t i hi g1
theorem kX9 : zz_CL 9 RX9 TX9 14 := ⟨rfl, ipX9, tyX9, tyX9_ok, nmX9⟩
theorem ipX10 : ∀ w ∈ u_ws RX10 TX10 67, w ∈ zz_T := by
  have h : u_ws RX10 TX10 67 = [1164, 1166, 1168, 1170, 1172, 1174, 1176, 1178, 1180, 1182, 1184, 1186, 1188, 1190, 1192, 1194, 1196, 1198, 1200, 1202, 1204, 1206, 1208, 1210, 1212, 1214, 1216, 1218, 1220, 1222, 1224, 1226, 1228, 1230, 1232, 1234, 1236, 1238, 1240, 1242, 1244, 1246, 1248, 1250, 1252, 1254, 1256, 1258, 1260, 1262, 1264, 1266, 1268, 1270, 1272, 1274, 1276, 1278, 1280, 1282, 1284, 1286, 1288, 1290, 1292, 1294, 1296].filterMap (fun i => tables_1[i]?) := by decide +kernel
  intro w hw
  have g : (u_ws RX10 TX10 67).all goodWord = true := by decide +kernel
  have g1 := List.all_eq_true.mp g w hw
  rw [h] at hw
  obtain ⟨i, -, hi⟩ := List.mem_filterMap.mp hw
  exact zz_t i hi g1
theorem kX10 : zz_CL 10 RX10 TX10 67 := ⟨rfl, ipX10, tyX10, tyX10_ok, nmX10⟩
theorem fgX9_9 : zz_FL RX9 9 9 0 := ⟨_, _, _, kX9, by decide, Or.inl (zz_c2 88 rfl rfl)⟩
theorem fgX9_13 : zz_FL RX9 13 9 1 := ⟨_, _, _, kX9, by decide, Or.inl (zz_c2 89 rfl rfl)⟩
theorem fgX9_20 : zz_FL RX9 20 9 2 := ⟨_, _, _, kX9, by decide, Or.inl (zz_c2 90 rfl rfl)⟩
theorem fgX9_24 : zz_FL RX9 24 9 3 := ⟨_, _, _, kX9, by decide, Or.inl (zz_c2 91 rfl rfl)⟩
theorem fgX9_30 : zz_FL RX9 30 9 4 := ⟨_, _, _, kX9, by decide, Or.inl (zz_c2 92 rfl rfl)⟩
theorem fgX9_34 : zz_FL RX9 34 9 5 := ⟨_, _, _, kX9, by decide, Or.inl (zz_c2 93 rfl rfl)⟩
theorem fgX9_40 : zz_FL RX9 40 9 6 := ⟨_, _, _, kX9, by decide, Or.inl (zz_c2 94 rfl rfl)⟩
theorem fgX9_44 : zz_FL RX9 44 9 7 := ⟨_, _, _, kX9, by decide, Or.inl (zz_c2 95 rfl rfl)⟩
theorem fgX9_50 : zz_FL RX9 50 9 8 := ⟨_, _, _, kX9, by decide, Or.inl (zz_c2 96 rfl rfl)⟩
theorem fgX9_57 : zz_FL RX9 57 9 9 := ⟨_, _, _, kX9, by decide, Or.inl (zz_c2 97 rfl rfl)⟩
theorem fgX9_64 : zz_FL RX9 64 9 10 := ⟨_, _, _, kX9, by decide, Or.inl (zz_c2 98 rfl rfl)⟩
theorem fgX9_71 : zz_FL RX9 71 9 11 := ⟨_, _, _, kX9, by decide, Or.inl (zz_c2 99 rfl rfl)⟩
theorem fgX9_75 : zz_FL RX9 75 9 12 := ⟨_, _, _, kX9, by decide, Or.inl (zz_c2 100 rfl rfl)⟩
theorem fgX9_79 : zz_FL RX9 79 9 13 := ⟨_, _, _, kX9, by decide, Or.inl (zz_c2 101 rfl rfl)⟩
theorem fgX9_91 : zz_FL RX9 91 4 5 := ⟨_, _, _, kX4, by decide, Or.inr ⟨"UnderstudyShow", zz_n 66 (by decide +kernel) (by decide +kernel)⟩⟩
theorem fgX9_105 : zz_FL RX9 105 5 9 := ⟨_, _, _, kX5, by decide, Or.inr ⟨"UnderstudyShow", zz_n 160 (by decide +kernel) (by decide +kernel)⟩⟩
theorem fgX9_108 : zz_FL RX9 108 5 10 := ⟨_, _, _, kX5, by decide, Or.inr ⟨"UnderstudyShow", zz_n 165 (by decide +kernel) (by decide +kernel)⟩⟩
theorem fgX9_125 : zz_FL RX9 125 6 0 := ⟨_, _, _, kX6, by decide, Or.inr ⟨"UnderstudyShow", zz_n 210 (by decide +kernel) (by decide +kernel)⟩⟩
theorem fgX9_129 : zz_FL RX9 129 5 2 := ⟨_, _, _, kX5, by decide, Or.inr ⟨"UnderstudyShow", zz_n 143 (by decide +kernel) (by decide +kernel)⟩⟩
theorem fgX9_132 : zz_FL RX9 132 5 3 := ⟨_, _, _, kX5, by decide, Or.inr ⟨"UnderstudyShow", zz_n 145 (by decide +kernel) (by decide +kernel)⟩⟩
theorem fgX9_135 : zz_FL RX9 135 6 2 := ⟨_, _, _, kX6, by decide, Or.inr ⟨"UnderstudyShow", zz_n 216 (by decide +kernel) (by decide +kernel)⟩⟩
theorem fgX9_145 : zz_FL RX9 145 0 1 := ⟨_, _, _, kX0, by decide, Or.inr ⟨"UnderstudyShow", zz_n 251 (by decide +kernel) (by decide +kernel)⟩⟩
theorem fgX9_157 : zz_FL RX9 157 6 1 := ⟨_, _, _, kX6, by decide, Or.inr ⟨"UnderstudyShow", zz_n 214 (by decide +kernel) (by decide +kernel)⟩⟩
theorem fgX9_160 : zz_FL RX9 160 5 5 := ⟨_, _, _, kX5, by decide, Or.inr ⟨"UnderstudyShow", zz_n 150 (by decide +kernel) (by decide +kernel)⟩⟩
theorem fgX9_163 : zz_FL RX9 163 5 6 := ⟨_, _, _, kX5, by decide, Or.inr ⟨"UnderstudyShow", zz_n 152 (by decide +kernel) (by decide +kernel)⟩⟩
theorem fgX9_166 : zz_FL RX9 166 0 0 := ⟨_, _, _, kX0, by decide, Or.inr ⟨"UnderstudyShow", zz_n 249 (by decide +kernel) (by decide +kernel)⟩⟩
theorem fgX9_169 : zz_FL RX9 169 5 4 := ⟨_, _, _, kX5, by decide, Or.inr ⟨"UnderstudyShow", zz_n 148 (by decide +kernel) (by decide +kernel)⟩⟩
theorem fgX9_187 : zz_FL RX9 187 6 4 := ⟨_, _, _, kX6, by decide, Or.inr ⟨"UnderstudyShow", zz_n 219 (by decide +kernel) (by decide +kernel)⟩⟩
theorem fgX9_190 : zz_FL RX9 190 5 12 := ⟨_, _, _, kX5, by decide, Or.inr ⟨"UnderstudyShow", zz_n 174 (by decide +kernel) (by decide +kernel)⟩⟩
theorem fgX9_197 : zz_FL RX9 197 6 5 := ⟨_, _, _, kX6, by decide, Or.inr ⟨"UnderstudyShow", zz_n 223 (by decide +kernel) (by decide +kernel)⟩⟩
theorem fgX9_207 : zz_FL RX9 207 0 3 := ⟨_, _, _, kX0, by decide, Or.inr ⟨"UnderstudyShow", zz_n 255 (by decide +kernel) (by decide +kernel)⟩⟩
theorem fgX9_220 : zz_FL RX9 220 5 11 := ⟨_, _, _, kX5, by decide, Or.inr ⟨"UnderstudyShow", zz_n 171 (by decide +kernel) (by decide +kernel)⟩⟩
theorem fgX9_261 : zz_FL RX9 261 0 2 := ⟨_, _, _, kX0, by decide, Or.inr ⟨"UnderstudyShow", zz_n 253 (by decide +kernel) (by decide +kernel)⟩⟩
theorem fgX9_278 : zz_FL RX9 278 8 3 := ⟨_, _, _, kX8, by decide, Or.inr ⟨"UnderstudyShow", zz_n 317 (by decide +kernel) (by decide +kernel)⟩⟩
theorem fgX9_303 : zz_FL RX9 303 6 6 := ⟨_, _, _, kX6, by decide, Or.inr ⟨"UnderstudyShow", zz_n 226 (by decide +kernel) (by decide +kernel)⟩⟩
theorem fgX9_306 : zz_FL RX9 306 3 2 := ⟨_, _, _, kX3, by decide, Or.inr ⟨"UnderstudyShow", zz_n 299 (by decide +kernel) (by decide +kernel)⟩⟩
theorem fpX9_9 : zz_FF RX9 9 9 0 (.array .byte) := ⟨_, _, _, kX9, by decide, (zz_c2 88 rfl rfl), rfl, by decide +kernel, rfl⟩
theorem fpX9_13 : zz_FP RX9 13 9 1 .int := ⟨_, _, _, kX9, by decide, Or.inl (zz_c2 89 rfl rfl), rfl, by decide +kernel⟩
theorem fpX9_20 : zz_FF RX9 20 9 2 (.object "UnderstudyShow$Reader") := ⟨_, _, _, kX9, by decide, (zz_c2 90 rfl rfl), rfl, by decide +kernel, rfl⟩
theorem fpX9_24 : zz_FP RX9 24 9 3 .int := ⟨_, _, _, kX9, by decide, Or.inl (zz_c2 91 rfl rfl), rfl, by decide +kernel⟩
theorem fpX9_30 : zz_FP RX9 30 9 4 (.object "UnderstudyShow$Script") := ⟨_, _, _, kX9, by decide, Or.inl (zz_c2 92 rfl rfl), rfl, by decide +kernel⟩
theorem fpX9_34 : zz_FP RX9 34 9 5 (.object "UnderstudyShow$Script") := ⟨_, _, _, kX9, by decide, Or.inl (zz_c2 93 rfl rfl), rfl, by decide +kernel⟩
theorem fpX9_40 : zz_FF RX9 40 9 6 (.object "UnderstudyShow$State") := ⟨_, _, _, kX9, by decide, (zz_c2 94 rfl rfl), rfl, by decide +kernel, rfl⟩
theorem fpX9_44 : zz_FF RX9 44 9 7 (.object "UnderstudyShow$State") := ⟨_, _, _, kX9, by decide, (zz_c2 95 rfl rfl), rfl, by decide +kernel, rfl⟩
theorem fpX9_50 : zz_FF RX9 50 9 8 (.object "UnderstudyShow$Cast") := ⟨_, _, _, kX9, by decide, (zz_c2 96 rfl rfl), rfl, by decide +kernel, rfl⟩
theorem fpX9_57 : zz_FF RX9 57 9 9 (.object "UnderstudyShow$Giving") := ⟨_, _, _, kX9, by decide, (zz_c2 97 rfl rfl), rfl, by decide +kernel, rfl⟩
theorem fpX9_64 : zz_FF RX9 64 9 10 (.object "UnderstudyShow$Past") := ⟨_, _, _, kX9, by decide, (zz_c2 98 rfl rfl), rfl, by decide +kernel, rfl⟩
theorem fpX9_71 : zz_FF RX9 71 9 11 (.object "UnderstudyShow$Told") := ⟨_, _, _, kX9, by decide, (zz_c2 99 rfl rfl), rfl, by decide +kernel, rfl⟩
theorem fpX9_75 : zz_FF RX9 75 9 12 (.array (.object "UnderstudyShow$State")) := ⟨_, _, _, kX9, by decide, (zz_c2 100 rfl rfl), rfl, by decide +kernel, rfl⟩
theorem fpX9_79 : zz_FF RX9 79 9 13 (.array .boolean) := ⟨_, _, _, kX9, by decide, (zz_c2 101 rfl rfl), rfl, by decide +kernel, rfl⟩
theorem fpX9_187 : zz_FP RX9 187 6 4 .int := ⟨_, _, _, kX6, by decide, Or.inr ⟨"UnderstudyShow", zz_n 219 (by decide +kernel) (by decide +kernel)⟩, rfl, by decide +kernel⟩
theorem fgX0_9 : zz_FL RX0 9 0 0 := ⟨_, _, _, kX0, by decide, Or.inl (zz_c2 8 rfl rfl)⟩
theorem fgX0_15 : zz_FL RX0 15 0 1 := ⟨_, _, _, kX0, by decide, Or.inl (zz_c2 10 rfl rfl)⟩
theorem fgX0_18 : zz_FL RX0 18 0 2 := ⟨_, _, _, kX0, by decide, Or.inl (zz_c2 12 rfl rfl)⟩
theorem fgX0_22 : zz_FL RX0 22 0 3 := ⟨_, _, _, kX0, by decide, Or.inl (zz_c2 14 rfl rfl)⟩
theorem fgX0_25 : zz_FL RX0 25 5 10 := ⟨_, _, _, kX5, by decide, Or.inr ⟨"UnderstudyShow", zz_n 164 (by decide +kernel) (by decide +kernel)⟩⟩
theorem fgX0_34 : zz_FL RX0 34 5 9 := ⟨_, _, _, kX5, by decide, Or.inr ⟨"UnderstudyShow", zz_n 158 (by decide +kernel) (by decide +kernel)⟩⟩
theorem fgX0_47 : zz_FL RX0 47 5 11 := ⟨_, _, _, kX5, by decide, Or.inr ⟨"UnderstudyShow", zz_n 168 (by decide +kernel) (by decide +kernel)⟩⟩
theorem fgX0_58 : zz_FL RX0 58 6 5 := ⟨_, _, _, kX6, by decide, Or.inr ⟨"UnderstudyShow", zz_n 221 (by decide +kernel) (by decide +kernel)⟩⟩
theorem fgX0_61 : zz_FL RX0 61 6 1 := ⟨_, _, _, kX6, by decide, Or.inr ⟨"UnderstudyShow", zz_n 213 (by decide +kernel) (by decide +kernel)⟩⟩
theorem fgX0_84 : zz_FL RX0 84 6 6 := ⟨_, _, _, kX6, by decide, Or.inr ⟨"UnderstudyShow", zz_n 225 (by decide +kernel) (by decide +kernel)⟩⟩
theorem fpX0_9 : zz_FF RX0 9 0 0 (.array .int) := ⟨_, _, _, kX0, by decide, (zz_c2 8 rfl rfl), rfl, by decide +kernel, rfl⟩
theorem fpX0_15 : zz_FF RX0 15 0 1 (.array .int) := ⟨_, _, _, kX0, by decide, (zz_c2 10 rfl rfl), rfl, by decide +kernel, rfl⟩
theorem fpX0_18 : zz_FP RX0 18 0 2 .int := ⟨_, _, _, kX0, by decide, Or.inl (zz_c2 12 rfl rfl), rfl, by decide +kernel⟩
theorem fpX0_22 : zz_FP RX0 22 0 3 .int := ⟨_, _, _, kX0, by decide, Or.inl (zz_c2 14 rfl rfl), rfl, by decide +kernel⟩
theorem fpX0_58 : zz_FP RX0 58 6 5 .int := ⟨_, _, _, kX6, by decide, Or.inr ⟨"UnderstudyShow", zz_n 221 (by decide +kernel) (by decide +kernel)⟩, rfl, by decide +kernel⟩
theorem fpX0_84 : zz_FP RX0 84 6 6 .int := ⟨_, _, _, kX6, by decide, Or.inr ⟨"UnderstudyShow", zz_n 225 (by decide +kernel) (by decide +kernel)⟩, rfl, by decide +kernel⟩
theorem fgX1_9 : zz_FL RX1 9 1 0 := ⟨_, _, _, kX1, by decide, Or.inl (zz_c2 31 rfl rfl)⟩
theorem fgX1_15 : zz_FL RX1 15 1 1 := ⟨_, _, _, kX1, by decide, Or.inl (zz_c2 32 rfl rfl)⟩
theorem fgX1_18 : zz_FL RX1 18 1 2 := ⟨_, _, _, kX1, by decide, Or.inl (zz_c2 33 rfl rfl)⟩
theorem fgX1_21 : zz_FL RX1 21 1 3 := ⟨_, _, _, kX1, by decide, Or.inl (zz_c2 34 rfl rfl)⟩
theorem fgX1_25 : zz_FL RX1 25 1 4 := ⟨_, _, _, kX1, by decide, Or.inl (zz_c2 35 rfl rfl)⟩
theorem fgX1_28 : zz_FL RX1 28 5 9 := ⟨_, _, _, kX5, by decide, Or.inr ⟨"UnderstudyShow", zz_n 157 (by decide +kernel) (by decide +kernel)⟩⟩
theorem fgX1_31 : zz_FL RX1 31 5 10 := ⟨_, _, _, kX5, by decide, Or.inr ⟨"UnderstudyShow", zz_n 163 (by decide +kernel) (by decide +kernel)⟩⟩
theorem fgX1_32 : zz_FL RX1 32 5 11 := ⟨_, _, _, kX5, by decide, Or.inr ⟨"UnderstudyShow", zz_n 169 (by decide +kernel) (by decide +kernel)⟩⟩
theorem fpX1_9 : zz_FF RX1 9 1 0 (.array .int) := ⟨_, _, _, kX1, by decide, (zz_c2 31 rfl rfl), rfl, by decide +kernel, rfl⟩
theorem fpX1_15 : zz_FF RX1 15 1 1 (.array .int) := ⟨_, _, _, kX1, by decide, (zz_c2 32 rfl rfl), rfl, by decide +kernel, rfl⟩
theorem fpX1_18 : zz_FF RX1 18 1 2 (.array .int) := ⟨_, _, _, kX1, by decide, (zz_c2 33 rfl rfl), rfl, by decide +kernel, rfl⟩
theorem fpX1_21 : zz_FP RX1 21 1 3 .int := ⟨_, _, _, kX1, by decide, Or.inl (zz_c2 34 rfl rfl), rfl, by decide +kernel⟩
theorem fpX1_25 : zz_FP RX1 25 1 4 .int := ⟨_, _, _, kX1, by decide, Or.inl (zz_c2 35 rfl rfl), rfl, by decide +kernel⟩
theorem fgX2_9 : zz_FL RX2 9 2 0 := ⟨_, _, _, kX2, by decide, Or.inl (zz_c1 99 rfl rfl)⟩
theorem fgX2_13 : zz_FL RX2 13 2 1 := ⟨_, _, _, kX2, by decide, Or.inl (zz_c1 100 rfl rfl)⟩
theorem fgX2_16 : zz_FL RX2 16 2 2 := ⟨_, _, _, kX2, by decide, Or.inl (zz_c1 101 rfl rfl)⟩
theorem fgX2_19 : zz_FL RX2 19 2 3 := ⟨_, _, _, kX2, by decide, Or.inl (zz_c1 102 rfl rfl)⟩
theorem fgX2_23 : zz_FL RX2 23 2 4 := ⟨_, _, _, kX2, by decide, Or.inl (zz_c1 103 rfl rfl)⟩
theorem fpX2_9 : zz_FF RX2 9 2 0 (.array .int) := ⟨_, _, _, kX2, by decide, (zz_c1 99 rfl rfl), rfl, by decide +kernel, rfl⟩
theorem fpX2_13 : zz_FF RX2 13 2 1 (.array .int) := ⟨_, _, _, kX2, by decide, (zz_c1 100 rfl rfl), rfl, by decide +kernel, rfl⟩
theorem fpX2_16 : zz_FF RX2 16 2 2 (.array .int) := ⟨_, _, _, kX2, by decide, (zz_c1 101 rfl rfl), rfl, by decide +kernel, rfl⟩
theorem fpX2_19 : zz_FP RX2 19 2 3 .int := ⟨_, _, _, kX2, by decide, Or.inl (zz_c1 102 rfl rfl), rfl, by decide +kernel⟩
theorem fpX2_23 : zz_FP RX2 23 2 4 .int := ⟨_, _, _, kX2, by decide, Or.inl (zz_c1 103 rfl rfl), rfl, by decide +kernel⟩
theorem fgX3_11 : zz_FL RX3 11 3 0 := ⟨_, _, _, kX3, by decide, Or.inl (zz_c2 56 rfl rfl)⟩
theorem fgX3_15 : zz_FL RX3 15 3 1 := ⟨_, _, _, kX3, by decide, Or.inl (zz_c2 57 rfl rfl)⟩
theorem fgX3_19 : zz_FL RX3 19 3 2 := ⟨_, _, _, kX3, by decide, Or.inl (zz_c2 58 rfl rfl)⟩
theorem fpX3_11 : zz_FF RX3 11 3 0 (.array (.object "UnderstudyShow$State")) := ⟨_, _, _, kX3, by decide, (zz_c2 56 rfl rfl), rfl, by decide +kernel, rfl⟩
theorem fpX3_15 : zz_FP RX3 15 3 1 .int := ⟨_, _, _, kX3, by decide, Or.inl (zz_c2 57 rfl rfl), rfl, by decide +kernel⟩
theorem fpX3_19 : zz_FP RX3 19 3 2 .int := ⟨_, _, _, kX3, by decide, Or.inl (zz_c2 58 rfl rfl), rfl, by decide +kernel⟩
theorem fgX4_12 : zz_FL RX4 12 4 0 := ⟨_, _, _, kX4, by decide, Or.inl (zz_c1 60 rfl rfl)⟩
theorem fgX4_20 : zz_FL RX4 20 4 1 := ⟨_, _, _, kX4, by decide, Or.inl (zz_c1 61 rfl rfl)⟩
theorem fgX4_24 : zz_FL RX4 24 4 2 := ⟨_, _, _, kX4, by decide, Or.inl (zz_c1 62 rfl rfl)⟩
theorem fgX4_28 : zz_FL RX4 28 4 3 := ⟨_, _, _, kX4, by decide, Or.inl (zz_c1 63 rfl rfl)⟩
theorem fgX4_31 : zz_FL RX4 31 4 4 := ⟨_, _, _, kX4, by decide, Or.inl (zz_c1 64 rfl rfl)⟩
theorem fgX4_37 : zz_FL RX4 37 4 6 := ⟨_, _, _, kX4, by decide, Or.inl (zz_c1 67 rfl rfl)⟩
theorem fgX4_40 : zz_FL RX4 40 4 7 := ⟨_, _, _, kX4, by decide, Or.inl (zz_c1 68 rfl rfl)⟩
theorem fgX4_60 : zz_FL RX4 60 7 0 := ⟨_, _, _, kX7, by decide, Or.inr ⟨"UnderstudyShow", zz_n 41 (by decide +kernel) (by decide +kernel)⟩⟩
theorem fgX4_63 : zz_FL RX4 63 7 1 := ⟨_, _, _, kX7, by decide, Or.inr ⟨"UnderstudyShow", zz_n 43 (by decide +kernel) (by decide +kernel)⟩⟩
theorem fgX4_77 : zz_FL RX4 77 5 7 := ⟨_, _, _, kX5, by decide, Or.inr ⟨"UnderstudyShow", zz_n 154 (by decide +kernel) (by decide +kernel)⟩⟩
theorem fgX4_98 : zz_FL RX4 98 5 9 := ⟨_, _, _, kX5, by decide, Or.inr ⟨"UnderstudyShow", zz_n 161 (by decide +kernel) (by decide +kernel)⟩⟩
theorem fgX4_101 : zz_FL RX4 101 5 10 := ⟨_, _, _, kX5, by decide, Or.inr ⟨"UnderstudyShow", zz_n 166 (by decide +kernel) (by decide +kernel)⟩⟩
theorem fgX4_115 : zz_FL RX4 115 7 3 := ⟨_, _, _, kX7, by decide, Or.inr ⟨"UnderstudyShow", zz_n 47 (by decide +kernel) (by decide +kernel)⟩⟩
theorem fgX4_126 : zz_FL RX4 126 7 2 := ⟨_, _, _, kX7, by decide, Or.inr ⟨"UnderstudyShow", zz_n 45 (by decide +kernel) (by decide +kernel)⟩⟩
theorem fpX4_12 : zz_FF RX4 12 4 0 (.object "UnderstudyShow$Tokens") := ⟨_, _, _, kX4, by decide, (zz_c1 60 rfl rfl), rfl, by decide +kernel, rfl⟩
theorem fpX4_20 : zz_FF RX4 20 4 1 (.array .int) := ⟨_, _, _, kX4, by decide, (zz_c1 61 rfl rfl), rfl, by decide +kernel, rfl⟩
theorem fpX4_24 : zz_FP RX4 24 4 2 .int := ⟨_, _, _, kX4, by decide, Or.inl (zz_c1 62 rfl rfl), rfl, by decide +kernel⟩
theorem fpX4_28 : zz_FP RX4 28 4 3 .int := ⟨_, _, _, kX4, by decide, Or.inl (zz_c1 63 rfl rfl), rfl, by decide +kernel⟩
theorem fpX4_31 : zz_FP RX4 31 4 4 .int := ⟨_, _, _, kX4, by decide, Or.inl (zz_c1 64 rfl rfl), rfl, by decide +kernel⟩
theorem fpX4_34 : zz_FP RX4 34 4 5 .int := ⟨_, _, _, kX4, by decide, Or.inl (zz_c1 65 rfl rfl), rfl, by decide +kernel⟩
theorem fpX4_37 : zz_FP RX4 37 4 6 .int := ⟨_, _, _, kX4, by decide, Or.inl (zz_c1 67 rfl rfl), rfl, by decide +kernel⟩
theorem fpX4_40 : zz_FP RX4 40 4 7 .int := ⟨_, _, _, kX4, by decide, Or.inl (zz_c1 68 rfl rfl), rfl, by decide +kernel⟩
theorem fpX4_89 : zz_FP RX4 89 5 11 .int := ⟨_, _, _, kX5, by decide, Or.inr ⟨"UnderstudyShow", zz_n 170 (by decide +kernel) (by decide +kernel)⟩, rfl, by decide +kernel⟩
theorem fpX4_95 : zz_FP RX4 95 5 12 .int := ⟨_, _, _, kX5, by decide, Or.inr ⟨"UnderstudyShow", zz_n 173 (by decide +kernel) (by decide +kernel)⟩, rfl, by decide +kernel⟩
theorem fgX5_9 : zz_FL RX5 9 5 0 := ⟨_, _, _, kX5, by decide, Or.inl (zz_c1 139 rfl rfl)⟩
theorem fgX5_15 : zz_FL RX5 15 5 1 := ⟨_, _, _, kX5, by decide, Or.inl (zz_c1 140 rfl rfl)⟩
theorem fgX5_19 : zz_FL RX5 19 5 2 := ⟨_, _, _, kX5, by decide, Or.inl (zz_c1 142 rfl rfl)⟩
theorem fgX5_22 : zz_FL RX5 22 5 3 := ⟨_, _, _, kX5, by decide, Or.inl (zz_c1 144 rfl rfl)⟩
theorem fgX5_25 : zz_FL RX5 25 5 4 := ⟨_, _, _, kX5, by decide, Or.inl (zz_c1 146 rfl rfl)⟩
theorem fgX5_28 : zz_FL RX5 28 5 5 := ⟨_, _, _, kX5, by decide, Or.inl (zz_c1 149 rfl rfl)⟩
theorem fgX5_31 : zz_FL RX5 31 5 6 := ⟨_, _, _, kX5, by decide, Or.inl (zz_c1 151 rfl rfl)⟩
theorem fgX5_36 : zz_FL RX5 36 5 7 := ⟨_, _, _, kX5, by decide, Or.inl (zz_c1 153 rfl rfl)⟩
theorem fgX5_40 : zz_FL RX5 40 5 8 := ⟨_, _, _, kX5, by decide, Or.inl (zz_c1 155 rfl rfl)⟩
theorem fgX5_43 : zz_FL RX5 43 5 9 := ⟨_, _, _, kX5, by decide, Or.inl (zz_c1 156 rfl rfl)⟩
theorem fgX5_47 : zz_FL RX5 47 5 10 := ⟨_, _, _, kX5, by decide, Or.inl (zz_c1 162 rfl rfl)⟩
theorem fgX5_68 : zz_FL RX5 68 6 0 := ⟨_, _, _, kX6, by decide, Or.inr ⟨"UnderstudyShow", zz_n 209 (by decide +kernel) (by decide +kernel)⟩⟩
theorem fgX5_71 : zz_FL RX5 71 6 1 := ⟨_, _, _, kX6, by decide, Or.inr ⟨"UnderstudyShow", zz_n 212 (by decide +kernel) (by decide +kernel)⟩⟩
theorem fgX5_82 : zz_FL RX5 82 6 5 := ⟨_, _, _, kX6, by decide, Or.inr ⟨"UnderstudyShow", zz_n 222 (by decide +kernel) (by decide +kernel)⟩⟩
theorem fpX5_9 : zz_FF RX5 9 5 0 (.array .long) := ⟨_, _, _, kX5, by decide, (zz_c1 139 rfl rfl), rfl, by decide +kernel, rfl⟩
theorem fpX5_15 : zz_FF RX5 15 5 1 (.array .int) := ⟨_, _, _, kX5, by decide, (zz_c1 140 rfl rfl), rfl, by decide +kernel, rfl⟩
theorem fpX5_19 : zz_FF RX5 19 5 2 (.array .int) := ⟨_, _, _, kX5, by decide, (zz_c1 142 rfl rfl), rfl, by decide +kernel, rfl⟩
theorem fpX5_22 : zz_FF RX5 22 5 3 (.array .int) := ⟨_, _, _, kX5, by decide, (zz_c1 144 rfl rfl), rfl, by decide +kernel, rfl⟩
theorem fpX5_25 : zz_FF RX5 25 5 4 (.array .int) := ⟨_, _, _, kX5, by decide, (zz_c1 146 rfl rfl), rfl, by decide +kernel, rfl⟩
theorem fpX5_28 : zz_FF RX5 28 5 5 (.array .int) := ⟨_, _, _, kX5, by decide, (zz_c1 149 rfl rfl), rfl, by decide +kernel, rfl⟩
theorem fpX5_31 : zz_FF RX5 31 5 6 (.array .int) := ⟨_, _, _, kX5, by decide, (zz_c1 151 rfl rfl), rfl, by decide +kernel, rfl⟩
theorem fpX5_36 : zz_FF RX5 36 5 7 (.array (.object "UnderstudyShow$Law")) := ⟨_, _, _, kX5, by decide, (zz_c1 153 rfl rfl), rfl, by decide +kernel, rfl⟩
theorem fpX5_40 : zz_FF RX5 40 5 8 (.array .int) := ⟨_, _, _, kX5, by decide, (zz_c1 155 rfl rfl), rfl, by decide +kernel, rfl⟩
theorem fpX5_43 : zz_FP RX5 43 5 9 .int := ⟨_, _, _, kX5, by decide, Or.inl (zz_c1 156 rfl rfl), rfl, by decide +kernel⟩
theorem fpX5_47 : zz_FP RX5 47 5 10 .int := ⟨_, _, _, kX5, by decide, Or.inl (zz_c1 162 rfl rfl), rfl, by decide +kernel⟩
theorem fpX5_50 : zz_FP RX5 50 5 11 .int := ⟨_, _, _, kX5, by decide, Or.inl (zz_c1 167 rfl rfl), rfl, by decide +kernel⟩
theorem fpX5_53 : zz_FP RX5 53 5 12 .int := ⟨_, _, _, kX5, by decide, Or.inl (zz_c1 172 rfl rfl), rfl, by decide +kernel⟩
theorem fgX6_9 : zz_FL RX6 9 6 0 := ⟨_, _, _, kX6, by decide, Or.inl (zz_c1 208 rfl rfl)⟩
theorem fgX6_15 : zz_FL RX6 15 6 1 := ⟨_, _, _, kX6, by decide, Or.inl (zz_c1 211 rfl rfl)⟩
theorem fgX6_18 : zz_FL RX6 18 6 2 := ⟨_, _, _, kX6, by decide, Or.inl (zz_c1 215 rfl rfl)⟩
theorem fgX6_21 : zz_FL RX6 21 6 3 := ⟨_, _, _, kX6, by decide, Or.inl (zz_c1 217 rfl rfl)⟩
theorem fgX6_24 : zz_FL RX6 24 6 4 := ⟨_, _, _, kX6, by decide, Or.inl (zz_c1 218 rfl rfl)⟩
theorem fgX6_28 : zz_FL RX6 28 6 5 := ⟨_, _, _, kX6, by decide, Or.inl (zz_c1 220 rfl rfl)⟩
theorem fgX6_31 : zz_FL RX6 31 6 6 := ⟨_, _, _, kX6, by decide, Or.inl (zz_c1 224 rfl rfl)⟩
theorem fgX6_34 : zz_FL RX6 34 5 1 := ⟨_, _, _, kX5, by decide, Or.inr ⟨"UnderstudyShow", zz_n 141 (by decide +kernel) (by decide +kernel)⟩⟩
theorem fgX6_43 : zz_FL RX6 43 5 4 := ⟨_, _, _, kX5, by decide, Or.inr ⟨"UnderstudyShow", zz_n 147 (by decide +kernel) (by decide +kernel)⟩⟩
theorem fpX6_9 : zz_FF RX6 9 6 0 (.array .int) := ⟨_, _, _, kX6, by decide, (zz_c1 208 rfl rfl), rfl, by decide +kernel, rfl⟩
theorem fpX6_15 : zz_FF RX6 15 6 1 (.array .int) := ⟨_, _, _, kX6, by decide, (zz_c1 211 rfl rfl), rfl, by decide +kernel, rfl⟩
theorem fpX6_18 : zz_FF RX6 18 6 2 (.array .int) := ⟨_, _, _, kX6, by decide, (zz_c1 215 rfl rfl), rfl, by decide +kernel, rfl⟩
theorem fpX6_21 : zz_FF RX6 21 6 3 (.array .int) := ⟨_, _, _, kX6, by decide, (zz_c1 217 rfl rfl), rfl, by decide +kernel, rfl⟩
theorem fpX6_24 : zz_FP RX6 24 6 4 .int := ⟨_, _, _, kX6, by decide, Or.inl (zz_c1 218 rfl rfl), rfl, by decide +kernel⟩
theorem fpX6_28 : zz_FP RX6 28 6 5 .int := ⟨_, _, _, kX6, by decide, Or.inl (zz_c1 220 rfl rfl), rfl, by decide +kernel⟩
theorem fpX6_31 : zz_FP RX6 31 6 6 .int := ⟨_, _, _, kX6, by decide, Or.inl (zz_c1 224 rfl rfl), rfl, by decide +kernel⟩
theorem fgX7_9 : zz_FL RX7 9 7 0 := ⟨_, _, _, kX7, by decide, Or.inl (zz_c1 40 rfl rfl)⟩
theorem fgX7_13 : zz_FL RX7 13 7 1 := ⟨_, _, _, kX7, by decide, Or.inl (zz_c1 42 rfl rfl)⟩
theorem fgX7_16 : zz_FL RX7 16 7 2 := ⟨_, _, _, kX7, by decide, Or.inl (zz_c1 44 rfl rfl)⟩
theorem fgX7_19 : zz_FL RX7 19 7 3 := ⟨_, _, _, kX7, by decide, Or.inl (zz_c1 46 rfl rfl)⟩
theorem fpX7_9 : zz_FF RX7 9 7 0 (.array .int) := ⟨_, _, _, kX7, by decide, (zz_c1 40 rfl rfl), rfl, by decide +kernel, rfl⟩
theorem fpX7_13 : zz_FF RX7 13 7 1 (.array .int) := ⟨_, _, _, kX7, by decide, (zz_c1 42 rfl rfl), rfl, by decide +kernel, rfl⟩
theorem fpX7_16 : zz_FF RX7 16 7 2 (.array .int) := ⟨_, _, _, kX7, by decide, (zz_c1 44 rfl rfl), rfl, by decide +kernel, rfl⟩
theorem fpX7_19 : zz_FF RX7 19 7 3 (.array .long) := ⟨_, _, _, kX7, by decide, (zz_c1 46 rfl rfl), rfl, by decide +kernel, rfl⟩
theorem fgX8_11 : zz_FL RX8 11 8 0 := ⟨_, _, _, kX8, by decide, Or.inl (zz_c2 73 rfl rfl)⟩
theorem fgX8_15 : zz_FL RX8 15 8 1 := ⟨_, _, _, kX8, by decide, Or.inl (zz_c2 74 rfl rfl)⟩
theorem fgX8_18 : zz_FL RX8 18 8 2 := ⟨_, _, _, kX8, by decide, Or.inl (zz_c2 75 rfl rfl)⟩
theorem fgX8_22 : zz_FL RX8 22 8 3 := ⟨_, _, _, kX8, by decide, Or.inl (zz_c2 76 rfl rfl)⟩
theorem fgX8_26 : zz_FL RX8 26 5 9 := ⟨_, _, _, kX5, by decide, Or.inr ⟨"UnderstudyShow", zz_n 159 (by decide +kernel) (by decide +kernel)⟩⟩
theorem fpX8_11 : zz_FF RX8 11 8 0 (.array .int) := ⟨_, _, _, kX8, by decide, (zz_c2 73 rfl rfl), rfl, by decide +kernel, rfl⟩
theorem fpX8_15 : zz_FF RX8 15 8 1 (.array .int) := ⟨_, _, _, kX8, by decide, (zz_c2 74 rfl rfl), rfl, by decide +kernel, rfl⟩
theorem fpX8_18 : zz_FF RX8 18 8 2 (.array .boolean) := ⟨_, _, _, kX8, by decide, (zz_c2 75 rfl rfl), rfl, by decide +kernel, rfl⟩
theorem fpX8_22 : zz_FP RX8 22 8 3 .int := ⟨_, _, _, kX8, by decide, Or.inl (zz_c2 76 rfl rfl), rfl, by decide +kernel⟩
theorem fgX10_13 : zz_FL RX10 13 10 1 := ⟨_, _, _, kX10, by decide, Or.inl (zz_c5 138 rfl rfl)⟩
theorem fgX10_17 : zz_FL RX10 17 10 3 := ⟨_, _, _, kX10, by decide, Or.inl (zz_c5 140 rfl rfl)⟩
theorem fgX10_20 : zz_FL RX10 20 10 5 := ⟨_, _, _, kX10, by decide, Or.inl (zz_c5 142 rfl rfl)⟩
theorem fgX10_24 : zz_FL RX10 24 10 6 := ⟨_, _, _, kX10, by decide, Or.inl (zz_c5 143 rfl rfl)⟩
theorem fgX10_27 : zz_FL RX10 27 10 7 := ⟨_, _, _, kX10, by decide, Or.inl (zz_c5 144 rfl rfl)⟩
theorem fgX10_30 : zz_FL RX10 30 10 8 := ⟨_, _, _, kX10, by decide, Or.inl (zz_c5 145 rfl rfl)⟩
theorem fgX10_34 : zz_FL RX10 34 10 9 := ⟨_, _, _, kX10, by decide, Or.inl (zz_c5 146 rfl rfl)⟩
theorem fgX10_37 : zz_FL RX10 37 10 17 := ⟨_, _, _, kX10, by decide, Or.inl (zz_c5 154 rfl rfl)⟩
theorem fgX10_40 : zz_FL RX10 40 10 21 := ⟨_, _, _, kX10, by decide, Or.inl (zz_c5 158 rfl rfl)⟩
theorem fgX10_43 : zz_FL RX10 43 10 22 := ⟨_, _, _, kX10, by decide, Or.inl (zz_c5 159 rfl rfl)⟩
theorem fgX10_46 : zz_FL RX10 46 10 23 := ⟨_, _, _, kX10, by decide, Or.inl (zz_c5 160 rfl rfl)⟩
theorem fgX10_49 : zz_FL RX10 49 10 24 := ⟨_, _, _, kX10, by decide, Or.inl (zz_c5 161 rfl rfl)⟩
theorem fgX10_52 : zz_FL RX10 52 10 25 := ⟨_, _, _, kX10, by decide, Or.inl (zz_c5 162 rfl rfl)⟩
theorem fgX10_55 : zz_FL RX10 55 10 26 := ⟨_, _, _, kX10, by decide, Or.inl (zz_c5 163 rfl rfl)⟩
theorem fgX10_58 : zz_FL RX10 58 10 27 := ⟨_, _, _, kX10, by decide, Or.inl (zz_c5 164 rfl rfl)⟩
theorem fgX10_61 : zz_FL RX10 61 10 28 := ⟨_, _, _, kX10, by decide, Or.inl (zz_c5 165 rfl rfl)⟩
theorem fgX10_64 : zz_FL RX10 64 10 29 := ⟨_, _, _, kX10, by decide, Or.inl (zz_c5 166 rfl rfl)⟩
theorem fgX10_67 : zz_FL RX10 67 10 30 := ⟨_, _, _, kX10, by decide, Or.inl (zz_c5 167 rfl rfl)⟩
theorem fgX10_70 : zz_FL RX10 70 10 31 := ⟨_, _, _, kX10, by decide, Or.inl (zz_c5 168 rfl rfl)⟩
theorem fgX10_73 : zz_FL RX10 73 10 32 := ⟨_, _, _, kX10, by decide, Or.inl (zz_c5 169 rfl rfl)⟩
theorem fgX10_76 : zz_FL RX10 76 10 33 := ⟨_, _, _, kX10, by decide, Or.inl (zz_c5 170 rfl rfl)⟩
theorem fgX10_79 : zz_FL RX10 79 10 35 := ⟨_, _, _, kX10, by decide, Or.inl (zz_c5 172 rfl rfl)⟩
theorem fgX10_83 : zz_FL RX10 83 10 36 := ⟨_, _, _, kX10, by decide, Or.inl (zz_c5 173 rfl rfl)⟩
theorem fgX10_86 : zz_FL RX10 86 10 37 := ⟨_, _, _, kX10, by decide, Or.inl (zz_c5 174 rfl rfl)⟩
theorem fgX10_89 : zz_FL RX10 89 10 38 := ⟨_, _, _, kX10, by decide, Or.inl (zz_c5 175 rfl rfl)⟩
theorem fgX10_92 : zz_FL RX10 92 10 39 := ⟨_, _, _, kX10, by decide, Or.inl (zz_c5 176 rfl rfl)⟩
theorem fgX10_95 : zz_FL RX10 95 10 41 := ⟨_, _, _, kX10, by decide, Or.inl (zz_c5 178 rfl rfl)⟩
theorem fgX10_98 : zz_FL RX10 98 10 42 := ⟨_, _, _, kX10, by decide, Or.inl (zz_c5 179 rfl rfl)⟩
theorem fgX10_101 : zz_FL RX10 101 10 43 := ⟨_, _, _, kX10, by decide, Or.inl (zz_c5 180 rfl rfl)⟩
theorem fgX10_104 : zz_FL RX10 104 10 45 := ⟨_, _, _, kX10, by decide, Or.inl (zz_c5 182 rfl rfl)⟩
theorem fgX10_107 : zz_FL RX10 107 10 46 := ⟨_, _, _, kX10, by decide, Or.inl (zz_c5 183 rfl rfl)⟩
theorem fgX10_110 : zz_FL RX10 110 10 48 := ⟨_, _, _, kX10, by decide, Or.inl (zz_c5 185 rfl rfl)⟩
theorem fgX10_113 : zz_FL RX10 113 10 49 := ⟨_, _, _, kX10, by decide, Or.inl (zz_c5 186 rfl rfl)⟩
theorem fgX10_116 : zz_FL RX10 116 10 52 := ⟨_, _, _, kX10, by decide, Or.inl (zz_c5 189 rfl rfl)⟩
theorem fgX10_119 : zz_FL RX10 119 10 53 := ⟨_, _, _, kX10, by decide, Or.inl (zz_c5 190 rfl rfl)⟩
theorem fgX10_122 : zz_FL RX10 122 10 54 := ⟨_, _, _, kX10, by decide, Or.inl (zz_c5 191 rfl rfl)⟩
theorem fgX10_125 : zz_FL RX10 125 10 55 := ⟨_, _, _, kX10, by decide, Or.inl (zz_c5 192 rfl rfl)⟩
theorem fgX10_128 : zz_FL RX10 128 10 57 := ⟨_, _, _, kX10, by decide, Or.inl (zz_c5 194 rfl rfl)⟩
theorem fgX10_131 : zz_FL RX10 131 10 58 := ⟨_, _, _, kX10, by decide, Or.inl (zz_c5 195 rfl rfl)⟩
theorem fgX10_134 : zz_FL RX10 134 10 59 := ⟨_, _, _, kX10, by decide, Or.inl (zz_c5 196 rfl rfl)⟩
theorem fgX10_137 : zz_FL RX10 137 10 60 := ⟨_, _, _, kX10, by decide, Or.inl (zz_c5 197 rfl rfl)⟩
theorem fgX10_140 : zz_FL RX10 140 10 62 := ⟨_, _, _, kX10, by decide, Or.inl (zz_c5 199 rfl rfl)⟩
theorem fgX10_143 : zz_FL RX10 143 10 63 := ⟨_, _, _, kX10, by decide, Or.inl (zz_c5 200 rfl rfl)⟩
theorem fgX10_146 : zz_FL RX10 146 10 64 := ⟨_, _, _, kX10, by decide, Or.inl (zz_c5 201 rfl rfl)⟩
theorem fgX10_149 : zz_FL RX10 149 10 65 := ⟨_, _, _, kX10, by decide, Or.inl (zz_c5 202 rfl rfl)⟩
theorem fgX10_152 : zz_FL RX10 152 10 66 := ⟨_, _, _, kX10, by decide, Or.inl (zz_c5 203 rfl rfl)⟩
theorem fgX10_169 : zz_FL RX10 169 10 2 := ⟨_, _, _, kX10, by decide, Or.inl (zz_c5 139 rfl rfl)⟩
theorem fgX10_175 : zz_FL RX10 175 10 4 := ⟨_, _, _, kX10, by decide, Or.inl (zz_c5 141 rfl rfl)⟩
theorem fgX10_184 : zz_FL RX10 184 10 10 := ⟨_, _, _, kX10, by decide, Or.inl (zz_c5 147 rfl rfl)⟩
theorem fgX10_206 : zz_FL RX10 206 10 13 := ⟨_, _, _, kX10, by decide, Or.inl (zz_c5 150 rfl rfl)⟩
theorem fgX10_209 : zz_FL RX10 209 10 11 := ⟨_, _, _, kX10, by decide, Or.inl (zz_c5 148 rfl rfl)⟩
theorem fgX10_212 : zz_FL RX10 212 10 14 := ⟨_, _, _, kX10, by decide, Or.inl (zz_c5 151 rfl rfl)⟩
theorem fgX10_215 : zz_FL RX10 215 10 15 := ⟨_, _, _, kX10, by decide, Or.inl (zz_c5 152 rfl rfl)⟩
theorem fgX10_218 : zz_FL RX10 218 10 16 := ⟨_, _, _, kX10, by decide, Or.inl (zz_c5 153 rfl rfl)⟩
theorem fgX10_233 : zz_FL RX10 233 10 12 := ⟨_, _, _, kX10, by decide, Or.inl (zz_c5 149 rfl rfl)⟩
theorem fgX10_236 : zz_FL RX10 236 10 18 := ⟨_, _, _, kX10, by decide, Or.inl (zz_c5 155 rfl rfl)⟩
theorem fgX10_239 : zz_FL RX10 239 10 19 := ⟨_, _, _, kX10, by decide, Or.inl (zz_c5 156 rfl rfl)⟩
theorem fgX10_242 : zz_FL RX10 242 10 20 := ⟨_, _, _, kX10, by decide, Or.inl (zz_c5 157 rfl rfl)⟩
theorem fgX10_245 : zz_FL RX10 245 10 34 := ⟨_, _, _, kX10, by decide, Or.inl (zz_c5 171 rfl rfl)⟩
theorem fgX10_248 : zz_FL RX10 248 10 40 := ⟨_, _, _, kX10, by decide, Or.inl (zz_c5 177 rfl rfl)⟩
theorem fgX10_254 : zz_FL RX10 254 10 56 := ⟨_, _, _, kX10, by decide, Or.inl (zz_c5 193 rfl rfl)⟩
theorem fgX10_257 : zz_FL RX10 257 10 61 := ⟨_, _, _, kX10, by decide, Or.inl (zz_c5 198 rfl rfl)⟩
theorem fgX10_293 : zz_FL RX10 293 10 44 := ⟨_, _, _, kX10, by decide, Or.inl (zz_c5 181 rfl rfl)⟩
theorem fgX10_306 : zz_FL RX10 306 10 47 := ⟨_, _, _, kX10, by decide, Or.inl (zz_c5 184 rfl rfl)⟩
theorem fgX10_317 : zz_FL RX10 317 10 50 := ⟨_, _, _, kX10, by decide, Or.inl (zz_c5 187 rfl rfl)⟩
theorem fgX10_320 : zz_FL RX10 320 10 51 := ⟨_, _, _, kX10, by decide, Or.inl (zz_c5 188 rfl rfl)⟩
theorem fpX10_13 : zz_FF RX10 13 10 1 (.array .byte) := ⟨_, _, _, kX10, by decide, (zz_c5 138 rfl rfl), rfl, by decide +kernel, rfl⟩
theorem fpX10_17 : zz_FF RX10 17 10 3 (.array .byte) := ⟨_, _, _, kX10, by decide, (zz_c5 140 rfl rfl), rfl, by decide +kernel, rfl⟩
theorem fpX10_20 : zz_FF RX10 20 10 5 (.array .int) := ⟨_, _, _, kX10, by decide, (zz_c5 142 rfl rfl), rfl, by decide +kernel, rfl⟩
theorem fpX10_24 : zz_FF RX10 24 10 6 (.array .int) := ⟨_, _, _, kX10, by decide, (zz_c5 143 rfl rfl), rfl, by decide +kernel, rfl⟩
theorem fpX10_27 : zz_FF RX10 27 10 7 (.array .int) := ⟨_, _, _, kX10, by decide, (zz_c5 144 rfl rfl), rfl, by decide +kernel, rfl⟩
theorem fpX10_30 : zz_FF RX10 30 10 8 (.array .long) := ⟨_, _, _, kX10, by decide, (zz_c5 145 rfl rfl), rfl, by decide +kernel, rfl⟩
theorem fpX10_34 : zz_FF RX10 34 10 9 (.array .long) := ⟨_, _, _, kX10, by decide, (zz_c5 146 rfl rfl), rfl, by decide +kernel, rfl⟩
theorem fpX10_37 : zz_FP RX10 37 10 17 .int := ⟨_, _, _, kX10, by decide, Or.inl (zz_c5 154 rfl rfl), rfl, by decide +kernel⟩
theorem fpX10_40 : zz_FF RX10 40 10 21 (.array .long) := ⟨_, _, _, kX10, by decide, (zz_c5 158 rfl rfl), rfl, by decide +kernel, rfl⟩
theorem fpX10_43 : zz_FF RX10 43 10 22 (.array .int) := ⟨_, _, _, kX10, by decide, (zz_c5 159 rfl rfl), rfl, by decide +kernel, rfl⟩
theorem fpX10_46 : zz_FF RX10 46 10 23 (.array .int) := ⟨_, _, _, kX10, by decide, (zz_c5 160 rfl rfl), rfl, by decide +kernel, rfl⟩
theorem fpX10_49 : zz_FF RX10 49 10 24 (.array .int) := ⟨_, _, _, kX10, by decide, (zz_c5 161 rfl rfl), rfl, by decide +kernel, rfl⟩
theorem fpX10_52 : zz_FF RX10 52 10 25 (.array .int) := ⟨_, _, _, kX10, by decide, (zz_c5 162 rfl rfl), rfl, by decide +kernel, rfl⟩
theorem fpX10_55 : zz_FF RX10 55 10 26 (.array .int) := ⟨_, _, _, kX10, by decide, (zz_c5 163 rfl rfl), rfl, by decide +kernel, rfl⟩
theorem fpX10_58 : zz_FF RX10 58 10 27 (.array .int) := ⟨_, _, _, kX10, by decide, (zz_c5 164 rfl rfl), rfl, by decide +kernel, rfl⟩
theorem fpX10_61 : zz_FF RX10 61 10 28 (.array .int) := ⟨_, _, _, kX10, by decide, (zz_c5 165 rfl rfl), rfl, by decide +kernel, rfl⟩
theorem fpX10_64 : zz_FF RX10 64 10 29 (.array .int) := ⟨_, _, _, kX10, by decide, (zz_c5 166 rfl rfl), rfl, by decide +kernel, rfl⟩
theorem fpX10_67 : zz_FF RX10 67 10 30 (.array .int) := ⟨_, _, _, kX10, by decide, (zz_c5 167 rfl rfl), rfl, by decide +kernel, rfl⟩
theorem fpX10_70 : zz_FF RX10 70 10 31 (.array .int) := ⟨_, _, _, kX10, by decide, (zz_c5 168 rfl rfl), rfl, by decide +kernel, rfl⟩
theorem fpX10_73 : zz_FF RX10 73 10 32 (.array .int) := ⟨_, _, _, kX10, by decide, (zz_c5 169 rfl rfl), rfl, by decide +kernel, rfl⟩
theorem fpX10_76 : zz_FF RX10 76 10 33 (.array .int) := ⟨_, _, _, kX10, by decide, (zz_c5 170 rfl rfl), rfl, by decide +kernel, rfl⟩
theorem fpX10_79 : zz_FF RX10 79 10 35 (.array .boolean) := ⟨_, _, _, kX10, by decide, (zz_c5 172 rfl rfl), rfl, by decide +kernel, rfl⟩
theorem fpX10_83 : zz_FF RX10 83 10 36 (.array .int) := ⟨_, _, _, kX10, by decide, (zz_c5 173 rfl rfl), rfl, by decide +kernel, rfl⟩
theorem fpX10_86 : zz_FF RX10 86 10 37 (.array .int) := ⟨_, _, _, kX10, by decide, (zz_c5 174 rfl rfl), rfl, by decide +kernel, rfl⟩
theorem fpX10_89 : zz_FF RX10 89 10 38 (.array .int) := ⟨_, _, _, kX10, by decide, (zz_c5 175 rfl rfl), rfl, by decide +kernel, rfl⟩
theorem fpX10_92 : zz_FF RX10 92 10 39 (.array .int) := ⟨_, _, _, kX10, by decide, (zz_c5 176 rfl rfl), rfl, by decide +kernel, rfl⟩
theorem fpX10_95 : zz_FF RX10 95 10 41 (.array .int) := ⟨_, _, _, kX10, by decide, (zz_c5 178 rfl rfl), rfl, by decide +kernel, rfl⟩
theorem fpX10_98 : zz_FF RX10 98 10 42 (.array .int) := ⟨_, _, _, kX10, by decide, (zz_c5 179 rfl rfl), rfl, by decide +kernel, rfl⟩
theorem fpX10_101 : zz_FF RX10 101 10 43 (.array .int) := ⟨_, _, _, kX10, by decide, (zz_c5 180 rfl rfl), rfl, by decide +kernel, rfl⟩
theorem fpX10_104 : zz_FF RX10 104 10 45 (.array .int) := ⟨_, _, _, kX10, by decide, (zz_c5 182 rfl rfl), rfl, by decide +kernel, rfl⟩
theorem fpX10_107 : zz_FF RX10 107 10 46 (.array .int) := ⟨_, _, _, kX10, by decide, (zz_c5 183 rfl rfl), rfl, by decide +kernel, rfl⟩
theorem fpX10_110 : zz_FF RX10 110 10 48 (.array .int) := ⟨_, _, _, kX10, by decide, (zz_c5 185 rfl rfl), rfl, by decide +kernel, rfl⟩
theorem fpX10_113 : zz_FF RX10 113 10 49 (.array .int) := ⟨_, _, _, kX10, by decide, (zz_c5 186 rfl rfl), rfl, by decide +kernel, rfl⟩
theorem fpX10_116 : zz_FF RX10 116 10 52 (.array .int) := ⟨_, _, _, kX10, by decide, (zz_c5 189 rfl rfl), rfl, by decide +kernel, rfl⟩
theorem fpX10_119 : zz_FF RX10 119 10 53 (.array .boolean) := ⟨_, _, _, kX10, by decide, (zz_c5 190 rfl rfl), rfl, by decide +kernel, rfl⟩
theorem fpX10_122 : zz_FF RX10 122 10 54 (.array .boolean) := ⟨_, _, _, kX10, by decide, (zz_c5 191 rfl rfl), rfl, by decide +kernel, rfl⟩
theorem fpX10_125 : zz_FF RX10 125 10 55 (.array .int) := ⟨_, _, _, kX10, by decide, (zz_c5 192 rfl rfl), rfl, by decide +kernel, rfl⟩
theorem fpX10_128 : zz_FF RX10 128 10 57 (.array .int) := ⟨_, _, _, kX10, by decide, (zz_c5 194 rfl rfl), rfl, by decide +kernel, rfl⟩
theorem fpX10_131 : zz_FF RX10 131 10 58 (.array .int) := ⟨_, _, _, kX10, by decide, (zz_c5 195 rfl rfl), rfl, by decide +kernel, rfl⟩
theorem fpX10_134 : zz_FF RX10 134 10 59 (.array .int) := ⟨_, _, _, kX10, by decide, (zz_c5 196 rfl rfl), rfl, by decide +kernel, rfl⟩
theorem fpX10_137 : zz_FF RX10 137 10 60 (.array .int) := ⟨_, _, _, kX10, by decide, (zz_c5 197 rfl rfl), rfl, by decide +kernel, rfl⟩
theorem fpX10_140 : zz_FF RX10 140 10 62 (.array .int) := ⟨_, _, _, kX10, by decide, (zz_c5 199 rfl rfl), rfl, by decide +kernel, rfl⟩
theorem fpX10_143 : zz_FF RX10 143 10 63 (.array .int) := ⟨_, _, _, kX10, by decide, (zz_c5 200 rfl rfl), rfl, by decide +kernel, rfl⟩
theorem fpX10_146 : zz_FF RX10 146 10 64 (.array .boolean) := ⟨_, _, _, kX10, by decide, (zz_c5 201 rfl rfl), rfl, by decide +kernel, rfl⟩
theorem fpX10_149 : zz_FF RX10 149 10 65 (.array .boolean) := ⟨_, _, _, kX10, by decide, (zz_c5 202 rfl rfl), rfl, by decide +kernel, rfl⟩
theorem fpX10_152 : zz_FF RX10 152 10 66 (.array .int) := ⟨_, _, _, kX10, by decide, (zz_c5 203 rfl rfl), rfl, by decide +kernel, rfl⟩
theorem fpX10_169 : zz_FP RX10 169 10 2 .int := ⟨_, _, _, kX10, by decide, Or.inl (zz_c5 139 rfl rfl), rfl, by decide +kernel⟩
theorem fpX10_175 : zz_FP RX10 175 10 4 .int := ⟨_, _, _, kX10, by decide, Or.inl (zz_c5 141 rfl rfl), rfl, by decide +kernel⟩
theorem fpX10_184 : zz_FP RX10 184 10 10 .int := ⟨_, _, _, kX10, by decide, Or.inl (zz_c5 147 rfl rfl), rfl, by decide +kernel⟩
theorem fpX10_206 : zz_FP RX10 206 10 13 .int := ⟨_, _, _, kX10, by decide, Or.inl (zz_c5 150 rfl rfl), rfl, by decide +kernel⟩
theorem fpX10_209 : zz_FP RX10 209 10 11 .int := ⟨_, _, _, kX10, by decide, Or.inl (zz_c5 148 rfl rfl), rfl, by decide +kernel⟩
theorem fpX10_212 : zz_FP RX10 212 10 14 .int := ⟨_, _, _, kX10, by decide, Or.inl (zz_c5 151 rfl rfl), rfl, by decide +kernel⟩
theorem fpX10_215 : zz_FP RX10 215 10 15 .int := ⟨_, _, _, kX10, by decide, Or.inl (zz_c5 152 rfl rfl), rfl, by decide +kernel⟩
theorem fpX10_218 : zz_FP RX10 218 10 16 .int := ⟨_, _, _, kX10, by decide, Or.inl (zz_c5 153 rfl rfl), rfl, by decide +kernel⟩
theorem fpX10_233 : zz_FP RX10 233 10 12 .int := ⟨_, _, _, kX10, by decide, Or.inl (zz_c5 149 rfl rfl), rfl, by decide +kernel⟩
theorem fpX10_236 : zz_FP RX10 236 10 18 .int := ⟨_, _, _, kX10, by decide, Or.inl (zz_c5 155 rfl rfl), rfl, by decide +kernel⟩
theorem fpX10_239 : zz_FP RX10 239 10 19 .int := ⟨_, _, _, kX10, by decide, Or.inl (zz_c5 156 rfl rfl), rfl, by decide +kernel⟩
theorem fpX10_242 : zz_FP RX10 242 10 20 .int := ⟨_, _, _, kX10, by decide, Or.inl (zz_c5 157 rfl rfl), rfl, by decide +kernel⟩
theorem fpX10_245 : zz_FP RX10 245 10 34 .int := ⟨_, _, _, kX10, by decide, Or.inl (zz_c5 171 rfl rfl), rfl, by decide +kernel⟩
theorem fpX10_248 : zz_FP RX10 248 10 40 .int := ⟨_, _, _, kX10, by decide, Or.inl (zz_c5 177 rfl rfl), rfl, by decide +kernel⟩
theorem fpX10_254 : zz_FP RX10 254 10 56 .int := ⟨_, _, _, kX10, by decide, Or.inl (zz_c5 193 rfl rfl), rfl, by decide +kernel⟩
theorem fpX10_257 : zz_FP RX10 257 10 61 .int := ⟨_, _, _, kX10, by decide, Or.inl (zz_c5 198 rfl rfl), rfl, by decide +kernel⟩
theorem fpX10_293 : zz_FP RX10 293 10 44 .int := ⟨_, _, _, kX10, by decide, Or.inl (zz_c5 181 rfl rfl), rfl, by decide +kernel⟩
theorem fpX10_306 : zz_FP RX10 306 10 47 .boolean := ⟨_, _, _, kX10, by decide, Or.inl (zz_c5 184 rfl rfl), rfl, by decide +kernel⟩
theorem fpX10_317 : zz_FP RX10 317 10 50 .int := ⟨_, _, _, kX10, by decide, Or.inl (zz_c5 187 rfl rfl), rfl, by decide +kernel⟩
theorem fpX10_320 : zz_FP RX10 320 10 51 .boolean := ⟨_, _, _, kX10, by decide, Or.inl (zz_c5 188 rfl rfl), rfl, by decide +kernel⟩
end
section
abbrev mX0_init : zz_Y := (yX0_init, cX0_init, 1, none)
theorem y_X0_init : zz_yy mX0_init 0 := ⟨(zz_c1 7 rfl rfl), (zz_c2 6 rfl rfl), by decide, by decide, by decide +kernel⟩
abbrev mX0_fill : zz_Y := (yX0_fill, cX0_fill, 4, none)
theorem y_X0_fill : zz_yy mX0_fill 2 := ⟨(zz_c1 7 rfl rfl), (zz_c3 172 rfl rfl), by decide, by decide, by decide +kernel⟩
abbrev mX0_fillPart : zz_Y := (yX0_fillPart, cX0_fillPart, 8, none)
theorem y_X0_fillPart : zz_yy mX0_fillPart 3 := ⟨(zz_c1 7 rfl rfl), (zz_c3 176 rfl rfl), by decide, by decide, by decide +kernel⟩
abbrev mX0_emptyParts : zz_Y := (yX0_emptyParts, cX0_emptyParts, 4, (some .int))
theorem y_X0_emptyParts : zz_yy mX0_emptyParts 1 := ⟨(zz_c1 7 rfl rfl), (zz_c4 83 rfl rfl), by decide, by decide, by decide +kernel⟩
abbrev mX0_passDays : zz_Y := (yX0_passDays, cX0_passDays, 8, (some .boolean))
theorem y_X0_passDays : zz_yy mX0_passDays 5 := ⟨(zz_c1 7 rfl rfl), (zz_c4 29 rfl rfl), by decide, by decide, by decide +kernel⟩
abbrev mX0_playParts : zz_Y := (yX0_playParts, cX0_playParts, 8, (some .boolean))
theorem y_X0_playParts : zz_yy mX0_playParts 4 := ⟨(zz_c1 7 rfl rfl), (zz_c4 34 rfl rfl), by decide, by decide, by decide +kernel⟩
abbrev mX0_playPart : zz_Y := (yX0_playPart, cX0_playPart, 8, none)
theorem y_X0_playPart : zz_yy mX0_playPart 4 := ⟨(zz_c1 7 rfl rfl), (zz_c4 49 rfl rfl), by decide, by decide, by decide +kernel⟩
abbrev mX0_isDogOut : zz_Y := (yX0_isDogOut, cX0_isDogOut, 6, (some .boolean))
theorem y_X0_isDogOut : zz_yy mX0_isDogOut 4 := ⟨(zz_c1 7 rfl rfl), (zz_c4 38 rfl rfl), by decide, by decide, by decide +kernel⟩
abbrev mX0_lot : zz_Y := (yX0_lot, cX0_lot, 3, (some .int))
theorem y_X0_lot : zz_yy mX0_lot 2 := ⟨(zz_c1 7 rfl rfl), (zz_c4 41 rfl rfl), by decide, by decide, by decide +kernel⟩
abbrev mX0_stirred : zz_Y := (yX0_stirred, cX0_stirred, 3, (some .int))
theorem y_X0_stirred : zz_yy mX0_stirred 2 := ⟨(zz_c1 7 rfl rfl), (zz_c4 44 rfl rfl), by decide, by decide, by decide +kernel⟩
abbrev mX1_init : zz_Y := (yX1_init, cX1_init, 1, none)
theorem y_X1_init : zz_yy mX1_init 0 := ⟨(zz_c1 8 rfl rfl), (zz_c2 29 rfl rfl), by decide, by decide, by decide +kernel⟩
abbrev mX1_begin : zz_Y := (yX1_begin, cX1_begin, 2, none)
theorem y_X1_begin : zz_yy mX1_begin 1 := ⟨(zz_c1 8 rfl rfl), (zz_c4 114 rfl rfl), by decide, by decide, by decide +kernel⟩
abbrev mX1_put : zz_Y := (yX1_put, cX1_put, 4, none)
theorem y_X1_put : zz_yy mX1_put 3 := ⟨(zz_c1 8 rfl rfl), (zz_c4 120 rfl rfl), by decide, by decide, by decide +kernel⟩
abbrev mX1_tellWhoCan : zz_Y := (yX1_tellWhoCan, cX1_tellWhoCan, 3, none)
theorem y_X1_tellWhoCan : zz_yy mX1_tellWhoCan 2 := ⟨(zz_c1 8 rfl rfl), (zz_c4 106 rfl rfl), by decide, by decide, by decide +kernel⟩
abbrev mX1_tellAllWhoAreThere : zz_Y := (yX1_tellAllWhoAreThere, cX1_tellAllWhoAreThere, 3, none)
theorem y_X1_tellAllWhoAreThere : zz_yy mX1_tellAllWhoAreThere 2 := ⟨(zz_c1 8 rfl rfl), (zz_c4 201 rfl rfl), by decide, by decide, by decide +kernel⟩
abbrev mX1_tellStands : zz_Y := (yX1_tellStands, cX1_tellStands, 7, none)
theorem y_X1_tellStands : zz_yy mX1_tellStands 3 := ⟨(zz_c1 8 rfl rfl), (zz_c4 110 rfl rfl), by decide, by decide, by decide +kernel⟩
abbrev mX1_canBe : zz_Y := (yX1_canBe, cX1_canBe, 4, (some .boolean))
theorem y_X1_canBe : zz_yy mX1_canBe 3 := ⟨(zz_c1 8 rfl rfl), (zz_c4 132 rfl rfl), by decide, by decide, by decide +kernel⟩
abbrev mX1_most : zz_Y := (yX1_most, cX1_most, 4, (some .int))
theorem y_X1_most : zz_yy mX1_most 0 := ⟨(zz_c1 8 rfl rfl), (zz_c4 124 rfl rfl), by decide, by decide, by decide +kernel⟩
abbrev mX1_mostFrom : zz_Y := (yX1_mostFrom, cX1_mostFrom, 5, (some .int))
theorem y_X1_mostFrom : zz_yy mX1_mostFrom 2 := ⟨(zz_c1 8 rfl rfl), (zz_c4 128 rfl rfl), by decide, by decide, by decide +kernel⟩
abbrev mX1_mostWith : zz_Y := (yX1_mostWith, cX1_mostWith, 4, (some .int))
theorem y_X1_mostWith : zz_yy mX1_mostWith 3 := ⟨(zz_c1 8 rfl rfl), (zz_c4 136 rfl rfl), by decide, by decide, by decide +kernel⟩
abbrev mX1_toWhom : zz_Y := (yX1_toWhom, cX1_toWhom, 5, (some .int))
theorem y_X1_toWhom : zz_yy mX1_toWhom 1 := ⟨(zz_c1 8 rfl rfl), (zz_c4 141 rfl rfl), by decide, by decide, by decide +kernel⟩
abbrev mX1_firstOfMost : zz_Y := (yX1_firstOfMost, cX1_firstOfMost, 4, (some .int))
theorem y_X1_firstOfMost : zz_yy mX1_firstOfMost 2 := ⟨(zz_c1 8 rfl rfl), (zz_c4 145 rfl rfl), by decide, by decide, by decide +kernel⟩
abbrev mX1_howMany : zz_Y := (yX1_howMany, cX1_howMany, 2, (some .int))
theorem y_X1_howMany : zz_yy mX1_howMany 0 := ⟨(zz_c1 8 rfl rfl), (zz_c4 193 rfl rfl), by decide, by decide, by decide +kernel⟩
abbrev mX1_greatestLeast : zz_Y := (yX1_greatestLeast, cX1_greatestLeast, 1, (some .int))
theorem y_X1_greatestLeast : zz_yy mX1_greatestLeast 0 := ⟨(zz_c1 8 rfl rfl), (zz_c4 205 rfl rfl), by decide, by decide, by decide +kernel⟩
abbrev mX1_fewest : zz_Y := (yX1_fewest, cX1_fewest, 1, (some .int))
theorem y_X1_fewest : zz_yy mX1_fewest 0 := ⟨(zz_c1 8 rfl rfl), (zz_c4 160 rfl rfl), by decide, by decide, by decide +kernel⟩
abbrev mX1_overAllWays : zz_Y := (yX1_overAllWays, cX1_overAllWays, 7, (some .int))
theorem y_X1_overAllWays : zz_yy mX1_overAllWays 2 := ⟨(zz_c1 8 rfl rfl), (zz_c4 164 rfl rfl), by decide, by decide, by decide +kernel⟩
abbrev mX1_giveNext : zz_Y := (yX1_giveNext, cX1_giveNext, 6, none)
theorem y_X1_giveNext : zz_yy mX1_giveNext 3 := ⟨(zz_c1 8 rfl rfl), (zz_c4 174 rfl rfl), by decide, by decide, by decide +kernel⟩
abbrev mX1_further : zz_Y := (yX1_further, cX1_further, 3, (some .int))
theorem y_X1_further : zz_yy mX1_further 3 := ⟨(zz_c1 8 rfl rfl), (zz_c4 177 rfl rfl), by decide, by decide, by decide +kernel⟩
abbrev mX1_better : zz_Y := (yX1_better, cX1_better, 3, (some .int))
theorem y_X1_better : zz_yy mX1_better 3 := ⟨(zz_c1 8 rfl rfl), (zz_c4 181 rfl rfl), by decide, by decide, by decide +kernel⟩
abbrev mX2_init : zz_Y := (yX2_init, cX2_init, 1, none)
theorem y_X2_init : zz_yy mX2_init 0 := ⟨(zz_c1 5 rfl rfl), (zz_c1 97 rfl rfl), by decide, by decide, by decide +kernel⟩
abbrev mX2_clear : zz_Y := (yX2_clear, cX2_clear, 1, none)
theorem y_X2_clear : zz_yy mX2_clear 0 := ⟨(zz_c1 5 rfl rfl), (zz_c1 126 rfl rfl), by decide, by decide, by decide +kernel⟩
abbrev mX2_put : zz_Y := (yX2_put, cX2_put, 2, none)
theorem y_X2_put : zz_yy mX2_put 1 := ⟨(zz_c1 5 rfl rfl), (zz_c1 130 rfl rfl), by decide, by decide, by decide +kernel⟩
abbrev mX2_endSum : zz_Y := (yX2_endSum, cX2_endSum, 1, none)
theorem y_X2_endSum : zz_yy mX2_endSum 0 := ⟨(zz_c1 5 rfl rfl), (zz_c1 134 rfl rfl), by decide, by decide, by decide +kernel⟩
abbrev mX2_setNumber : zz_Y := (yX2_setNumber, cX2_setNumber, 2, none)
theorem y_X2_setNumber : zz_yy mX2_setNumber 1 := ⟨(zz_c1 5 rfl rfl), (zz_c1 138 rfl rfl), by decide, by decide, by decide +kernel⟩
abbrev mX2_setNumberLess : zz_Y := (yX2_setNumberLess, cX2_setNumberLess, 5, none)
theorem y_X2_setNumberLess : zz_yy mX2_setNumberLess 3 := ⟨(zz_c1 5 rfl rfl), (zz_c1 122 rfl rfl), by decide, by decide, by decide +kernel⟩
abbrev mX2_worth : zz_Y := (yX2_worth, cX2_worth, 9, (some .int))
theorem y_X2_worth : zz_yy mX2_worth 2 := ⟨(zz_c1 5 rfl rfl), (zz_c3 197 rfl rfl), by decide, by decide, by decide +kernel⟩
abbrev mX2_heldTo : zz_Y := (yX2_heldTo, cX2_heldTo, 3, (some .int))
theorem y_X2_heldTo : zz_yy mX2_heldTo 2 := ⟨(zz_c1 5 rfl rfl), (zz_c3 208 rfl rfl), by decide, by decide, by decide +kernel⟩
abbrev mX2_worthOfSum : zz_Y := (yX2_worthOfSum, cX2_worthOfSum, 6, (some .long))
theorem y_X2_worthOfSum : zz_yy mX2_worthOfSum 2 := ⟨(zz_c1 5 rfl rfl), (zz_c3 201 rfl rfl), by decide, by decide, by decide +kernel⟩
abbrev mX2_joined : zz_Y := (yX2_joined, cX2_joined, 3, (some .int))
theorem y_X2_joined : zz_yy mX2_joined 3 := ⟨(zz_c1 5 rfl rfl), (zz_c3 205 rfl rfl), by decide, by decide, by decide +kernel⟩
abbrev mX3_init : zz_Y := (yX3_init, cX3_init, 2, none)
theorem y_X3_init : zz_yy mX3_init 0 := ⟨(zz_c1 9 rfl rfl), (zz_c2 51 rfl rfl), by decide, by decide, by decide +kernel⟩
abbrev mX3_clear : zz_Y := (yX3_clear, cX3_clear, 1, none)
theorem y_X3_clear : zz_yy mX3_clear 0 := ⟨(zz_c1 9 rfl rfl), (zz_c3 148 rfl rfl), by decide, by decide, by decide +kernel⟩
abbrev mX3_remember : zz_Y := (yX3_remember, cX3_remember, 2, none)
theorem y_X3_remember : zz_yy mX3_remember 1 := ⟨(zz_c1 9 rfl rfl), (zz_c4 8 rfl rfl), by decide, by decide, by decide +kernel⟩
abbrev mX3_takeBack : zz_Y := (yX3_takeBack, cX3_takeBack, 2, (some .boolean))
theorem y_X3_takeBack : zz_yy mX3_takeBack 1 := ⟨(zz_c1 9 rfl rfl), (zz_c4 75 rfl rfl), by decide, by decide, by decide +kernel⟩
abbrev mX4_init : zz_Y := (yX4_init, cX4_init, 1, none)
theorem y_X4_init : zz_yy mX4_init 0 := ⟨(zz_c1 2 rfl rfl), (zz_c1 32 rfl rfl), by decide, by decide, by decide +kernel⟩
abbrev mX4_readText : zz_Y := (yX4_readText, cX4_readText, 5, (some .int))
theorem y_X4_readText : zz_yy mX4_readText 3 := ⟨(zz_c1 2 rfl rfl), (zz_c2 150 rfl rfl), by decide, by decide, by decide +kernel⟩
abbrev mX4_sort : zz_Y := (yX4_sort, cX4_sort, 1, (some .int))
theorem y_X4_sort : zz_yy mX4_sort 0 := ⟨(zz_c1 2 rfl rfl), (zz_c3 62 rfl rfl), by decide, by decide, by decide +kernel⟩
abbrev mX4_fail : zz_Y := (yX4_fail, cX4_fail, 2, none)
theorem y_X4_fail : zz_yy mX4_fail 1 := ⟨(zz_c1 2 rfl rfl), (zz_c3 74 rfl rfl), by decide, by decide, by decide +kernel⟩
abbrev mX4_failLater : zz_Y := (yX4_failLater, cX4_failLater, 2, none)
theorem y_X4_failLater : zz_yy mX4_failLater 1 := ⟨(zz_c1 2 rfl rfl), (zz_c3 90 rfl rfl), by decide, by decide, by decide +kernel⟩
abbrev mX4_take : zz_Y := (yX4_take, cX4_take, 1, none)
theorem y_X4_take : zz_yy mX4_take 0 := ⟨(zz_c1 2 rfl rfl), (zz_c3 78 rfl rfl), by decide, by decide, by decide +kernel⟩
abbrev mX4_expect : zz_Y := (yX4_expect, cX4_expect, 2, none)
theorem y_X4_expect : zz_yy mX4_expect 1 := ⟨(zz_c1 2 rfl rfl), (zz_c3 94 rfl rfl), by decide, by decide, by decide +kernel⟩
abbrev mX4_readTell : zz_Y := (yX4_readTell, cX4_readTell, 3, none)
theorem y_X4_readTell : zz_yy mX4_readTell 1 := ⟨(zz_c1 2 rfl rfl), (zz_c3 66 rfl rfl), by decide, by decide, by decide +kernel⟩
abbrev mX4_readFigure : zz_Y := (yX4_readFigure, cX4_readFigure, 9, none)
theorem y_X4_readFigure : zz_yy mX4_readFigure 2 := ⟨(zz_c1 2 rfl rfl), (zz_c3 70 rfl rfl), by decide, by decide, by decide +kernel⟩
abbrev mX4_readName : zz_Y := (yX4_readName, cX4_readName, 4, (some .long))
theorem y_X4_readName : zz_yy mX4_readName 1 := ⟨(zz_c1 2 rfl rfl), (zz_c3 82 rfl rfl), by decide, by decide, by decide +kernel⟩
abbrev mX4_readNumber : zz_Y := (yX4_readNumber, cX4_readNumber, 3, (some .int))
theorem y_X4_readNumber : zz_yy mX4_readNumber 1 := ⟨(zz_c1 2 rfl rfl), (zz_c3 98 rfl rfl), by decide, by decide, by decide +kernel⟩
abbrev mX4_readLaw : zz_Y := (yX4_readLaw, cX4_readLaw, 3, none)
theorem y_X4_readLaw : zz_yy mX4_readLaw 1 := ⟨(zz_c1 2 rfl rfl), (zz_c3 110 rfl rfl), by decide, by decide, by decide +kernel⟩
abbrev mX4_readSum : zz_Y := (yX4_readSum, cX4_readSum, 6, none)
theorem y_X4_readSum : zz_yy mX4_readSum 1 := ⟨(zz_c1 2 rfl rfl), (zz_c3 115 rfl rfl), by decide, by decide, by decide +kernel⟩
abbrev mX4_readUnit : zz_Y := (yX4_readUnit, cX4_readUnit, 3, none)
theorem y_X4_readUnit : zz_yy mX4_readUnit 1 := ⟨(zz_c1 2 rfl rfl), (zz_c3 123 rfl rfl), by decide, by decide, by decide +kernel⟩
abbrev mX4_waitFor : zz_Y := (yX4_waitFor, cX4_waitFor, 2, none)
theorem y_X4_waitFor : zz_yy mX4_waitFor 1 := ⟨(zz_c1 2 rfl rfl), (zz_c3 119 rfl rfl), by decide, by decide, by decide +kernel⟩
abbrev mX4_rank : zz_Y := (yX4_rank, cX4_rank, 1, (some .int))
theorem y_X4_rank : zz_yy mX4_rank 1 := ⟨(zz_c1 2 rfl rfl), (zz_c3 127 rfl rfl), by decide, by decide, by decide +kernel⟩
abbrev mX4_putWaiting : zz_Y := (yX4_putWaiting, cX4_putWaiting, 3, none)
theorem y_X4_putWaiting : zz_yy mX4_putWaiting 2 := ⟨(zz_c1 2 rfl rfl), (zz_c3 131 rfl rfl), by decide, by decide, by decide +kernel⟩
abbrev mX5_init : zz_Y := (yX5_init, cX5_init, 2, none)
theorem y_X5_init : zz_yy mX5_init 0 := ⟨(zz_c1 4 rfl rfl), (zz_c1 90 rfl rfl), by decide, by decide, by decide +kernel⟩
abbrev mX5_clear : zz_Y := (yX5_clear, cX5_clear, 1, none)
theorem y_X5_clear : zz_yy mX5_clear 0 := ⟨(zz_c1 4 rfl rfl), (zz_c1 118 rfl rfl), by decide, by decide, by decide +kernel⟩
abbrev mX5_hasName : zz_Y := (yX5_hasName, cX5_hasName, 4, (some .boolean))
theorem y_X5_hasName : zz_yy mX5_hasName 1 := ⟨(zz_c1 4 rfl rfl), (zz_c3 86 rfl rfl), by decide, by decide, by decide +kernel⟩
abbrev mX5_addPerson : zz_Y := (yX5_addPerson, cX5_addPerson, 6, none)
theorem y_X5_addPerson : zz_yy mX5_addPerson 4 := ⟨(zz_c1 4 rfl rfl), (zz_c3 102 rfl rfl), by decide, by decide, by decide +kernel⟩
abbrev mX5_addPart : zz_Y := (yX5_addPart, cX5_addPart, 6, none)
theorem y_X5_addPart : zz_yy mX5_addPart 4 := ⟨(zz_c1 4 rfl rfl), (zz_c3 106 rfl rfl), by decide, by decide, by decide +kernel⟩
abbrev mX5_measure : zz_Y := (yX5_measure, cX5_measure, 5, (some .int))
theorem y_X5_measure : zz_yy mX5_measure 4 := ⟨(zz_c1 4 rfl rfl), (zz_c3 181 rfl rfl), by decide, by decide, by decide +kernel⟩
abbrev mX6_init : zz_Y := (yX6_init, cX6_init, 1, none)
theorem y_X6_init : zz_yy mX6_init 0 := ⟨(zz_c1 6 rfl rfl), (zz_c1 206 rfl rfl), by decide, by decide, by decide +kernel⟩
abbrev mX6_begin : zz_Y := (yX6_begin, cX6_begin, 3, none)
theorem y_X6_begin : zz_yy mX6_begin 1 := ⟨(zz_c1 6 rfl rfl), (zz_c3 141 rfl rfl), by decide, by decide, by decide +kernel⟩
abbrev mX6_copyFrom : zz_Y := (yX6_copyFrom, cX6_copyFrom, 2, none)
theorem y_X6_copyFrom : zz_yy mX6_copyFrom 1 := ⟨(zz_c1 6 rfl rfl), (zz_c4 12 rfl rfl), by decide, by decide, by decide +kernel⟩
abbrev mX6_isOff : zz_Y := (yX6_isOff, cX6_isOff, 2, (some .boolean))
theorem y_X6_isOff : zz_yy mX6_isOff 1 := ⟨(zz_c1 6 rfl rfl), (zz_c3 168 rfl rfl), by decide, by decide, by decide +kernel⟩
abbrev mX6_seenAs : zz_Y := (yX6_seenAs, cX6_seenAs, 3, (some .int))
theorem y_X6_seenAs : zz_yy mX6_seenAs 2 := ⟨(zz_c1 6 rfl rfl), (zz_c3 193 rfl rfl), by decide, by decide, by decide +kernel⟩
abbrev mX6_seeAndMark : zz_Y := (yX6_seeAndMark, cX6_seeAndMark, 4, none)
theorem y_X6_seeAndMark : zz_yy mX6_seeAndMark 3 := ⟨(zz_c1 6 rfl rfl), (zz_c4 53 rfl rfl), by decide, by decide, by decide +kernel⟩
abbrev mX6_goNearer : zz_Y := (yX6_goNearer, cX6_goNearer, 6, none)
theorem y_X6_goNearer : zz_yy mX6_goNearer 2 := ⟨(zz_c1 6 rfl rfl), (zz_c4 59 rfl rfl), by decide, by decide, by decide +kernel⟩
abbrev mX7_init : zz_Y := (yX7_init, cX7_init, 1, none)
theorem y_X7_init : zz_yy mX7_init 0 := ⟨(zz_c1 3 rfl rfl), (zz_c1 38 rfl rfl), by decide, by decide, by decide +kernel⟩
abbrev mX7_cut : zz_Y := (yX7_cut, cX7_cut, 5, none)
theorem y_X7_cut : zz_yy mX7_cut 2 := ⟨(zz_c1 3 rfl rfl), (zz_c2 154 rfl rfl), by decide, by decide, by decide +kernel⟩
abbrev mX7_byteAt : zz_Y := (yX7_byteAt, cX7_byteAt, 3, (some .int))
theorem y_X7_byteAt : zz_yy mX7_byteAt 3 := ⟨(zz_c1 3 rfl rfl), (zz_c2 160 rfl rfl), by decide, by decide, by decide +kernel⟩
abbrev mX7_isBlank : zz_Y := (yX7_isBlank, cX7_isBlank, 1, (some .boolean))
theorem y_X7_isBlank : zz_yy mX7_isBlank 1 := ⟨(zz_c1 3 rfl rfl), (zz_c2 163 rfl rfl), by decide, by decide, by decide +kernel⟩
abbrev mX7_isLetter : zz_Y := (yX7_isLetter, cX7_isLetter, 1, (some .boolean))
theorem y_X7_isLetter : zz_yy mX7_isLetter 1 := ⟨(zz_c1 3 rfl rfl), (zz_c2 170 rfl rfl), by decide, by decide, by decide +kernel⟩
abbrev mX7_isDigit : zz_Y := (yX7_isDigit, cX7_isDigit, 1, (some .boolean))
theorem y_X7_isDigit : zz_yy mX7_isDigit 1 := ⟨(zz_c1 3 rfl rfl), (zz_c2 233 rfl rfl), by decide, by decide, by decide +kernel⟩
abbrev mX7_behindBlanks : zz_Y := (yX7_behindBlanks, cX7_behindBlanks, 4, (some .int))
theorem y_X7_behindBlanks : zz_yy mX7_behindBlanks 3 := ⟨(zz_c1 3 rfl rfl), (zz_c2 157 rfl rfl), by decide, by decide, by decide +kernel⟩
abbrev mX7_cutOne : zz_Y := (yX7_cutOne, cX7_cutOne, 6, (some .int))
theorem y_X7_cutOne : zz_yy mX7_cutOne 4 := ⟨(zz_c1 3 rfl rfl), (zz_c2 167 rfl rfl), by decide, by decide, by decide +kernel⟩
abbrev mX7_cutLetters : zz_Y := (yX7_cutLetters, cX7_cutLetters, 8, (some .int))
theorem y_X7_cutLetters : zz_yy mX7_cutLetters 4 := ⟨(zz_c1 3 rfl rfl), (zz_c2 174 rfl rfl), by decide, by decide, by decide +kernel⟩
abbrev mX7_cutDigits : zz_Y := (yX7_cutDigits, cX7_cutDigits, 7, (some .int))
theorem y_X7_cutDigits : zz_yy mX7_cutDigits 4 := ⟨(zz_c1 3 rfl rfl), (zz_c2 237 rfl rfl), by decide, by decide, by decide +kernel⟩
abbrev mX7_sortOf : zz_Y := (yX7_sortOf, cX7_sortOf, 4, (some .int))
theorem y_X7_sortOf : zz_yy mX7_sortOf 1 := ⟨(zz_c1 3 rfl rfl), (zz_c2 178 rfl rfl), by decide, by decide, by decide +kernel⟩
abbrev mX7_spellingOf : zz_Y := (yX7_spellingOf, cX7_spellingOf, 6, (some .long))
theorem y_X7_spellingOf : zz_yy mX7_spellingOf 1 := ⟨(zz_c1 3 rfl rfl), (zz_c2 192 rfl rfl), by decide, by decide, by decide +kernel⟩
abbrev mX8_init : zz_Y := (yX8_init, cX8_init, 1, none)
theorem y_X8_init : zz_yy mX8_init 0 := ⟨(zz_c1 10 rfl rfl), (zz_c2 71 rfl rfl), by decide, by decide, by decide +kernel⟩
abbrev mX8_clear : zz_Y := (yX8_clear, cX8_clear, 1, none)
theorem y_X8_clear : zz_yy mX8_clear 0 := ⟨(zz_c1 10 rfl rfl), (zz_c3 152 rfl rfl), by decide, by decide, by decide +kernel⟩
abbrev mX8_add : zz_Y := (yX8_add, cX8_add, 4, (some .int))
theorem y_X8_add : zz_yy mX8_add 3 := ⟨(zz_c1 10 rfl rfl), (zz_c5 50 rfl rfl), by decide, by decide, by decide +kernel⟩
abbrev mX8_whoIsLeft : zz_Y := (yX8_whoIsLeft, cX8_whoIsLeft, 6, (some .int))
theorem y_X8_whoIsLeft : zz_yy mX8_whoIsLeft 3 := ⟨(zz_c1 10 rfl rfl), (zz_c5 62 rfl rfl), by decide, by decide, by decide +kernel⟩
abbrev mX8_fits : zz_Y := (yX8_fits, cX8_fits, 7, (some .boolean))
theorem y_X8_fits : zz_yy mX8_fits 4 := ⟨(zz_c1 10 rfl rfl), (zz_c5 66 rfl rfl), by decide, by decide, by decide +kernel⟩
abbrev mX9_init : zz_Y := (yX9_init, cX9_init, 2, none)
theorem y_X9_init : zz_yy mX9_init 0 := ⟨(zz_c1 1 rfl rfl), (zz_c1 24 rfl rfl), by decide, by decide, by decide +kernel⟩
abbrev mX9_feed : zz_Y := (yX9_feed, cX9_feed, 6, (some .int))
theorem y_X9_feed : zz_yy mX9_feed 5 := ⟨(zz_c1 1 rfl rfl), (zz_c2 134 rfl rfl), by decide, by decide, by decide +kernel⟩
abbrev mX9_putFourBytes : zz_Y := (yX9_putFourBytes, cX9_putFourBytes, 3, none)
theorem y_X9_putFourBytes : zz_yy mX9_putFourBytes 1 := ⟨(zz_c1 1 rfl rfl), (zz_c2 138 rfl rfl), by decide, by decide, by decide +kernel⟩
abbrev mX9_back : zz_Y := (yX9_back, cX9_back, 2, (some .int))
theorem y_X9_back : zz_yy mX9_back 1 := ⟨(zz_c1 1 rfl rfl), (zz_c2 142 rfl rfl), by decide, by decide, by decide +kernel⟩
abbrev mX9_read : zz_Y := (yX9_read, cX9_read, 2, (some .int))
theorem y_X9_read : zz_yy mX9_read 0 := ⟨(zz_c1 1 rfl rfl), (zz_c2 146 rfl rfl), by decide, by decide, by decide +kernel⟩
abbrev mX9_playDraft : zz_Y := (yX9_playDraft, cX9_playDraft, 3, none)
theorem y_X9_playDraft : zz_yy mX9_playDraft 0 := ⟨(zz_c1 1 rfl rfl), (zz_c3 137 rfl rfl), by decide, by decide, by decide +kernel⟩
abbrev mX9_place : zz_Y := (yX9_place, cX9_place, 1, (some .int))
theorem y_X9_place : zz_yy mX9_place 0 := ⟨(zz_c1 1 rfl rfl), (zz_c3 156 rfl rfl), by decide, by decide, by decide +kernel⟩
abbrev mX9_isPerson : zz_Y := (yX9_isPerson, cX9_isPerson, 2, (some .boolean))
theorem y_X9_isPerson : zz_yy mX9_isPerson 1 := ⟨(zz_c1 1 rfl rfl), (zz_c3 164 rfl rfl), by decide, by decide, by decide +kernel⟩
abbrev mX9_isPart : zz_Y := (yX9_isPart, cX9_isPart, 2, (some .boolean))
theorem y_X9_isPart : zz_yy mX9_isPart 1 := ⟨(zz_c1 1 rfl rfl), (zz_c3 227 rfl rfl), by decide, by decide, by decide +kernel⟩
abbrev mX9_isHour : zz_Y := (yX9_isHour, cX9_isHour, 1, (some .boolean))
theorem y_X9_isHour : zz_yy mX9_isHour 1 := ⟨(zz_c1 1 rfl rfl), (zz_c4 4 rfl rfl), by decide, by decide, by decide +kernel⟩
abbrev mX9_isOneOfTwo : zz_Y := (yX9_isOneOfTwo, cX9_isOneOfTwo, 1, (some .boolean))
theorem y_X9_isOneOfTwo : zz_yy mX9_isOneOfTwo 1 := ⟨(zz_c1 1 rfl rfl), (zz_c4 90 rfl rfl), by decide, by decide, by decide +kernel⟩
abbrev mX9_hoursApart : zz_Y := (yX9_hoursApart, cX9_hoursApart, 3, (some .int))
theorem y_X9_hoursApart : zz_yy mX9_hoursApart 2 := ⟨(zz_c1 1 rfl rfl), (zz_c3 184 rfl rfl), by decide, by decide, by decide +kernel⟩
abbrev mX9_laterHour : zz_Y := (yX9_laterHour, cX9_laterHour, 1, (some .int))
theorem y_X9_laterHour : zz_yy mX9_laterHour 1 := ⟨(zz_c1 1 rfl rfl), (zz_c4 63 rfl rfl), by decide, by decide, by decide +kernel⟩
abbrev mX9_earlierHour : zz_Y := (yX9_earlierHour, cX9_earlierHour, 1, (some .int))
theorem y_X9_earlierHour : zz_yy mX9_earlierHour 1 := ⟨(zz_c1 1 rfl rfl), (zz_c4 66 rfl rfl), by decide, by decide, by decide +kernel⟩
abbrev mX9_person : zz_Y := (yX9_person, cX9_person, 3, (some .int))
theorem y_X9_person : zz_yy mX9_person 2 := ⟨(zz_c1 1 rfl rfl), (zz_c3 160 rfl rfl), by decide, by decide, by decide +kernel⟩
abbrev mX9_seenAsAny : zz_Y := (yX9_seenAsAny, cX9_seenAsAny, 4, (some .int))
theorem y_X9_seenAsAny : zz_yy mX9_seenAsAny 1 := ⟨(zz_c1 1 rfl rfl), (zz_c3 218 rfl rfl), by decide, by decide, by decide +kernel⟩
abbrev mX9_part : zz_Y := (yX9_part, cX9_part, 3, (some .int))
theorem y_X9_part : zz_yy mX9_part 2 := ⟨(zz_c1 1 rfl rfl), (zz_c3 223 rfl rfl), by decide, by decide, by decide +kernel⟩
abbrev mX9_dogsOfPart : zz_Y := (yX9_dogsOfPart, cX9_dogsOfPart, 3, (some .int))
theorem y_X9_dogsOfPart : zz_yy mX9_dogsOfPart 1 := ⟨(zz_c1 1 rfl rfl), (zz_c3 231 rfl rfl), by decide, by decide, by decide +kernel⟩
abbrev mX9_tells : zz_Y := (yX9_tells, cX9_tells, 4, (some .int))
theorem y_X9_tells : zz_yy mX9_tells 3 := ⟨(zz_c1 1 rfl rfl), (zz_c3 236 rfl rfl), by decide, by decide, by decide +kernel⟩
abbrev mX9_move : zz_Y := (yX9_move, cX9_move, 3, (some .boolean))
theorem y_X9_move : zz_yy mX9_move 2 := ⟨(zz_c1 1 rfl rfl), (zz_c4 1 rfl rfl), by decide, by decide, by decide +kernel⟩
abbrev mX9_write : zz_Y := (yX9_write, cX9_write, 3, (some .boolean))
theorem y_X9_write : zz_yy mX9_write 2 := ⟨(zz_c1 1 rfl rfl), (zz_c4 17 rfl rfl), by decide, by decide, by decide +kernel⟩
abbrev mX9_keepOff : zz_Y := (yX9_keepOff, cX9_keepOff, 3, (some .boolean))
theorem y_X9_keepOff : zz_yy mX9_keepOff 2 := ⟨(zz_c1 1 rfl rfl), (zz_c4 21 rfl rfl), by decide, by decide, by decide +kernel⟩
abbrev mX9_days : zz_Y := (yX9_days, cX9_days, 2, (some .int))
theorem y_X9_days : zz_yy mX9_days 1 := ⟨(zz_c1 1 rfl rfl), (zz_c4 25 rfl rfl), by decide, by decide, by decide +kernel⟩
abbrev mX9_undo : zz_Y := (yX9_undo, cX9_undo, 1, (some .boolean))
theorem y_X9_undo : zz_yy mX9_undo 0 := ⟨(zz_c1 1 rfl rfl), (zz_c4 71 rfl rfl), by decide, by decide, by decide +kernel⟩
abbrev mX9_empty : zz_Y := (yX9_empty, cX9_empty, 1, (some .int))
theorem y_X9_empty : zz_yy mX9_empty 0 := ⟨(zz_c1 1 rfl rfl), (zz_c4 79 rfl rfl), by decide, by decide, by decide +kernel⟩
abbrev mX9_standsOf : zz_Y := (yX9_standsOf, cX9_standsOf, 2, (some .int))
theorem y_X9_standsOf : zz_yy mX9_standsOf 1 := ⟨(zz_c1 1 rfl rfl), (zz_c4 213 rfl rfl), by decide, by decide, by decide +kernel⟩
abbrev mX9_rather : zz_Y := (yX9_rather, cX9_rather, 6, (some .int))
theorem y_X9_rather : zz_yy mX9_rather 1 := ⟨(zz_c1 1 rfl rfl), (zz_c4 87 rfl rfl), by decide, by decide, by decide +kernel⟩
abbrev mX9_wouldRather : zz_Y := (yX9_wouldRather, cX9_wouldRather, 6, (some .boolean))
theorem y_X9_wouldRather : zz_yy mX9_wouldRather 2 := ⟨(zz_c1 1 rfl rfl), (zz_c4 94 rfl rfl), by decide, by decide, by decide +kernel⟩
abbrev mX9_standsIfAny : zz_Y := (yX9_standsIfAny, cX9_standsIfAny, 3, (some .int))
theorem y_X9_standsIfAny : zz_yy mX9_standsIfAny 2 := ⟨(zz_c1 1 rfl rfl), (zz_c4 98 rfl rfl), by decide, by decide, by decide +kernel⟩
abbrev mX9_given : zz_Y := (yX9_given, cX9_given, 3, (some .int))
theorem y_X9_given : zz_yy mX9_given 1 := ⟨(zz_c1 1 rfl rfl), (zz_c4 102 rfl rfl), by decide, by decide, by decide +kernel⟩
abbrev mX9_whole : zz_Y := (yX9_whole, cX9_whole, 3, (some .int))
theorem y_X9_whole : zz_yy mX9_whole 0 := ⟨(zz_c1 1 rfl rfl), (zz_c4 149 rfl rfl), by decide, by decide, by decide +kernel⟩
abbrev mX9_costs : zz_Y := (yX9_costs, cX9_costs, 3, (some .int))
theorem y_X9_costs : zz_yy mX9_costs 2 := ⟨(zz_c1 1 rfl rfl), (zz_c4 185 rfl rfl), by decide, by decide, by decide +kernel⟩
abbrev mX9_hoursToMove : zz_Y := (yX9_hoursToMove, cX9_hoursToMove, 7, (some .int))
theorem y_X9_hoursToMove : zz_yy mX9_hoursToMove 2 := ⟨(zz_c1 1 rfl rfl), (zz_c4 154 rfl rfl), by decide, by decide, by decide +kernel⟩
abbrev mX9_ways : zz_Y := (yX9_ways, cX9_ways, 1, (some .int))
theorem y_X9_ways : zz_yy mX9_ways 0 := ⟨(zz_c1 1 rfl rfl), (zz_c4 189 rfl rfl), by decide, by decide, by decide +kernel⟩
abbrev mX9_fairest : zz_Y := (yX9_fairest, cX9_fairest, 1, (some .int))
theorem y_X9_fairest : zz_yy mX9_fairest 0 := ⟨(zz_c1 1 rfl rfl), (zz_c4 197 rfl rfl), by decide, by decide, by decide +kernel⟩
abbrev mX9_bestHour : zz_Y := (yX9_bestHour, cX9_bestHour, 8, (some .int))
theorem y_X9_bestHour : zz_yy mX9_bestHour 2 := ⟨(zz_c1 1 rfl rfl), (zz_c4 209 rfl rfl), by decide, by decide, by decide +kernel⟩
abbrev mX9_trade : zz_Y := (yX9_trade, cX9_trade, 3, (some .int))
theorem y_X9_trade : zz_yy mX9_trade 2 := ⟨(zz_c1 1 rfl rfl), (zz_c4 217 rfl rfl), by decide, by decide, by decide +kernel⟩
abbrev mX9_castWithout : zz_Y := (yX9_castWithout, cX9_castWithout, 2, (some (.object "UnderstudyShow$Cast")))
theorem y_X9_castWithout : zz_yy mX9_castWithout 1 := ⟨(zz_c1 1 rfl rfl), (zz_c4 226 rfl rfl), by decide, by decide, by decide +kernel⟩
abbrev mX9_key : zz_Y := (yX9_key, cX9_key, 4, (some .int))
theorem y_X9_key : zz_yy mX9_key 0 := ⟨(zz_c1 1 rfl rfl), (zz_c4 222 rfl rfl), by decide, by decide, by decide +kernel⟩
abbrev mX9_missed : zz_Y := (yX9_missed, cX9_missed, 6, (some .int))
theorem y_X9_missed : zz_yy mX9_missed 1 := ⟨(zz_c1 1 rfl rfl), (zz_c4 230 rfl rfl), by decide, by decide, by decide +kernel⟩
abbrev mX9_crowd : zz_Y := (yX9_crowd, cX9_crowd, 6, (some .int))
theorem y_X9_crowd : zz_yy mX9_crowd 1 := ⟨(zz_c1 1 rfl rfl), (zz_c4 234 rfl rfl), by decide, by decide, by decide +kernel⟩
abbrev mX9_howManyAt : zz_Y := (yX9_howManyAt, cX9_howManyAt, 4, (some .int))
theorem y_X9_howManyAt : zz_yy mX9_howManyAt 1 := ⟨(zz_c1 1 rfl rfl), (zz_c4 238 rfl rfl), by decide, by decide, by decide +kernel⟩
abbrev mX9_habit : zz_Y := (yX9_habit, cX9_habit, 6, (some .int))
theorem y_X9_habit : zz_yy mX9_habit 2 := ⟨(zz_c1 1 rfl rfl), (zz_c5 2 rfl rfl), by decide, by decide, by decide +kernel⟩
abbrev mX9_regular : zz_Y := (yX9_regular, cX9_regular, 6, (some .int))
theorem y_X9_regular : zz_yy mX9_regular 2 := ⟨(zz_c1 1 rfl rfl), (zz_c5 6 rfl rfl), by decide, by decide, by decide +kernel⟩
abbrev mX9_settles : zz_Y := (yX9_settles, cX9_settles, 3, (some .int))
theorem y_X9_settles : zz_yy mX9_settles 0 := ⟨(zz_c1 1 rfl rfl), (zz_c5 10 rfl rfl), by decide, by decide, by decide +kernel⟩
abbrev mX9_drift : zz_Y := (yX9_drift, cX9_drift, 3, (some .int))
theorem y_X9_drift : zz_yy mX9_drift 2 := ⟨(zz_c1 1 rfl rfl), (zz_c5 14 rfl rfl), by decide, by decide, by decide +kernel⟩
abbrev mX9_meet : zz_Y := (yX9_meet, cX9_meet, 4, (some .int))
theorem y_X9_meet : zz_yy mX9_meet 1 := ⟨(zz_c1 1 rfl rfl), (zz_c5 18 rfl rfl), by decide, by decide, by decide +kernel⟩
abbrev mX9_firstTwoAtOneHour : zz_Y := (yX9_firstTwoAtOneHour, cX9_firstTwoAtOneHour, 4, (some .int))
theorem y_X9_firstTwoAtOneHour : zz_yy mX9_firstTwoAtOneHour 1 := ⟨(zz_c1 1 rfl rfl), (zz_c5 22 rfl rfl), by decide, by decide, by decide +kernel⟩
abbrev mX9_away : zz_Y := (yX9_away, cX9_away, 3, (some .int))
theorem y_X9_away : zz_yy mX9_away 0 := ⟨(zz_c1 1 rfl rfl), (zz_c5 26 rfl rfl), by decide, by decide, by decide +kernel⟩
abbrev mX9_then : zz_Y := (yX9_then, cX9_then, 4, (some .int))
theorem y_X9_then : zz_yy mX9_then 3 := ⟨(zz_c1 1 rfl rfl), (zz_c5 30 rfl rfl), by decide, by decide, by decide +kernel⟩
abbrev mX9_marksIn : zz_Y := (yX9_marksIn, cX9_marksIn, 3, (some .int))
theorem y_X9_marksIn : zz_yy mX9_marksIn 2 := ⟨(zz_c1 1 rfl rfl), (zz_c5 34 rfl rfl), by decide, by decide, by decide +kernel⟩
abbrev mX9_star : zz_Y := (yX9_star, cX9_star, 7, (some .int))
theorem y_X9_star : zz_yy mX9_star 2 := ⟨(zz_c1 1 rfl rfl), (zz_c5 38 rfl rfl), by decide, by decide, by decide +kernel⟩
abbrev mX9_year : zz_Y := (yX9_year, cX9_year, 5, (some .int))
theorem y_X9_year : zz_yy mX9_year 2 := ⟨(zz_c1 1 rfl rfl), (zz_c5 42 rfl rfl), by decide, by decide, by decide +kernel⟩
abbrev mX9_tell : zz_Y := (yX9_tell, cX9_tell, 4, (some .int))
theorem y_X9_tell : zz_yy mX9_tell 3 := ⟨(zz_c1 1 rfl rfl), (zz_c5 46 rfl rfl), by decide, by decide, by decide +kernel⟩
abbrev mX9_forget : zz_Y := (yX9_forget, cX9_forget, 2, (some .int))
theorem y_X9_forget : zz_yy mX9_forget 0 := ⟨(zz_c1 1 rfl rfl), (zz_c5 54 rfl rfl), by decide, by decide, by decide +kernel⟩
abbrev mX9_who : zz_Y := (yX9_who, cX9_who, 4, (some .int))
theorem y_X9_who : zz_yy mX9_who 2 := ⟨(zz_c1 1 rfl rfl), (zz_c5 58 rfl rfl), by decide, by decide, by decide +kernel⟩
abbrev mX9_ask : zz_Y := (yX9_ask, cX9_ask, 8, (some .int))
theorem y_X9_ask : zz_yy mX9_ask 2 := ⟨(zz_c1 1 rfl rfl), (zz_c5 72 rfl rfl), by decide, by decide, by decide +kernel⟩
abbrev mX9_leftAtWorst : zz_Y := (yX9_leftAtWorst, cX9_leftAtWorst, 7, (some .int))
theorem y_X9_leftAtWorst : zz_yy mX9_leftAtWorst 3 := ⟨(zz_c1 1 rfl rfl), (zz_c5 76 rfl rfl), by decide, by decide, by decide +kernel⟩
abbrev mX9_isSlot : zz_Y := (yX9_isSlot, cX9_isSlot, 1, (some .boolean))
theorem y_X9_isSlot : zz_yy mX9_isSlot 1 := ⟨(zz_c1 1 rfl rfl), (zz_c5 84 rfl rfl), by decide, by decide, by decide +kernel⟩
abbrev mX9_hold : zz_Y := (yX9_hold, cX9_hold, 2, (some .boolean))
theorem y_X9_hold : zz_yy mX9_hold 1 := ⟨(zz_c1 1 rfl rfl), (zz_c5 81 rfl rfl), by decide, by decide, by decide +kernel⟩
abbrev mX9_restore : zz_Y := (yX9_restore, cX9_restore, 2, (some .boolean))
theorem y_X9_restore : zz_yy mX9_restore 1 := ⟨(zz_c1 1 rfl rfl), (zz_c5 88 rfl rfl), by decide, by decide, by decide +kernel⟩
abbrev mX9_count : zz_Y := (yX9_count, cX9_count, 2, (some .int))
theorem y_X9_count : zz_yy mX9_count 1 := ⟨(zz_c1 1 rfl rfl), (zz_c5 92 rfl rfl), by decide, by decide, by decide +kernel⟩
abbrev mX9_countOfCast : zz_Y := (yX9_countOfCast, cX9_countOfCast, 2, (some .int))
theorem y_X9_countOfCast : zz_yy mX9_countOfCast 1 := ⟨(zz_c1 1 rfl rfl), (zz_c5 104 rfl rfl), by decide, by decide, by decide +kernel⟩
abbrev mX9_marksOfAll : zz_Y := (yX9_marksOfAll, cX9_marksOfAll, 3, (some .int))
theorem y_X9_marksOfAll : zz_yy mX9_marksOfAll 0 := ⟨(zz_c1 1 rfl rfl), (zz_c5 96 rfl rfl), by decide, by decide, by decide +kernel⟩
abbrev mX9_slotsHeld : zz_Y := (yX9_slotsHeld, cX9_slotsHeld, 3, (some .int))
theorem y_X9_slotsHeld : zz_yy mX9_slotsHeld 0 := ⟨(zz_c1 1 rfl rfl), (zz_c5 100 rfl rfl), by decide, by decide, by decide +kernel⟩
abbrev mX9_idlePeople : zz_Y := (yX9_idlePeople, cX9_idlePeople, 3, (some .int))
theorem y_X9_idlePeople : zz_yy mX9_idlePeople 0 := ⟨(zz_c1 1 rfl rfl), (zz_c5 108 rfl rfl), by decide, by decide, by decide +kernel⟩
abbrev mX9_hoursApartInCast : zz_Y := (yX9_hoursApartInCast, cX9_hoursApartInCast, 4, (some .int))
theorem y_X9_hoursApartInCast : zz_yy mX9_hoursApartInCast 0 := ⟨(zz_c1 1 rfl rfl), (zz_c5 112 rfl rfl), by decide, by decide, by decide +kernel⟩
abbrev mX10_init : zz_Y := (yX10_init, cX10_init, 1, none)
theorem y_X10_init : zz_yy mX10_init 0 := ⟨(zz_c1 11 rfl rfl), (zz_c5 117 rfl rfl), by decide, by decide, by decide +kernel⟩
abbrev mX10_feed : zz_Y := (yX10_feed, cX10_feed, 6, (some .int))
theorem y_X10_feed : zz_yy mX10_feed 5 := ⟨(zz_c1 11 rfl rfl), (zz_c6 102 rfl rfl), by decide, by decide, by decide +kernel⟩
abbrev mX10_put : zz_Y := (yX10_put, cX10_put, 3, none)
theorem y_X10_put : zz_yy mX10_put 1 := ⟨(zz_c1 11 rfl rfl), (zz_c6 106 rfl rfl), by decide, by decide, by decide +kernel⟩
abbrev mX10_back : zz_Y := (yX10_back, cX10_back, 2, (some .int))
theorem y_X10_back : zz_yy mX10_back 1 := ⟨(zz_c1 11 rfl rfl), (zz_c6 110 rfl rfl), by decide, by decide, by decide +kernel⟩
abbrev mX10_byteAt : zz_Y := (yX10_byteAt, cX10_byteAt, 2, (some .int))
theorem y_X10_byteAt : zz_yy mX10_byteAt 1 := ⟨(zz_c1 11 rfl rfl), (zz_c6 122 rfl rfl), by decide, by decide, by decide +kernel⟩
abbrev mX10_isDigit : zz_Y := (yX10_isDigit, cX10_isDigit, 1, (some .boolean))
theorem y_X10_isDigit : zz_yy mX10_isDigit 1 := ⟨(zz_c1 11 rfl rfl), (zz_c6 132 rfl rfl), by decide, by decide, by decide +kernel⟩
abbrev mX10_isLetter : zz_Y := (yX10_isLetter, cX10_isLetter, 1, (some .boolean))
theorem y_X10_isLetter : zz_yy mX10_isLetter 1 := ⟨(zz_c1 11 rfl rfl), (zz_c6 129 rfl rfl), by decide, by decide, by decide +kernel⟩
abbrev mX10_appends : zz_Y := (yX10_appends, cX10_appends, 3, (some .long))
theorem y_X10_appends : zz_yy mX10_appends 2 := ⟨(zz_c1 11 rfl rfl), (zz_c5 128 rfl rfl), by decide, by decide, by decide +kernel⟩
abbrev mX10_word : zz_Y := (yX10_word, cX10_word, 7, (some .long))
theorem y_X10_word : zz_yy mX10_word 7 := ⟨(zz_c1 11 rfl rfl), (zz_c5 125 rfl rfl), by decide, by decide, by decide +kernel⟩
abbrev mX10_token : zz_Y := (yX10_token, cX10_token, 6, none)
theorem y_X10_token : zz_yy mX10_token 4 := ⟨(zz_c1 11 rfl rfl), (zz_c6 126 rfl rfl), by decide, by decide, by decide +kernel⟩
abbrev mX10_cut : zz_Y := (yX10_cut, cX10_cut, 8, none)
theorem y_X10_cut : zz_yy mX10_cut 0 := ⟨(zz_c1 11 rfl rfl), (zz_c6 118 rfl rfl), by decide, by decide, by decide +kernel⟩
abbrev mX10_sign : zz_Y := (yX10_sign, cX10_sign, 5, (some .int))
theorem y_X10_sign : zz_yy mX10_sign 3 := ⟨(zz_c1 11 rfl rfl), (zz_c6 136 rfl rfl), by decide, by decide, by decide +kernel⟩
abbrev mX10_is : zz_Y := (yX10_is, cX10_is, 2, (some .boolean))
theorem y_X10_is : zz_yy mX10_is 1 := ⟨(zz_c1 11 rfl rfl), (zz_c6 140 rfl rfl), by decide, by decide, by decide +kernel⟩
abbrev mX10_fail : zz_Y := (yX10_fail, cX10_fail, 2, none)
theorem y_X10_fail : zz_yy mX10_fail 1 := ⟨(zz_c1 11 rfl rfl), (zz_c6 152 rfl rfl), by decide, by decide, by decide +kernel⟩
abbrev mX10_wrong : zz_Y := (yX10_wrong, cX10_wrong, 4, none)
theorem y_X10_wrong : zz_yy mX10_wrong 2 := ⟨(zz_c1 11 rfl rfl), (zz_c6 168 rfl rfl), by decide, by decide, by decide +kernel⟩
abbrev mX10_goesOn : zz_Y := (yX10_goesOn, cX10_goesOn, 1, none)
theorem y_X10_goesOn : zz_yy mX10_goesOn 0 := ⟨(zz_c1 11 rfl rfl), (zz_c6 156 rfl rfl), by decide, by decide, by decide +kernel⟩
abbrev mX10_must : zz_Y := (yX10_must, cX10_must, 2, none)
theorem y_X10_must : zz_yy mX10_must 1 := ⟨(zz_c1 11 rfl rfl), (zz_c6 164 rfl rfl), by decide, by decide, by decide +kernel⟩
abbrev mX10_plain : zz_Y := (yX10_plain, cX10_plain, 3, none)
theorem y_X10_plain : zz_yy mX10_plain 1 := ⟨(zz_c1 11 rfl rfl), (zz_c5 122 rfl rfl), by decide, by decide, by decide +kernel⟩
abbrev mX10_read : zz_Y := (yX10_read, cX10_read, 2, (some .int))
theorem y_X10_read : zz_yy mX10_read 0 := ⟨(zz_c1 11 rfl rfl), (zz_c6 114 rfl rfl), by decide, by decide, by decide +kernel⟩
abbrev mX10_place : zz_Y := (yX10_place, cX10_place, 1, (some .int))
theorem y_X10_place : zz_yy mX10_place 0 := ⟨(zz_c1 11 rfl rfl), (zz_c6 208 rfl rfl), by decide, by decide, by decide +kernel⟩
abbrev mX10_roomFor : zz_Y := (yX10_roomFor, cX10_roomFor, 3, none)
theorem y_X10_roomFor : zz_yy mX10_roomFor 2 := ⟨(zz_c1 11 rfl rfl), (zz_c6 148 rfl rfl), by decide, by decide, by decide +kernel⟩
abbrev mX10_toldInt : zz_Y := (yX10_toldInt, cX10_toldInt, 4, (some .int))
theorem y_X10_toldInt : zz_yy mX10_toldInt 2 := ⟨(zz_c1 11 rfl rfl), (zz_c6 180 rfl rfl), by decide, by decide, by decide +kernel⟩
abbrev mX10_tellOne : zz_Y := (yX10_tellOne, cX10_tellOne, 3, none)
theorem y_X10_tellOne : zz_yy mX10_tellOne 0 := ⟨(zz_c1 11 rfl rfl), (zz_c6 144 rfl rfl), by decide, by decide, by decide +kernel⟩
abbrev mX10_named : zz_Y := (yX10_named, cX10_named, 3, (some .int))
theorem y_X10_named : zz_yy mX10_named 0 := ⟨(zz_c1 11 rfl rfl), (zz_c6 160 rfl rfl), by decide, by decide, by decide +kernel⟩
abbrev mX10_endsName : zz_Y := (yX10_endsName, cX10_endsName, 2, none)
theorem y_X10_endsName : zz_yy mX10_endsName 1 := ⟨(zz_c1 11 rfl rfl), (zz_c6 176 rfl rfl), by decide, by decide, by decide +kernel⟩
abbrev mX10_bounded : zz_Y := (yX10_bounded, cX10_bounded, 4, (some .int))
theorem y_X10_bounded : zz_yy mX10_bounded 2 := ⟨(zz_c1 11 rfl rfl), (zz_c6 172 rfl rfl), by decide, by decide, by decide +kernel⟩
abbrev mX10_tellLaw : zz_Y := (yX10_tellLaw, cX10_tellLaw, 4, none)
theorem y_X10_tellLaw : zz_yy mX10_tellLaw 1 := ⟨(zz_c1 11 rfl rfl), (zz_c6 184 rfl rfl), by decide, by decide, by decide +kernel⟩
abbrev mX10_term : zz_Y := (yX10_term, cX10_term, 1, none)
theorem y_X10_term : zz_yy mX10_term 0 := ⟨(zz_c1 11 rfl rfl), (zz_c6 204 rfl rfl), by decide, by decide, by decide +kernel⟩
abbrev mX10_emit : zz_Y := (yX10_emit, cX10_emit, 3, none)
theorem y_X10_emit : zz_yy mX10_emit 2 := ⟨(zz_c1 11 rfl rfl), (zz_c6 196 rfl rfl), by decide, by decide, by decide +kernel⟩
abbrev mX10_comesOut : zz_Y := (yX10_comesOut, cX10_comesOut, 3, none)
theorem y_X10_comesOut : zz_yy mX10_comesOut 1 := ⟨(zz_c1 11 rfl rfl), (zz_c6 200 rfl rfl), by decide, by decide, by decide +kernel⟩
abbrev mX10_expression : zz_Y := (yX10_expression, cX10_expression, 3, none)
theorem y_X10_expression : zz_yy mX10_expression 0 := ⟨(zz_c1 11 rfl rfl), (zz_c6 188 rfl rfl), by decide, by decide, by decide +kernel⟩
abbrev mX10_unit : zz_Y := (yX10_unit, cX10_unit, 1, none)
theorem y_X10_unit : zz_yy mX10_unit 0 := ⟨(zz_c1 11 rfl rfl), (zz_c6 192 rfl rfl), by decide, by decide, by decide +kernel⟩
abbrev mX10_termOf : zz_Y := (yX10_termOf, cX10_termOf, 8, (some .int))
theorem y_X10_termOf : zz_yy mX10_termOf 2 := ⟨(zz_c1 11 rfl rfl), (zz_c7 13 rfl rfl), by decide, by decide, by decide +kernel⟩
abbrev mX10_in : zz_Y := (yX10_in, cX10_in, 3, (some .boolean))
theorem y_X10_in : zz_yy mX10_in 3 := ⟨(zz_c1 11 rfl rfl), (zz_c6 219 rfl rfl), by decide, by decide, by decide +kernel⟩
abbrev mX10_within : zz_Y := (yX10_within, cX10_within, 3, (some .int))
theorem y_X10_within : zz_yy mX10_within 3 := ⟨(zz_c1 11 rfl rfl), (zz_c7 16 rfl rfl), by decide, by decide, by decide +kernel⟩
abbrev mX10_bits : zz_Y := (yX10_bits, cX10_bits, 3, (some .int))
theorem y_X10_bits : zz_yy mX10_bits 1 := ⟨(zz_c1 11 rfl rfl), (zz_c7 191 rfl rfl), by decide, by decide, by decide +kernel⟩
abbrev mX10_off : zz_Y := (yX10_off, cX10_off, 2, (some .int))
theorem y_X10_off : zz_yy mX10_off 2 := ⟨(zz_c1 11 rfl rfl), (zz_c7 5 rfl rfl), by decide, by decide, by decide +kernel⟩
abbrev mX10_roundOff : zz_Y := (yX10_roundOff, cX10_roundOff, 2, (some .int))
theorem y_X10_roundOff : zz_yy mX10_roundOff 2 := ⟨(zz_c1 11 rfl rfl), (zz_c7 2 rfl rfl), by decide, by decide, by decide +kernel⟩
abbrev mX10_isPerson : zz_Y := (yX10_isPerson, cX10_isPerson, 2, (some .boolean))
theorem y_X10_isPerson : zz_yy mX10_isPerson 1 := ⟨(zz_c1 11 rfl rfl), (zz_c6 216 rfl rfl), by decide, by decide, by decide +kernel⟩
abbrev mX10_isPart : zz_Y := (yX10_isPart, cX10_isPart, 2, (some .boolean))
theorem y_X10_isPart : zz_yy mX10_isPart 1 := ⟨(zz_c1 11 rfl rfl), (zz_c7 32 rfl rfl), by decide, by decide, by decide +kernel⟩
abbrev mX10_isHour : zz_Y := (yX10_isHour, cX10_isHour, 1, (some .boolean))
theorem y_X10_isHour : zz_yy mX10_isHour 1 := ⟨(zz_c1 11 rfl rfl), (zz_c7 55 rfl rfl), by decide, by decide, by decide +kernel⟩
abbrev mX10_begins : zz_Y := (yX10_begins, cX10_begins, 2, none)
theorem y_X10_begins : zz_yy mX10_begins 0 := ⟨(zz_c1 11 rfl rfl), (zz_c5 133 rfl rfl), by decide, by decide, by decide +kernel⟩
abbrev mX10_keepsRow : zz_Y := (yX10_keepsRow, cX10_keepsRow, 2, none)
theorem y_X10_keepsRow : zz_yy mX10_keepsRow 0 := ⟨(zz_c1 11 rfl rfl), (zz_c5 137 rfl rfl), by decide, by decide, by decide +kernel⟩
abbrev mX10_copies : zz_Y := (yX10_copies, cX10_copies, 2, none)
theorem y_X10_copies : zz_yy mX10_copies 0 := ⟨(zz_c1 11 rfl rfl), (zz_c6 223 rfl rfl), by decide, by decide, by decide +kernel⟩
abbrev mX10_copiesStill : zz_Y := (yX10_copiesStill, cX10_copiesStill, 1, none)
theorem y_X10_copiesStill : zz_yy mX10_copiesStill 0 := ⟨(zz_c1 11 rfl rfl), (zz_c7 219 rfl rfl), by decide, by decide, by decide +kernel⟩
abbrev mX10_mixed : zz_Y := (yX10_mixed, cX10_mixed, 3, (some .int))
theorem y_X10_mixed : zz_yy mX10_mixed 2 := ⟨(zz_c1 11 rfl rfl), (zz_c7 93 rfl rfl), by decide, by decide, by decide +kernel⟩
abbrev mX10_lotOf : zz_Y := (yX10_lotOf, cX10_lotOf, 2, (some .int))
theorem y_X10_lotOf : zz_yy mX10_lotOf 1 := ⟨(zz_c1 11 rfl rfl), (zz_c7 90 rfl rfl), by decide, by decide, by decide +kernel⟩
abbrev mX10_looks : zz_Y := (yX10_looks, cX10_looks, 5, none)
theorem y_X10_looks : zz_yy mX10_looks 2 := ⟨(zz_c1 11 rfl rfl), (zz_c6 239 rfl rfl), by decide, by decide, by decide +kernel⟩
abbrev mX10_lawTells : zz_Y := (yX10_lawTells, cX10_lawTells, 7, (some .int))
theorem y_X10_lawTells : zz_yy mX10_lawTells 2 := ⟨(zz_c1 11 rfl rfl), (zz_c7 9 rfl rfl), by decide, by decide, by decide +kernel⟩
abbrev mX10_standsOf : zz_Y := (yX10_standsOf, cX10_standsOf, 3, (some .int))
theorem y_X10_standsOf : zz_yy mX10_standsOf 2 := ⟨(zz_c1 11 rfl rfl), (zz_c6 235 rfl rfl), by decide, by decide, by decide +kernel⟩
abbrev mX10_writesOf : zz_Y := (yX10_writesOf, cX10_writesOf, 3, (some .int))
theorem y_X10_writesOf : zz_yy mX10_writesOf 2 := ⟨(zz_c1 11 rfl rfl), (zz_c7 44 rfl rfl), by decide, by decide, by decide +kernel⟩
abbrev mX10_marksOf : zz_Y := (yX10_marksOf, cX10_marksOf, 3, (some .int))
theorem y_X10_marksOf : zz_yy mX10_marksOf 2 := ⟨(zz_c1 11 rfl rfl), (zz_c7 48 rfl rfl), by decide, by decide, by decide +kernel⟩
abbrev mX10_dogsOf : zz_Y := (yX10_dogsOf, cX10_dogsOf, 3, (some .int))
theorem y_X10_dogsOf : zz_yy mX10_dogsOf 2 := ⟨(zz_c1 11 rfl rfl), (zz_c7 36 rfl rfl), by decide, by decide, by decide +kernel⟩
abbrev mX10_isOff : zz_Y := (yX10_isOff, cX10_isOff, 2, (some .boolean))
theorem y_X10_isOff : zz_yy mX10_isOff 1 := ⟨(zz_c1 11 rfl rfl), (zz_c6 231 rfl rfl), by decide, by decide, by decide +kernel⟩
abbrev mX10_casts : zz_Y := (yX10_casts, cX10_casts, 5, none)
theorem y_X10_casts : zz_yy mX10_casts 0 := ⟨(zz_c1 11 rfl rfl), (zz_c6 227 rfl rfl), by decide, by decide, by decide +kernel⟩
abbrev mX10_emptyBits : zz_Y := (yX10_emptyBits, cX10_emptyBits, 3, (some .int))
theorem y_X10_emptyBits : zz_yy mX10_emptyBits 0 := ⟨(zz_c1 11 rfl rfl), (zz_c7 110 rfl rfl), by decide, by decide, by decide +kernel⟩
abbrev mX10_standsAll : zz_Y := (yX10_standsAll, cX10_standsAll, 3, (some .int))
theorem y_X10_standsAll : zz_yy mX10_standsAll 0 := ⟨(zz_c1 11 rfl rfl), (zz_c7 179 rfl rfl), by decide, by decide, by decide +kernel⟩
abbrev mX10_castFor : zz_Y := (yX10_castFor, cX10_castFor, 3, (some .int))
theorem y_X10_castFor : zz_yy mX10_castFor 1 := ⟨(zz_c1 11 rfl rfl), (zz_c7 20 rfl rfl), by decide, by decide, by decide +kernel⟩
abbrev mX10_towards : zz_Y := (yX10_towards, cX10_towards, 2, (some .int))
theorem y_X10_towards : zz_yy mX10_towards 2 := ⟨(zz_c1 11 rfl rfl), (zz_c7 98 rfl rfl), by decide, by decide, by decide +kernel⟩
abbrev mX10_dayGoes : zz_Y := (yX10_dayGoes, cX10_dayGoes, 3, none)
theorem y_X10_dayGoes : zz_yy mX10_dayGoes 0 := ⟨(zz_c1 11 rfl rfl), (zz_c7 86 rfl rfl), by decide, by decide, by decide +kernel⟩
abbrev mX10_goes : zz_Y := (yX10_goes, cX10_goes, 3, none)
theorem y_X10_goes : zz_yy mX10_goes 1 := ⟨(zz_c1 11 rfl rfl), (zz_c7 82 rfl rfl), by decide, by decide, by decide +kernel⟩
abbrev mX10_seenAny : zz_Y := (yX10_seenAny, cX10_seenAny, 4, (some .int))
theorem y_X10_seenAny : zz_yy mX10_seenAny 1 := ⟨(zz_c1 11 rfl rfl), (zz_c7 24 rfl rfl), by decide, by decide, by decide +kernel⟩
abbrev mX10_person : zz_Y := (yX10_person, cX10_person, 3, (some .int))
theorem y_X10_person : zz_yy mX10_person 2 := ⟨(zz_c1 11 rfl rfl), (zz_c6 212 rfl rfl), by decide, by decide, by decide +kernel⟩
abbrev mX10_part : zz_Y := (yX10_part, cX10_part, 3, (some .int))
theorem y_X10_part : zz_yy mX10_part 2 := ⟨(zz_c1 11 rfl rfl), (zz_c7 28 rfl rfl), by decide, by decide, by decide +kernel⟩
abbrev mX10_tells : zz_Y := (yX10_tells, cX10_tells, 4, (some .int))
theorem y_X10_tells : zz_yy mX10_tells 3 := ⟨(zz_c1 11 rfl rfl), (zz_c7 40 rfl rfl), by decide, by decide, by decide +kernel⟩
abbrev mX10_records : zz_Y := (yX10_records, cX10_records, 2, none)
theorem y_X10_records : zz_yy mX10_records 0 := ⟨(zz_c1 11 rfl rfl), (zz_c7 63 rfl rfl), by decide, by decide, by decide +kernel⟩
abbrev mX10_does : zz_Y := (yX10_does, cX10_does, 3, none)
theorem y_X10_does : zz_yy mX10_does 2 := ⟨(zz_c1 11 rfl rfl), (zz_c7 59 rfl rfl), by decide, by decide, by decide +kernel⟩
abbrev mX10_move : zz_Y := (yX10_move, cX10_move, 3, (some .boolean))
theorem y_X10_move : zz_yy mX10_move 2 := ⟨(zz_c1 11 rfl rfl), (zz_c7 52 rfl rfl), by decide, by decide, by decide +kernel⟩
abbrev mX10_write : zz_Y := (yX10_write, cX10_write, 3, (some .boolean))
theorem y_X10_write : zz_yy mX10_write 2 := ⟨(zz_c1 11 rfl rfl), (zz_c7 67 rfl rfl), by decide, by decide, by decide +kernel⟩
abbrev mX10_keepOff : zz_Y := (yX10_keepOff, cX10_keepOff, 3, (some .boolean))
theorem y_X10_keepOff : zz_yy mX10_keepOff 2 := ⟨(zz_c1 11 rfl rfl), (zz_c7 71 rfl rfl), by decide, by decide, by decide +kernel⟩
abbrev mX10_isLong : zz_Y := (yX10_isLong, cX10_isLong, 1, (some .boolean))
theorem y_X10_isLong : zz_yy mX10_isLong 1 := ⟨(zz_c1 11 rfl rfl), (zz_c7 78 rfl rfl), by decide, by decide, by decide +kernel⟩
abbrev mX10_isSome : zz_Y := (yX10_isSome, cX10_isSome, 1, (some .boolean))
theorem y_X10_isSome : zz_yy mX10_isSome 1 := ⟨(zz_c1 11 rfl rfl), (zz_c7 230 rfl rfl), by decide, by decide, by decide +kernel⟩
abbrev mX10_days : zz_Y := (yX10_days, cX10_days, 2, (some .int))
theorem y_X10_days : zz_yy mX10_days 1 := ⟨(zz_c1 11 rfl rfl), (zz_c7 75 rfl rfl), by decide, by decide, by decide +kernel⟩
abbrev mX10_undo : zz_Y := (yX10_undo, cX10_undo, 2, (some .boolean))
theorem y_X10_undo : zz_yy mX10_undo 0 := ⟨(zz_c1 11 rfl rfl), (zz_c7 102 rfl rfl), by decide, by decide, by decide +kernel⟩
abbrev mX10_empty : zz_Y := (yX10_empty, cX10_empty, 1, (some .int))
theorem y_X10_empty : zz_yy mX10_empty 0 := ⟨(zz_c1 11 rfl rfl), (zz_c7 106 rfl rfl), by decide, by decide, by decide +kernel⟩
abbrev mX10_fillsStands : zz_Y := (yX10_fillsStands, cX10_fillsStands, 5, none)
theorem y_X10_fillsStands : zz_yy mX10_fillsStands 1 := ⟨(zz_c1 11 rfl rfl), (zz_c7 122 rfl rfl), by decide, by decide, by decide +kernel⟩
abbrev mX10_isFree : zz_Y := (yX10_isFree, cX10_isFree, 4, (some .boolean))
theorem y_X10_isFree : zz_yy mX10_isFree 3 := ⟨(zz_c1 11 rfl rfl), (zz_c7 130 rfl rfl), by decide, by decide, by decide +kernel⟩
abbrev mX10_with : zz_Y := (yX10_with, cX10_with, 4, (some .int))
theorem y_X10_with : zz_yy mX10_with 3 := ⟨(zz_c1 11 rfl rfl), (zz_c7 134 rfl rfl), by decide, by decide, by decide +kernel⟩
abbrev mX10_ends : zz_Y := (yX10_ends, cX10_ends, 3, none)
theorem y_X10_ends : zz_yy mX10_ends 1 := ⟨(zz_c1 11 rfl rfl), (zz_c7 126 rfl rfl), by decide, by decide, by decide +kernel⟩
abbrev mX10_fillsGiven : zz_Y := (yX10_fillsGiven, cX10_fillsGiven, 6, none)
theorem y_X10_fillsGiven : zz_yy mX10_fillsGiven 0 := ⟨(zz_c1 11 rfl rfl), (zz_c7 118 rfl rfl), by decide, by decide, by decide +kernel⟩
abbrev mX10_lowestFor : zz_Y := (yX10_lowestFor, cX10_lowestFor, 4, (some .int))
theorem y_X10_lowestFor : zz_yy mX10_lowestFor 2 := ⟨(zz_c1 11 rfl rfl), (zz_c7 138 rfl rfl), by decide, by decide, by decide +kernel⟩
abbrev mX10_given : zz_Y := (yX10_given, cX10_given, 5, (some .int))
theorem y_X10_given : zz_yy mX10_given 1 := ⟨(zz_c1 11 rfl rfl), (zz_c7 114 rfl rfl), by decide, by decide, by decide +kernel⟩
abbrev mX10_costsOf : zz_Y := (yX10_costsOf, cX10_costsOf, 6, (some .int))
theorem y_X10_costsOf : zz_yy mX10_costsOf 2 := ⟨(zz_c1 11 rfl rfl), (zz_c7 146 rfl rfl), by decide, by decide, by decide +kernel⟩
abbrev mX10_costs : zz_Y := (yX10_costs, cX10_costs, 4, (some .int))
theorem y_X10_costs : zz_yy mX10_costs 2 := ⟨(zz_c1 11 rfl rfl), (zz_c7 142 rfl rfl), by decide, by decide, by decide +kernel⟩
abbrev mX10_whole : zz_Y := (yX10_whole, cX10_whole, 5, (some .int))
theorem y_X10_whole : zz_yy mX10_whole 0 := ⟨(zz_c1 11 rfl rfl), (zz_c7 151 rfl rfl), by decide, by decide, by decide +kernel⟩
abbrev mX10_ways : zz_Y := (yX10_ways, cX10_ways, 5, (some .int))
theorem y_X10_ways : zz_yy mX10_ways 0 := ⟨(zz_c1 11 rfl rfl), (zz_c7 155 rfl rfl), by decide, by decide, by decide +kernel⟩
abbrev mX10_fairest : zz_Y := (yX10_fairest, cX10_fairest, 6, (some .int))
theorem y_X10_fairest : zz_yy mX10_fairest 0 := ⟨(zz_c1 11 rfl rfl), (zz_c7 159 rfl rfl), by decide, by decide, by decide +kernel⟩
abbrev mX10_wouldRather : zz_Y := (yX10_wouldRather, cX10_wouldRather, 6, (some .boolean))
theorem y_X10_wouldRather : zz_yy mX10_wouldRather 2 := ⟨(zz_c1 11 rfl rfl), (zz_c7 167 rfl rfl), by decide, by decide, by decide +kernel⟩
abbrev mX10_rather : zz_Y := (yX10_rather, cX10_rather, 6, (some .int))
theorem y_X10_rather : zz_yy mX10_rather 1 := ⟨(zz_c1 11 rfl rfl), (zz_c7 163 rfl rfl), by decide, by decide, by decide +kernel⟩
abbrev mX10_sumCast : zz_Y := (yX10_sumCast, cX10_sumCast, 1, (some .int))
theorem y_X10_sumCast : zz_yy mX10_sumCast 0 := ⟨(zz_c1 11 rfl rfl), (zz_c7 175 rfl rfl), by decide, by decide, by decide +kernel⟩
abbrev mX10_bestHour : zz_Y := (yX10_bestHour, cX10_bestHour, 7, (some .int))
theorem y_X10_bestHour : zz_yy mX10_bestHour 2 := ⟨(zz_c1 11 rfl rfl), (zz_c7 171 rfl rfl), by decide, by decide, by decide +kernel⟩
abbrev mX10_trade : zz_Y := (yX10_trade, cX10_trade, 4, (some .int))
theorem y_X10_trade : zz_yy mX10_trade 2 := ⟨(zz_c1 11 rfl rfl), (zz_c7 183 rfl rfl), by decide, by decide, by decide +kernel⟩
abbrev mX10_key : zz_Y := (yX10_key, cX10_key, 4, (some .int))
theorem y_X10_key : zz_yy mX10_key 0 := ⟨(zz_c1 11 rfl rfl), (zz_c7 188 rfl rfl), by decide, by decide, by decide +kernel⟩
abbrev mX10_missed : zz_Y := (yX10_missed, cX10_missed, 6, (some .int))
theorem y_X10_missed : zz_yy mX10_missed 1 := ⟨(zz_c1 11 rfl rfl), (zz_c7 195 rfl rfl), by decide, by decide, by decide +kernel⟩
abbrev mX10_crowd : zz_Y := (yX10_crowd, cX10_crowd, 7, (some .int))
theorem y_X10_crowd : zz_yy mX10_crowd 1 := ⟨(zz_c1 11 rfl rfl), (zz_c7 199 rfl rfl), by decide, by decide, by decide +kernel⟩
abbrev mX10_seenAs : zz_Y := (yX10_seenAs, cX10_seenAs, 3, (some .int))
theorem y_X10_seenAs : zz_yy mX10_seenAs 2 := ⟨(zz_c1 11 rfl rfl), (zz_c7 207 rfl rfl), by decide, by decide, by decide +kernel⟩
abbrev mX10_habit : zz_Y := (yX10_habit, cX10_habit, 5, (some .int))
theorem y_X10_habit : zz_yy mX10_habit 2 := ⟨(zz_c1 11 rfl rfl), (zz_c7 203 rfl rfl), by decide, by decide, by decide +kernel⟩
abbrev mX10_regular : zz_Y := (yX10_regular, cX10_regular, 5, (some .int))
theorem y_X10_regular : zz_yy mX10_regular 2 := ⟨(zz_c1 11 rfl rfl), (zz_c7 211 rfl rfl), by decide, by decide, by decide +kernel⟩
abbrev mX10_isChanged : zz_Y := (yX10_isChanged, cX10_isChanged, 2, (some .boolean))
theorem y_X10_isChanged : zz_yy mX10_isChanged 0 := ⟨(zz_c1 11 rfl rfl), (zz_c7 223 rfl rfl), by decide, by decide, by decide +kernel⟩
abbrev mX10_settles : zz_Y := (yX10_settles, cX10_settles, 2, (some .int))
theorem y_X10_settles : zz_yy mX10_settles 0 := ⟨(zz_c1 11 rfl rfl), (zz_c7 215 rfl rfl), by decide, by decide, by decide +kernel⟩
abbrev mX10_drift : zz_Y := (yX10_drift, cX10_drift, 3, (some .int))
theorem y_X10_drift : zz_yy mX10_drift 2 := ⟨(zz_c1 11 rfl rfl), (zz_c7 227 rfl rfl), by decide, by decide, by decide +kernel⟩
abbrev mX10_pairAlike : zz_Y := (yX10_pairAlike, cX10_pairAlike, 3, (some .int))
theorem y_X10_pairAlike : zz_yy mX10_pairAlike 0 := ⟨(zz_c1 11 rfl rfl), (zz_c7 238 rfl rfl), by decide, by decide, by decide +kernel⟩
abbrev mX10_meet : zz_Y := (yX10_meet, cX10_meet, 3, (some .int))
theorem y_X10_meet : zz_yy mX10_meet 1 := ⟨(zz_c1 11 rfl rfl), (zz_c7 234 rfl rfl), by decide, by decide, by decide +kernel⟩
abbrev mX10_away : zz_Y := (yX10_away, cX10_away, 3, (some .int))
theorem y_X10_away : zz_yy mX10_away 0 := ⟨(zz_c1 11 rfl rfl), (zz_c8 2 rfl rfl), by decide, by decide, by decide +kernel⟩
abbrev mX10_then : zz_Y := (yX10_then, cX10_then, 4, (some .int))
theorem y_X10_then : zz_yy mX10_then 3 := ⟨(zz_c1 11 rfl rfl), (zz_c8 6 rfl rfl), by decide, by decide, by decide +kernel⟩
abbrev mX10_marksIn : zz_Y := (yX10_marksIn, cX10_marksIn, 3, (some .int))
theorem y_X10_marksIn : zz_yy mX10_marksIn 2 := ⟨(zz_c1 11 rfl rfl), (zz_c8 10 rfl rfl), by decide, by decide, by decide +kernel⟩
abbrev mX10_star : zz_Y := (yX10_star, cX10_star, 6, (some .int))
theorem y_X10_star : zz_yy mX10_star 2 := ⟨(zz_c1 11 rfl rfl), (zz_c8 14 rfl rfl), by decide, by decide, by decide +kernel⟩
abbrev mX10_year : zz_Y := (yX10_year, cX10_year, 5, (some .int))
theorem y_X10_year : zz_yy mX10_year 2 := ⟨(zz_c1 11 rfl rfl), (zz_c8 18 rfl rfl), by decide, by decide, by decide +kernel⟩
abbrev mX10_tell : zz_Y := (yX10_tell, cX10_tell, 4, (some .int))
theorem y_X10_tell : zz_yy mX10_tell 3 := ⟨(zz_c1 11 rfl rfl), (zz_c8 22 rfl rfl), by decide, by decide, by decide +kernel⟩
abbrev mX10_forget : zz_Y := (yX10_forget, cX10_forget, 2, (some .int))
theorem y_X10_forget : zz_yy mX10_forget 0 := ⟨(zz_c1 11 rfl rfl), (zz_c8 26 rfl rfl), by decide, by decide, by decide +kernel⟩
abbrev mX10_whoBits : zz_Y := (yX10_whoBits, cX10_whoBits, 6, (some .int))
theorem y_X10_whoBits : zz_yy mX10_whoBits 1 := ⟨(zz_c1 11 rfl rfl), (zz_c8 34 rfl rfl), by decide, by decide, by decide +kernel⟩
abbrev mX10_who : zz_Y := (yX10_who, cX10_who, 4, (some .int))
theorem y_X10_who : zz_yy mX10_who 2 := ⟨(zz_c1 11 rfl rfl), (zz_c8 30 rfl rfl), by decide, by decide, by decide +kernel⟩
abbrev mX10_ask : zz_Y := (yX10_ask, cX10_ask, 9, (some .int))
theorem y_X10_ask : zz_yy mX10_ask 2 := ⟨(zz_c1 11 rfl rfl), (zz_c8 38 rfl rfl), by decide, by decide, by decide +kernel⟩
abbrev mX10_hold : zz_Y := (yX10_hold, cX10_hold, 3, (some .boolean))
theorem y_X10_hold : zz_yy mX10_hold 1 := ⟨(zz_c1 11 rfl rfl), (zz_c8 42 rfl rfl), by decide, by decide, by decide +kernel⟩
abbrev mX10_restore : zz_Y := (yX10_restore, cX10_restore, 3, (some .boolean))
theorem y_X10_restore : zz_yy mX10_restore 1 := ⟨(zz_c1 11 rfl rfl), (zz_c8 46 rfl rfl), by decide, by decide, by decide +kernel⟩
abbrev mX10_apartAll : zz_Y := (yX10_apartAll, cX10_apartAll, 3, (some .int))
theorem y_X10_apartAll : zz_yy mX10_apartAll 0 := ⟨(zz_c1 11 rfl rfl), (zz_c8 54 rfl rfl), by decide, by decide, by decide +kernel⟩
abbrev mX10_count : zz_Y := (yX10_count, cX10_count, 4, (some .int))
theorem y_X10_count : zz_yy mX10_count 1 := ⟨(zz_c1 11 rfl rfl), (zz_c8 50 rfl rfl), by decide, by decide, by decide +kernel⟩
abbrev mJ6_bitCount_0f7a4 : zz_Y := (yJ6_bitCount_0f7a4, cJ6_bitCount_0f7a4, 1, (some .int))
theorem y_J6_bitCount_0f7a4 : zz_yy mJ6_bitCount_0f7a4 1 := ⟨(zz_c1 19 rfl rfl), (zz_c4 167 rfl rfl), by decide, by decide, by decide +kernel⟩
theorem lX9_19 : zz_LI RX9 19 mX4_init 0 := ⟨Or.inr ⟨"UnderstudyShow", zz_n 30 (by decide +kernel) (by decide +kernel)⟩, (zz_c1 31 rfl rfl), rfl, y_X4_init⟩
theorem lX9_29 : zz_LI RX9 29 mX5_init 0 := ⟨Or.inl (zz_c1 88 rfl rfl), (zz_c1 89 rfl rfl), rfl, y_X5_init⟩
theorem lX9_39 : zz_LI RX9 39 mX6_init 0 := ⟨Or.inr ⟨"UnderstudyShow", zz_n 204 (by decide +kernel) (by decide +kernel)⟩, (zz_c1 205 rfl rfl), rfl, y_X6_init⟩
theorem lX9_49 : zz_LI RX9 49 mX0_init 0 := ⟨Or.inr ⟨"UnderstudyShow", zz_n 244 (by decide +kernel) (by decide +kernel)⟩, (zz_c2 5 rfl rfl), rfl, y_X0_init⟩
theorem lX9_56 : zz_LI RX9 56 mX1_init 0 := ⟨Or.inr ⟨"UnderstudyShow", zz_n 267 (by decide +kernel) (by decide +kernel)⟩, (zz_c2 28 rfl rfl), rfl, y_X1_init⟩
theorem lX9_63 : zz_LI RX9 63 mX3_init 0 := ⟨Or.inl (zz_c2 49 rfl rfl), (zz_c2 50 rfl rfl), rfl, y_X3_init⟩
theorem lX9_70 : zz_LI RX9 70 mX8_init 0 := ⟨Or.inr ⟨"UnderstudyShow", zz_n 309 (by decide +kernel) (by decide +kernel)⟩, (zz_c2 70 rfl rfl), rfl, y_X8_init⟩
theorem lX9_177 : zz_LS RX9 177 mX9_hoursApart 2 := ⟨Or.inl (zz_c3 237 rfl rfl), (zz_c3 183 rfl rfl), y_X9_hoursApart⟩
theorem lX9_180 : zz_LS RX9 180 mX9_isHour 1 := ⟨Or.inl (zz_c4 2 rfl rfl), (zz_c4 3 rfl rfl), y_X9_isHour⟩
theorem lX9_210 : zz_LS RX9 210 mX9_isOneOfTwo 1 := ⟨Or.inl (zz_c4 88 rfl rfl), (zz_c4 89 rfl rfl), y_X9_isOneOfTwo⟩
theorem lX9_285 : zz_LS RX9 285 mJ6_bitCount_0f7a4 1 := ⟨Or.inl (zz_c5 68 rfl rfl), (zz_c4 166 rfl rfl), y_J6_bitCount_0f7a4⟩
theorem lX9_297 : zz_LS RX9 297 mX9_isSlot 1 := ⟨Or.inl (zz_c5 82 rfl rfl), (zz_c5 83 rfl rfl), y_X9_isSlot⟩
theorem lX9_83 : zz_LV RX9 83 mX9_putFourBytes 1 := ⟨Or.inl (zz_c2 135 rfl rfl), (zz_c2 137 rfl rfl), (zz_s 0 (by decide +kernel) (by decide +kernel)), y_X9_putFourBytes⟩
theorem lX9_87 : zz_LV RX9 87 mX4_readText 3 := ⟨Or.inl (zz_c2 147 rfl rfl), (zz_c2 148 rfl rfl), (zz_c2 149 rfl rfl), y_X4_readText⟩
theorem lX9_94 : zz_LV RX9 94 mX9_playDraft 0 := ⟨Or.inl (zz_c3 134 rfl rfl), (zz_c3 136 rfl rfl), (zz_s 18 (by decide +kernel) (by decide +kernel)), y_X9_playDraft⟩
theorem lX9_97 : zz_LV RX9 97 mX6_begin 1 := ⟨Or.inl (zz_c3 138 rfl rfl), (zz_c3 139 rfl rfl), (zz_c3 140 rfl rfl), y_X6_begin⟩
theorem lX9_101 : zz_LV RX9 101 mX3_clear 0 := ⟨Or.inl (zz_c3 145 rfl rfl), (zz_c3 146 rfl rfl), (zz_c3 147 rfl rfl), y_X3_clear⟩
theorem lX9_104 : zz_LV RX9 104 mX8_clear 0 := ⟨Or.inl (zz_c3 149 rfl rfl), (zz_c3 150 rfl rfl), (zz_c3 151 rfl rfl), y_X8_clear⟩
theorem lX9_121 : zz_LV RX9 121 mX9_isPerson 1 := ⟨Or.inl (zz_c3 161 rfl rfl), (zz_c3 163 rfl rfl), (zz_s 19 (by decide +kernel) (by decide +kernel)), y_X9_isPerson⟩
theorem lX9_138 : zz_LV RX9 138 mX6_isOff 1 := ⟨Or.inl (zz_c3 165 rfl rfl), (zz_c3 166 rfl rfl), (zz_c3 167 rfl rfl), y_X6_isOff⟩
theorem lX9_141 : zz_LV RX9 141 mX0_fill 2 := ⟨Or.inl (zz_c3 169 rfl rfl), (zz_c3 170 rfl rfl), (zz_c3 171 rfl rfl), y_X0_fill⟩
theorem lX9_148 : zz_LV RX9 148 mX9_seenAsAny 1 := ⟨Or.inl (zz_c3 215 rfl rfl), (zz_c3 217 rfl rfl), (zz_s 22 (by decide +kernel) (by decide +kernel)), y_X9_seenAsAny⟩
theorem lX9_151 : zz_LV RX9 151 mX6_seenAs 2 := ⟨Or.inl (zz_c3 219 rfl rfl), (zz_c3 191 rfl rfl), (zz_c3 192 rfl rfl), y_X6_seenAs⟩
theorem lX9_154 : zz_LV RX9 154 mX9_isPart 1 := ⟨Or.inl (zz_c3 224 rfl rfl), (zz_c3 226 rfl rfl), (zz_s 23 (by decide +kernel) (by decide +kernel)), y_X9_isPart⟩
theorem lX9_170 : zz_LV RX9 170 mX9_dogsOfPart 1 := ⟨Or.inl (zz_c3 228 rfl rfl), (zz_c3 230 rfl rfl), (zz_s 24 (by decide +kernel) (by decide +kernel)), y_X9_dogsOfPart⟩
theorem lX9_173 : zz_LV RX9 173 mX5_measure 4 := ⟨Or.inl (zz_c3 232 rfl rfl), (zz_c3 179 rfl rfl), (zz_c3 180 rfl rfl), y_X5_measure⟩
theorem lX9_183 : zz_LV RX9 183 mX3_remember 1 := ⟨Or.inl (zz_c4 5 rfl rfl), (zz_c4 6 rfl rfl), (zz_c4 7 rfl rfl), y_X3_remember⟩
theorem lX9_193 : zz_LV RX9 193 mX0_passDays 5 := ⟨Or.inl (zz_c4 26 rfl rfl), (zz_c4 27 rfl rfl), (zz_c4 28 rfl rfl), y_X0_passDays⟩
theorem lX9_200 : zz_LV RX9 200 mX3_takeBack 1 := ⟨Or.inl (zz_c4 72 rfl rfl), (zz_c4 73 rfl rfl), (zz_c4 74 rfl rfl), y_X3_takeBack⟩
theorem lX9_204 : zz_LV RX9 204 mX0_emptyParts 1 := ⟨Or.inl (zz_c4 80 rfl rfl), (zz_c4 81 rfl rfl), (zz_c4 82 rfl rfl), y_X0_emptyParts⟩
theorem lX9_213 : zz_LV RX9 213 mX9_wouldRather 2 := ⟨Or.inl (zz_c4 91 rfl rfl), (zz_c4 93 rfl rfl), (zz_s 28 (by decide +kernel) (by decide +kernel)), y_X9_wouldRather⟩
theorem lX9_217 : zz_LV RX9 217 mX9_standsIfAny 2 := ⟨Or.inl (zz_c4 95 rfl rfl), (zz_c4 97 rfl rfl), (zz_s 29 (by decide +kernel) (by decide +kernel)), y_X9_standsIfAny⟩
theorem lX9_223 : zz_LV RX9 223 mX1_tellWhoCan 2 := ⟨Or.inl (zz_c4 103 rfl rfl), (zz_c4 104 rfl rfl), (zz_c4 105 rfl rfl), y_X1_tellWhoCan⟩
theorem lX9_226 : zz_LV RX9 226 mX1_most 0 := ⟨Or.inl (zz_c4 121 rfl rfl), (zz_c4 122 rfl rfl), (zz_c4 123 rfl rfl), y_X1_most⟩
theorem lX9_230 : zz_LV RX9 230 mX1_toWhom 1 := ⟨Or.inl (zz_c4 138 rfl rfl), (zz_c4 139 rfl rfl), (zz_c4 140 rfl rfl), y_X1_toWhom⟩
theorem lX9_233 : zz_LV RX9 233 mX1_begin 1 := ⟨Or.inl (zz_c4 150 rfl rfl), (zz_c4 112 rfl rfl), (zz_c4 113 rfl rfl), y_X1_begin⟩
theorem lX9_234 : zz_LV RX9 234 mX9_hoursToMove 2 := ⟨Or.inl (zz_c4 151 rfl rfl), (zz_c4 153 rfl rfl), (zz_s 35 (by decide +kernel) (by decide +kernel)), y_X9_hoursToMove⟩
theorem lX9_237 : zz_LV RX9 237 mX1_put 3 := ⟨Or.inl (zz_c4 156 rfl rfl), (zz_c4 118 rfl rfl), (zz_c4 119 rfl rfl), y_X1_put⟩
theorem lX9_241 : zz_LV RX9 241 mX1_fewest 0 := ⟨Or.inl (zz_c4 157 rfl rfl), (zz_c4 158 rfl rfl), (zz_c4 159 rfl rfl), y_X1_fewest⟩
theorem lX9_244 : zz_LV RX9 244 mX6_copyFrom 1 := ⟨Or.inl (zz_c4 155 rfl rfl), (zz_c4 10 rfl rfl), (zz_c4 11 rfl rfl), y_X6_copyFrom⟩
theorem lX9_247 : zz_LV RX9 247 mX1_howMany 0 := ⟨Or.inl (zz_c4 190 rfl rfl), (zz_c4 191 rfl rfl), (zz_c4 192 rfl rfl), y_X1_howMany⟩
theorem lX9_250 : zz_LV RX9 250 mX1_tellAllWhoAreThere 2 := ⟨Or.inl (zz_c4 198 rfl rfl), (zz_c4 199 rfl rfl), (zz_c4 200 rfl rfl), y_X1_tellAllWhoAreThere⟩
theorem lX9_253 : zz_LV RX9 253 mX1_greatestLeast 0 := ⟨Or.inl (zz_c4 202 rfl rfl), (zz_c4 203 rfl rfl), (zz_c4 204 rfl rfl), y_X1_greatestLeast⟩
theorem lX9_256 : zz_LV RX9 256 mX9_standsOf 1 := ⟨Or.inl (zz_c4 210 rfl rfl), (zz_c4 212 rfl rfl), (zz_s 38 (by decide +kernel) (by decide +kernel)), y_X9_standsOf⟩
theorem lX9_264 : zz_LV RX9 264 mX9_castWithout 1 := ⟨Or.inl (zz_c4 223 rfl rfl), (zz_c4 225 rfl rfl), (zz_s 39 (by decide +kernel) (by decide +kernel)), y_X9_castWithout⟩
theorem lX9_268 : zz_LV RX9 268 mX9_howManyAt 1 := ⟨Or.inl (zz_c4 235 rfl rfl), (zz_c4 237 rfl rfl), (zz_s 40 (by decide +kernel) (by decide +kernel)), y_X9_howManyAt⟩
theorem lX9_271 : zz_LV RX9 271 mX9_firstTwoAtOneHour 1 := ⟨Or.inl (zz_c5 19 rfl rfl), (zz_c5 21 rfl rfl), (zz_s 41 (by decide +kernel) (by decide +kernel)), y_X9_firstTwoAtOneHour⟩
theorem lX9_274 : zz_LV RX9 274 mX8_add 3 := ⟨Or.inl (zz_c5 47 rfl rfl), (zz_c5 48 rfl rfl), (zz_c5 49 rfl rfl), y_X8_add⟩
theorem lX9_281 : zz_LV RX9 281 mX8_whoIsLeft 3 := ⟨Or.inl (zz_c5 59 rfl rfl), (zz_c5 60 rfl rfl), (zz_c5 61 rfl rfl), y_X8_whoIsLeft⟩
theorem lX9_290 : zz_LV RX9 290 mX9_leftAtWorst 3 := ⟨Or.inl (zz_c5 73 rfl rfl), (zz_c5 75 rfl rfl), (zz_s 43 (by decide +kernel) (by decide +kernel)), y_X9_leftAtWorst⟩
theorem lX9_300 : zz_LV RX9 300 mX9_marksOfAll 0 := ⟨Or.inl (zz_c5 93 rfl rfl), (zz_c5 95 rfl rfl), (zz_s 44 (by decide +kernel) (by decide +kernel)), y_X9_marksOfAll⟩
theorem lX9_307 : zz_LV RX9 307 mX9_slotsHeld 0 := ⟨Or.inl (zz_c5 97 rfl rfl), (zz_c5 99 rfl rfl), (zz_s 45 (by decide +kernel) (by decide +kernel)), y_X9_slotsHeld⟩
theorem lX9_310 : zz_LV RX9 310 mX9_countOfCast 1 := ⟨Or.inl (zz_c5 101 rfl rfl), (zz_c5 103 rfl rfl), (zz_s 46 (by decide +kernel) (by decide +kernel)), y_X9_countOfCast⟩
theorem lX9_313 : zz_LV RX9 313 mX9_idlePeople 0 := ⟨Or.inl (zz_c5 105 rfl rfl), (zz_c5 107 rfl rfl), (zz_s 47 (by decide +kernel) (by decide +kernel)), y_X9_idlePeople⟩
theorem lX9_316 : zz_LV RX9 316 mX9_hoursApartInCast 0 := ⟨Or.inl (zz_c5 109 rfl rfl), (zz_c5 111 rfl rfl), (zz_s 48 (by decide +kernel) (by decide +kernel)), y_X9_hoursApartInCast⟩
theorem lX0_80 : zz_LS RX0 80 mX9_laterHour 1 := ⟨Or.inr ⟨"UnderstudyShow", zz_n 787 (by decide +kernel) (by decide +kernel)⟩, (zz_c4 62 rfl rfl), y_X9_laterHour⟩
theorem lX0_87 : zz_LS RX0 87 mX0_lot 2 := ⟨Or.inl (zz_c4 39 rfl rfl), (zz_c4 40 rfl rfl), y_X0_lot⟩
theorem lX0_91 : zz_LS RX0 91 mX0_stirred 2 := ⟨Or.inl (zz_c4 42 rfl rfl), (zz_c4 43 rfl rfl), y_X0_stirred⟩
theorem lX0_30 : zz_LV RX0 30 mX0_fillPart 3 := ⟨Or.inl (zz_c3 173 rfl rfl), (zz_c3 175 rfl rfl), (zz_s 20 (by decide +kernel) (by decide +kernel)), y_X0_fillPart⟩
theorem lX0_37 : zz_LV RX0 37 mX6_isOff 1 := ⟨Or.inl (zz_c3 177 rfl rfl), (zz_c3 166 rfl rfl), (zz_c3 167 rfl rfl), y_X6_isOff⟩
theorem lX0_43 : zz_LV RX0 43 mX5_measure 4 := ⟨Or.inl (zz_c3 178 rfl rfl), (zz_c3 179 rfl rfl), (zz_c3 180 rfl rfl), y_X5_measure⟩
theorem lX0_50 : zz_LV RX0 50 mX0_fill 2 := ⟨Or.inl (zz_c4 30 rfl rfl), (zz_c3 170 rfl rfl), (zz_c3 171 rfl rfl), y_X0_fill⟩
theorem lX0_54 : zz_LV RX0 54 mX0_playParts 4 := ⟨Or.inl (zz_c4 31 rfl rfl), (zz_c4 33 rfl rfl), (zz_s 25 (by decide +kernel) (by decide +kernel)), y_X0_playParts⟩
theorem lX0_64 : zz_LV RX0 64 mX0_isDogOut 4 := ⟨Or.inl (zz_c4 35 rfl rfl), (zz_c4 37 rfl rfl), (zz_s 26 (by decide +kernel) (by decide +kernel)), y_X0_isDogOut⟩
theorem lX0_68 : zz_LV RX0 68 mX0_playPart 4 := ⟨Or.inl (zz_c4 46 rfl rfl), (zz_c4 48 rfl rfl), (zz_s 27 (by decide +kernel) (by decide +kernel)), y_X0_playPart⟩
theorem lX0_72 : zz_LV RX0 72 mX6_seeAndMark 3 := ⟨Or.inl (zz_c4 50 rfl rfl), (zz_c4 51 rfl rfl), (zz_c4 52 rfl rfl), y_X6_seeAndMark⟩
theorem lX0_76 : zz_LV RX0 76 mX6_goNearer 2 := ⟨Or.inl (zz_c4 56 rfl rfl), (zz_c4 57 rfl rfl), (zz_c4 58 rfl rfl), y_X6_goNearer⟩
theorem lX1_80 : zz_LS RX1 80 mJ6_bitCount_0f7a4 1 := ⟨Or.inl (zz_c4 165 rfl rfl), (zz_c4 166 rfl rfl), y_J6_bitCount_0f7a4⟩
theorem lX1_89 : zz_LS RX1 89 mX1_better 3 := ⟨Or.inl (zz_c4 179 rfl rfl), (zz_c4 180 rfl rfl), y_X1_better⟩
theorem lX1_92 : zz_LS RX1 92 mX1_further 3 := ⟨Or.inl (zz_c4 175 rfl rfl), (zz_c4 176 rfl rfl), y_X1_further⟩
theorem lX1_35 : zz_LV RX1 35 mX1_tellStands 3 := ⟨Or.inl (zz_c4 107 rfl rfl), (zz_c4 109 rfl rfl), (zz_s 30 (by decide +kernel) (by decide +kernel)), y_X1_tellStands⟩
theorem lX1_39 : zz_LV RX1 39 mX1_begin 1 := ⟨Or.inl (zz_c4 111 rfl rfl), (zz_c4 112 rfl rfl), (zz_c4 113 rfl rfl), y_X1_begin⟩
theorem lX1_43 : zz_LV RX1 43 mX5_measure 4 := ⟨Or.inl (zz_c4 115 rfl rfl), (zz_c3 179 rfl rfl), (zz_c3 180 rfl rfl), y_X5_measure⟩
theorem lX1_47 : zz_LV RX1 47 mX6_isOff 1 := ⟨Or.inl (zz_c4 116 rfl rfl), (zz_c3 166 rfl rfl), (zz_c3 167 rfl rfl), y_X6_isOff⟩
theorem lX1_53 : zz_LV RX1 53 mX1_put 3 := ⟨Or.inl (zz_c4 117 rfl rfl), (zz_c4 118 rfl rfl), (zz_c4 119 rfl rfl), y_X1_put⟩
theorem lX1_57 : zz_LV RX1 57 mX1_mostFrom 2 := ⟨Or.inl (zz_c4 125 rfl rfl), (zz_c4 127 rfl rfl), (zz_s 31 (by decide +kernel) (by decide +kernel)), y_X1_mostFrom⟩
theorem lX1_61 : zz_LV RX1 61 mX1_canBe 3 := ⟨Or.inl (zz_c4 129 rfl rfl), (zz_c4 131 rfl rfl), (zz_s 32 (by decide +kernel) (by decide +kernel)), y_X1_canBe⟩
theorem lX1_65 : zz_LV RX1 65 mX1_mostWith 3 := ⟨Or.inl (zz_c4 133 rfl rfl), (zz_c4 135 rfl rfl), (zz_s 33 (by decide +kernel) (by decide +kernel)), y_X1_mostWith⟩
theorem lX1_74 : zz_LV RX1 74 mX1_firstOfMost 2 := ⟨Or.inl (zz_c4 142 rfl rfl), (zz_c4 144 rfl rfl), (zz_s 34 (by decide +kernel) (by decide +kernel)), y_X1_firstOfMost⟩
theorem lX1_77 : zz_LV RX1 77 mX1_overAllWays 2 := ⟨Or.inl (zz_c4 161 rfl rfl), (zz_c4 163 rfl rfl), (zz_s 36 (by decide +kernel) (by decide +kernel)), y_X1_overAllWays⟩
theorem lX1_86 : zz_LV RX1 86 mX1_giveNext 3 := ⟨Or.inl (zz_c4 171 rfl rfl), (zz_c4 173 rfl rfl), (zz_s 37 (by decide +kernel) (by decide +kernel)), y_X1_giveNext⟩
theorem lX2_42 : zz_LS RX2 42 mX2_heldTo 2 := ⟨Or.inl (zz_c3 206 rfl rfl), (zz_c3 207 rfl rfl), y_X2_heldTo⟩
theorem lX2_55 : zz_LS RX2 55 mX2_joined 3 := ⟨Or.inl (zz_c3 203 rfl rfl), (zz_c3 204 rfl rfl), y_X2_joined⟩
theorem lX2_26 : zz_LV RX2 26 mX2_clear 0 := ⟨Or.inl (zz_c1 123 rfl rfl), (zz_c1 124 rfl rfl), (zz_c1 125 rfl rfl), y_X2_clear⟩
theorem lX2_29 : zz_LV RX2 29 mX2_put 1 := ⟨Or.inl (zz_c1 127 rfl rfl), (zz_c1 128 rfl rfl), (zz_c1 129 rfl rfl), y_X2_put⟩
theorem lX2_33 : zz_LV RX2 33 mX2_endSum 0 := ⟨Or.inl (zz_c1 131 rfl rfl), (zz_c1 132 rfl rfl), (zz_c1 133 rfl rfl), y_X2_endSum⟩
theorem lX2_36 : zz_LV RX2 36 mX2_worthOfSum 2 := ⟨Or.inl (zz_c3 198 rfl rfl), (zz_c3 200 rfl rfl), (zz_s 21 (by decide +kernel) (by decide +kernel)), y_X2_worthOfSum⟩
theorem lX3_22 : zz_LI RX3 22 mX6_init 0 := ⟨Or.inr ⟨"UnderstudyShow", zz_n 295 (by decide +kernel) (by decide +kernel)⟩, (zz_c1 205 rfl rfl), rfl, y_X6_init⟩
theorem lX3_23 : zz_LV RX3 23 mX6_copyFrom 1 := ⟨Or.inl (zz_c4 9 rfl rfl), (zz_c4 10 rfl rfl), (zz_c4 11 rfl rfl), y_X6_copyFrom⟩
theorem lX4_11 : zz_LI RX4 11 mX7_init 0 := ⟨Or.inr ⟨"UnderstudyShow", zz_n 36 (by decide +kernel) (by decide +kernel)⟩, (zz_c1 37 rfl rfl), rfl, y_X7_init⟩
theorem lX4_139 : zz_LS RX4 139 mX4_rank 1 := ⟨Or.inl (zz_c3 125 rfl rfl), (zz_c3 126 rfl rfl), y_X4_rank⟩
theorem lX4_43 : zz_LV RX4 43 mX7_cut 2 := ⟨Or.inl (zz_c2 151 rfl rfl), (zz_c2 152 rfl rfl), (zz_c2 153 rfl rfl), y_X7_cut⟩
theorem lX4_47 : zz_LV RX4 47 mX5_clear 0 := ⟨Or.inl (zz_c3 58 rfl rfl), (zz_c1 116 rfl rfl), (zz_c1 117 rfl rfl), y_X5_clear⟩
theorem lX4_52 : zz_LV RX4 52 mX4_sort 0 := ⟨Or.inl (zz_c3 59 rfl rfl), (zz_c3 61 rfl rfl), (zz_s 4 (by decide +kernel) (by decide +kernel)), y_X4_sort⟩
theorem lX4_56 : zz_LV RX4 56 mX4_readTell 1 := ⟨Or.inl (zz_c3 63 rfl rfl), (zz_c3 65 rfl rfl), (zz_s 5 (by decide +kernel) (by decide +kernel)), y_X4_readTell⟩
theorem lX4_66 : zz_LV RX4 66 mX4_fail 1 := ⟨Or.inl (zz_c3 71 rfl rfl), (zz_c3 73 rfl rfl), (zz_s 7 (by decide +kernel) (by decide +kernel)), y_X4_fail⟩
theorem lX4_70 : zz_LV RX4 70 mX4_take 0 := ⟨Or.inl (zz_c3 75 rfl rfl), (zz_c3 77 rfl rfl), (zz_s 8 (by decide +kernel) (by decide +kernel)), y_X4_take⟩
theorem lX4_73 : zz_LV RX4 73 mX4_readFigure 2 := ⟨Or.inl (zz_c3 67 rfl rfl), (zz_c3 69 rfl rfl), (zz_s 6 (by decide +kernel) (by decide +kernel)), y_X4_readFigure⟩
theorem lX4_81 : zz_LV RX4 81 mX4_readLaw 1 := ⟨Or.inl (zz_c3 107 rfl rfl), (zz_c3 109 rfl rfl), (zz_s 13 (by decide +kernel) (by decide +kernel)), y_X4_readLaw⟩
theorem lX4_85 : zz_LV RX4 85 mX4_readNumber 1 := ⟨Or.inl (zz_c3 95 rfl rfl), (zz_c3 97 rfl rfl), (zz_s 12 (by decide +kernel) (by decide +kernel)), y_X4_readNumber⟩
theorem lX4_92 : zz_LV RX4 92 mX4_expect 1 := ⟨Or.inl (zz_c3 91 rfl rfl), (zz_c3 93 rfl rfl), (zz_s 11 (by decide +kernel) (by decide +kernel)), y_X4_expect⟩
theorem lX4_104 : zz_LV RX4 104 mX4_readName 1 := ⟨Or.inl (zz_c3 79 rfl rfl), (zz_c3 81 rfl rfl), (zz_s 9 (by decide +kernel) (by decide +kernel)), y_X4_readName⟩
theorem lX4_108 : zz_LV RX4 108 mX5_addPerson 4 := ⟨Or.inl (zz_c3 99 rfl rfl), (zz_c3 100 rfl rfl), (zz_c3 101 rfl rfl), y_X5_addPerson⟩
theorem lX4_112 : zz_LV RX4 112 mX5_addPart 4 := ⟨Or.inl (zz_c3 103 rfl rfl), (zz_c3 104 rfl rfl), (zz_c3 105 rfl rfl), y_X5_addPart⟩
theorem lX4_119 : zz_LV RX4 119 mX5_hasName 1 := ⟨Or.inl (zz_c3 83 rfl rfl), (zz_c3 84 rfl rfl), (zz_c3 85 rfl rfl), y_X5_hasName⟩
theorem lX4_123 : zz_LV RX4 123 mX4_failLater 1 := ⟨Or.inl (zz_c3 87 rfl rfl), (zz_c3 89 rfl rfl), (zz_s 10 (by decide +kernel) (by decide +kernel)), y_X4_failLater⟩
theorem lX4_129 : zz_LV RX4 129 mX2_clear 0 := ⟨Or.inl (zz_c3 111 rfl rfl), (zz_c1 124 rfl rfl), (zz_c1 125 rfl rfl), y_X2_clear⟩
theorem lX4_130 : zz_LV RX4 130 mX4_readSum 1 := ⟨Or.inl (zz_c3 112 rfl rfl), (zz_c3 114 rfl rfl), (zz_s 14 (by decide +kernel) (by decide +kernel)), y_X4_readSum⟩
theorem lX4_133 : zz_LV RX4 133 mX4_waitFor 1 := ⟨Or.inl (zz_c3 116 rfl rfl), (zz_c3 118 rfl rfl), (zz_s 15 (by decide +kernel) (by decide +kernel)), y_X4_waitFor⟩
theorem lX4_136 : zz_LV RX4 136 mX4_readUnit 1 := ⟨Or.inl (zz_c3 120 rfl rfl), (zz_c3 122 rfl rfl), (zz_s 16 (by decide +kernel) (by decide +kernel)), y_X4_readUnit⟩
theorem lX4_142 : zz_LV RX4 142 mX4_putWaiting 2 := ⟨Or.inl (zz_c3 128 rfl rfl), (zz_c3 130 rfl rfl), (zz_s 17 (by decide +kernel) (by decide +kernel)), y_X4_putWaiting⟩
theorem lX4_152 : zz_LV RX4 152 mX2_endSum 0 := ⟨Or.inl (zz_c3 133 rfl rfl), (zz_c1 132 rfl rfl), (zz_c1 133 rfl rfl), y_X2_endSum⟩
theorem lX4_155 : zz_LV RX4 155 mX2_put 1 := ⟨Or.inl (zz_c3 124 rfl rfl), (zz_c1 128 rfl rfl), (zz_c1 129 rfl rfl), y_X2_put⟩
theorem lX5_56 : zz_LI RX5 56 mX2_init 0 := ⟨Or.inr ⟨"UnderstudyShow", zz_n 95 (by decide +kernel) (by decide +kernel)⟩, (zz_c1 96 rfl rfl), rfl, y_X2_init⟩
theorem lX5_72 : zz_LS RX5 72 mX9_hoursApart 2 := ⟨Or.inr ⟨"UnderstudyShow", zz_n 662 (by decide +kernel) (by decide +kernel)⟩, (zz_c3 183 rfl rfl), y_X9_hoursApart⟩
theorem lX5_57 : zz_LV RX5 57 mX5_clear 0 := ⟨Or.inl (zz_c1 115 rfl rfl), (zz_c1 116 rfl rfl), (zz_c1 117 rfl rfl), y_X5_clear⟩
theorem lX5_60 : zz_LV RX5 60 mX2_setNumberLess 3 := ⟨Or.inl (zz_c1 119 rfl rfl), (zz_c1 120 rfl rfl), (zz_c1 121 rfl rfl), y_X2_setNumberLess⟩
theorem lX5_64 : zz_LV RX5 64 mX2_setNumber 1 := ⟨Or.inl (zz_c1 135 rfl rfl), (zz_c1 136 rfl rfl), (zz_c1 137 rfl rfl), y_X2_setNumber⟩
theorem lX5_85 : zz_LV RX5 85 mX6_seenAs 2 := ⟨Or.inl (zz_c3 190 rfl rfl), (zz_c3 191 rfl rfl), (zz_c3 192 rfl rfl), y_X6_seenAs⟩
theorem lX5_88 : zz_LV RX5 88 mX2_worth 2 := ⟨Or.inl (zz_c3 194 rfl rfl), (zz_c3 195 rfl rfl), (zz_c3 196 rfl rfl), y_X2_worth⟩
theorem lX6_51 : zz_LS RX6 51 mX9_hoursApart 2 := ⟨Or.inr ⟨"UnderstudyShow", zz_n 780 (by decide +kernel) (by decide +kernel)⟩, (zz_c3 183 rfl rfl), y_X9_hoursApart⟩
theorem lX6_54 : zz_LS RX6 54 mX9_laterHour 1 := ⟨Or.inr ⟨"UnderstudyShow", zz_n 781 (by decide +kernel) (by decide +kernel)⟩, (zz_c4 62 rfl rfl), y_X9_laterHour⟩
theorem lX6_58 : zz_LS RX6 58 mX9_earlierHour 1 := ⟨Or.inr ⟨"UnderstudyShow", zz_n 784 (by decide +kernel) (by decide +kernel)⟩, (zz_c4 65 rfl rfl), y_X9_earlierHour⟩
theorem lX7_23 : zz_LS RX7 23 mX7_behindBlanks 3 := ⟨Or.inl (zz_c2 155 rfl rfl), (zz_c2 156 rfl rfl), y_X7_behindBlanks⟩
theorem lX7_31 : zz_LS RX7 31 mX7_byteAt 3 := ⟨Or.inl (zz_c2 158 rfl rfl), (zz_c2 159 rfl rfl), y_X7_byteAt⟩
theorem lX7_34 : zz_LS RX7 34 mX7_isBlank 1 := ⟨Or.inl (zz_c2 161 rfl rfl), (zz_c2 162 rfl rfl), y_X7_isBlank⟩
theorem lX7_38 : zz_LS RX7 38 mX7_isLetter 1 := ⟨Or.inl (zz_c2 168 rfl rfl), (zz_c2 169 rfl rfl), y_X7_isLetter⟩
theorem lX7_44 : zz_LS RX7 44 mX7_isDigit 1 := ⟨Or.inl (zz_c2 231 rfl rfl), (zz_c2 232 rfl rfl), y_X7_isDigit⟩
theorem lX7_60 : zz_LS RX7 60 mX7_sortOf 1 := ⟨Or.inl (zz_c2 176 rfl rfl), (zz_c2 177 rfl rfl), y_X7_sortOf⟩
theorem lX7_70 : zz_LS RX7 70 mX7_spellingOf 1 := ⟨Or.inl (zz_c2 190 rfl rfl), (zz_c2 191 rfl rfl), y_X7_spellingOf⟩
theorem lX7_27 : zz_LV RX7 27 mX7_cutOne 4 := ⟨Or.inl (zz_c2 164 rfl rfl), (zz_c2 166 rfl rfl), (zz_s 1 (by decide +kernel) (by decide +kernel)), y_X7_cutOne⟩
theorem lX7_41 : zz_LV RX7 41 mX7_cutLetters 4 := ⟨Or.inl (zz_c2 171 rfl rfl), (zz_c2 173 rfl rfl), (zz_s 2 (by decide +kernel) (by decide +kernel)), y_X7_cutLetters⟩
theorem lX7_47 : zz_LV RX7 47 mX7_cutDigits 4 := ⟨Or.inl (zz_c2 234 rfl rfl), (zz_c2 236 rfl rfl), (zz_s 3 (by decide +kernel) (by decide +kernel)), y_X7_cutDigits⟩
theorem lX8_31 : zz_LV RX8 31 mX8_fits 4 := ⟨Or.inl (zz_c5 63 rfl rfl), (zz_c5 65 rfl rfl), (zz_s 42 (by decide +kernel) (by decide +kernel)), y_X8_fits⟩
theorem lX8_35 : zz_LV RX8 35 mX5_measure 4 := ⟨Or.inl (zz_c5 67 rfl rfl), (zz_c3 179 rfl rfl), (zz_c3 180 rfl rfl), y_X5_measure⟩
theorem lL_9 : zz_LI RL 9 mX9_init 0 := ⟨Or.inl (zz_c1 22 rfl rfl), (zz_c1 23 rfl rfl), rfl, y_X9_init⟩
theorem lL_12 : zz_LI RL 12 mX10_init 0 := ⟨Or.inl (zz_c5 115 rfl rfl), (zz_c5 116 rfl rfl), rfl, y_X10_init⟩
theorem lL_13 : zz_LV RL 13 mX9_feed 5 := ⟨Or.inl (zz_c2 131 rfl rfl), (zz_c2 132 rfl rfl), (zz_c2 133 rfl rfl), y_X9_feed⟩
theorem lL_17 : zz_LV RL 17 mX10_feed 5 := ⟨Or.inl (zz_c6 99 rfl rfl), (zz_c6 100 rfl rfl), (zz_c6 101 rfl rfl), y_X10_feed⟩
theorem lL_18 : zz_LV RL 18 mX9_back 1 := ⟨Or.inl (zz_c2 139 rfl rfl), (zz_c2 140 rfl rfl), (zz_c2 141 rfl rfl), y_X9_back⟩
theorem lL_22 : zz_LV RL 22 mX10_back 1 := ⟨Or.inl (zz_c6 107 rfl rfl), (zz_c6 108 rfl rfl), (zz_c6 109 rfl rfl), y_X10_back⟩
theorem lL_23 : zz_LV RL 23 mX9_read 0 := ⟨Or.inl (zz_c2 143 rfl rfl), (zz_c2 144 rfl rfl), (zz_c2 145 rfl rfl), y_X9_read⟩
theorem lL_27 : zz_LV RL 27 mX10_read 0 := ⟨Or.inl (zz_c6 111 rfl rfl), (zz_c6 112 rfl rfl), (zz_c6 113 rfl rfl), y_X10_read⟩
theorem lL_28 : zz_LV RL 28 mX9_place 0 := ⟨Or.inl (zz_c3 153 rfl rfl), (zz_c3 154 rfl rfl), (zz_c3 155 rfl rfl), y_X9_place⟩
theorem lL_31 : zz_LV RL 31 mX10_place 0 := ⟨Or.inl (zz_c6 205 rfl rfl), (zz_c6 206 rfl rfl), (zz_c6 207 rfl rfl), y_X10_place⟩
theorem lL_32 : zz_LV RL 32 mX9_person 2 := ⟨Or.inl (zz_c3 157 rfl rfl), (zz_c3 158 rfl rfl), (zz_c3 159 rfl rfl), y_X9_person⟩
theorem lL_36 : zz_LV RL 36 mX10_person 2 := ⟨Or.inl (zz_c6 209 rfl rfl), (zz_c6 210 rfl rfl), (zz_c6 211 rfl rfl), y_X10_person⟩
theorem lL_37 : zz_LV RL 37 mX9_part 2 := ⟨Or.inl (zz_c3 220 rfl rfl), (zz_c3 221 rfl rfl), (zz_c3 222 rfl rfl), y_X9_part⟩
theorem lL_40 : zz_LV RL 40 mX10_part 2 := ⟨Or.inl (zz_c7 25 rfl rfl), (zz_c7 26 rfl rfl), (zz_c7 27 rfl rfl), y_X10_part⟩
theorem lL_41 : zz_LV RL 41 mX9_tells 3 := ⟨Or.inl (zz_c3 233 rfl rfl), (zz_c3 234 rfl rfl), (zz_c3 235 rfl rfl), y_X9_tells⟩
theorem lL_45 : zz_LV RL 45 mX10_tells 3 := ⟨Or.inl (zz_c7 37 rfl rfl), (zz_c7 38 rfl rfl), (zz_c7 39 rfl rfl), y_X10_tells⟩
theorem lL_46 : zz_LV RL 46 mX9_move 2 := ⟨Or.inl (zz_c3 238 rfl rfl), (zz_c3 239 rfl rfl), (zz_c4 0 rfl rfl), y_X9_move⟩
theorem lL_50 : zz_LV RL 50 mX10_move 2 := ⟨Or.inl (zz_c7 49 rfl rfl), (zz_c7 50 rfl rfl), (zz_c7 51 rfl rfl), y_X10_move⟩
theorem lL_51 : zz_LV RL 51 mX9_write 2 := ⟨Or.inl (zz_c4 14 rfl rfl), (zz_c4 15 rfl rfl), (zz_c4 16 rfl rfl), y_X9_write⟩
theorem lL_54 : zz_LV RL 54 mX10_write 2 := ⟨Or.inl (zz_c7 64 rfl rfl), (zz_c7 65 rfl rfl), (zz_c7 66 rfl rfl), y_X10_write⟩
theorem lL_55 : zz_LV RL 55 mX9_keepOff 2 := ⟨Or.inl (zz_c4 18 rfl rfl), (zz_c4 19 rfl rfl), (zz_c4 20 rfl rfl), y_X9_keepOff⟩
theorem lL_59 : zz_LV RL 59 mX10_keepOff 2 := ⟨Or.inl (zz_c7 68 rfl rfl), (zz_c7 69 rfl rfl), (zz_c7 70 rfl rfl), y_X10_keepOff⟩
theorem lL_60 : zz_LV RL 60 mX9_days 1 := ⟨Or.inl (zz_c4 22 rfl rfl), (zz_c4 23 rfl rfl), (zz_c4 24 rfl rfl), y_X9_days⟩
theorem lL_63 : zz_LV RL 63 mX10_days 1 := ⟨Or.inl (zz_c7 72 rfl rfl), (zz_c7 73 rfl rfl), (zz_c7 74 rfl rfl), y_X10_days⟩
theorem lL_64 : zz_LV RL 64 mX9_undo 0 := ⟨Or.inl (zz_c4 68 rfl rfl), (zz_c4 69 rfl rfl), (zz_c4 70 rfl rfl), y_X9_undo⟩
theorem lL_68 : zz_LV RL 68 mX10_undo 0 := ⟨Or.inl (zz_c7 99 rfl rfl), (zz_c7 100 rfl rfl), (zz_c7 101 rfl rfl), y_X10_undo⟩
theorem lL_69 : zz_LV RL 69 mX9_empty 0 := ⟨Or.inl (zz_c4 76 rfl rfl), (zz_c4 77 rfl rfl), (zz_c4 78 rfl rfl), y_X9_empty⟩
theorem lL_72 : zz_LV RL 72 mX10_empty 0 := ⟨Or.inl (zz_c7 103 rfl rfl), (zz_c7 104 rfl rfl), (zz_c7 105 rfl rfl), y_X10_empty⟩
theorem lL_73 : zz_LV RL 73 mX9_given 1 := ⟨Or.inl (zz_c4 99 rfl rfl), (zz_c4 100 rfl rfl), (zz_c4 101 rfl rfl), y_X9_given⟩
theorem lL_76 : zz_LV RL 76 mX10_given 1 := ⟨Or.inl (zz_c7 111 rfl rfl), (zz_c7 112 rfl rfl), (zz_c7 113 rfl rfl), y_X10_given⟩
theorem lL_77 : zz_LV RL 77 mX9_whole 0 := ⟨Or.inl (zz_c4 146 rfl rfl), (zz_c4 147 rfl rfl), (zz_c4 148 rfl rfl), y_X9_whole⟩
theorem lL_80 : zz_LV RL 80 mX10_whole 0 := ⟨Or.inl (zz_c7 148 rfl rfl), (zz_c7 149 rfl rfl), (zz_c7 150 rfl rfl), y_X10_whole⟩
theorem lL_81 : zz_LV RL 81 mX9_costs 2 := ⟨Or.inl (zz_c4 182 rfl rfl), (zz_c4 183 rfl rfl), (zz_c4 184 rfl rfl), y_X9_costs⟩
theorem lL_84 : zz_LV RL 84 mX10_costs 2 := ⟨Or.inl (zz_c7 139 rfl rfl), (zz_c7 140 rfl rfl), (zz_c7 141 rfl rfl), y_X10_costs⟩
theorem lL_85 : zz_LV RL 85 mX9_rather 1 := ⟨Or.inl (zz_c4 84 rfl rfl), (zz_c4 85 rfl rfl), (zz_c4 86 rfl rfl), y_X9_rather⟩
theorem lL_88 : zz_LV RL 88 mX10_rather 1 := ⟨Or.inl (zz_c7 160 rfl rfl), (zz_c7 161 rfl rfl), (zz_c7 162 rfl rfl), y_X10_rather⟩
theorem lL_89 : zz_LV RL 89 mX9_ways 0 := ⟨Or.inl (zz_c4 186 rfl rfl), (zz_c4 187 rfl rfl), (zz_c4 188 rfl rfl), y_X9_ways⟩
theorem lL_92 : zz_LV RL 92 mX10_ways 0 := ⟨Or.inl (zz_c7 152 rfl rfl), (zz_c7 153 rfl rfl), (zz_c7 154 rfl rfl), y_X10_ways⟩
theorem lL_93 : zz_LV RL 93 mX9_fairest 0 := ⟨Or.inl (zz_c4 194 rfl rfl), (zz_c4 195 rfl rfl), (zz_c4 196 rfl rfl), y_X9_fairest⟩
theorem lL_96 : zz_LV RL 96 mX10_fairest 0 := ⟨Or.inl (zz_c7 156 rfl rfl), (zz_c7 157 rfl rfl), (zz_c7 158 rfl rfl), y_X10_fairest⟩
theorem lL_97 : zz_LV RL 97 mX9_bestHour 2 := ⟨Or.inl (zz_c4 206 rfl rfl), (zz_c4 207 rfl rfl), (zz_c4 208 rfl rfl), y_X9_bestHour⟩
theorem lL_100 : zz_LV RL 100 mX10_bestHour 2 := ⟨Or.inl (zz_c7 168 rfl rfl), (zz_c7 169 rfl rfl), (zz_c7 170 rfl rfl), y_X10_bestHour⟩
theorem lL_101 : zz_LV RL 101 mX9_trade 2 := ⟨Or.inl (zz_c4 214 rfl rfl), (zz_c4 215 rfl rfl), (zz_c4 216 rfl rfl), y_X9_trade⟩
theorem lL_104 : zz_LV RL 104 mX10_trade 2 := ⟨Or.inl (zz_c7 180 rfl rfl), (zz_c7 181 rfl rfl), (zz_c7 182 rfl rfl), y_X10_trade⟩
theorem lL_105 : zz_LV RL 105 mX9_key 0 := ⟨Or.inl (zz_c4 219 rfl rfl), (zz_c4 220 rfl rfl), (zz_c4 221 rfl rfl), y_X9_key⟩
theorem lL_108 : zz_LV RL 108 mX10_key 0 := ⟨Or.inl (zz_c7 185 rfl rfl), (zz_c7 186 rfl rfl), (zz_c7 187 rfl rfl), y_X10_key⟩
theorem lL_109 : zz_LV RL 109 mX9_crowd 1 := ⟨Or.inl (zz_c4 231 rfl rfl), (zz_c4 232 rfl rfl), (zz_c4 233 rfl rfl), y_X9_crowd⟩
theorem lL_112 : zz_LV RL 112 mX10_crowd 1 := ⟨Or.inl (zz_c7 196 rfl rfl), (zz_c7 197 rfl rfl), (zz_c7 198 rfl rfl), y_X10_crowd⟩
theorem lL_113 : zz_LV RL 113 mX9_habit 2 := ⟨Or.inl (zz_c4 239 rfl rfl), (zz_c5 0 rfl rfl), (zz_c5 1 rfl rfl), y_X9_habit⟩
theorem lL_116 : zz_LV RL 116 mX10_habit 2 := ⟨Or.inl (zz_c7 200 rfl rfl), (zz_c7 201 rfl rfl), (zz_c7 202 rfl rfl), y_X10_habit⟩
theorem lL_117 : zz_LV RL 117 mX9_regular 2 := ⟨Or.inl (zz_c5 3 rfl rfl), (zz_c5 4 rfl rfl), (zz_c5 5 rfl rfl), y_X9_regular⟩
theorem lL_120 : zz_LV RL 120 mX10_regular 2 := ⟨Or.inl (zz_c7 208 rfl rfl), (zz_c7 209 rfl rfl), (zz_c7 210 rfl rfl), y_X10_regular⟩
theorem lL_121 : zz_LV RL 121 mX9_settles 0 := ⟨Or.inl (zz_c5 7 rfl rfl), (zz_c5 8 rfl rfl), (zz_c5 9 rfl rfl), y_X9_settles⟩
theorem lL_124 : zz_LV RL 124 mX10_settles 0 := ⟨Or.inl (zz_c7 212 rfl rfl), (zz_c7 213 rfl rfl), (zz_c7 214 rfl rfl), y_X10_settles⟩
theorem lL_125 : zz_LV RL 125 mX9_missed 1 := ⟨Or.inl (zz_c4 227 rfl rfl), (zz_c4 228 rfl rfl), (zz_c4 229 rfl rfl), y_X9_missed⟩
theorem lL_128 : zz_LV RL 128 mX10_missed 1 := ⟨Or.inl (zz_c7 192 rfl rfl), (zz_c7 193 rfl rfl), (zz_c7 194 rfl rfl), y_X10_missed⟩
theorem lL_129 : zz_LV RL 129 mX9_drift 2 := ⟨Or.inl (zz_c5 11 rfl rfl), (zz_c5 12 rfl rfl), (zz_c5 13 rfl rfl), y_X9_drift⟩
theorem lL_132 : zz_LV RL 132 mX10_drift 2 := ⟨Or.inl (zz_c7 224 rfl rfl), (zz_c7 225 rfl rfl), (zz_c7 226 rfl rfl), y_X10_drift⟩
theorem lL_133 : zz_LV RL 133 mX9_meet 1 := ⟨Or.inl (zz_c5 15 rfl rfl), (zz_c5 16 rfl rfl), (zz_c5 17 rfl rfl), y_X9_meet⟩
theorem lL_136 : zz_LV RL 136 mX10_meet 1 := ⟨Or.inl (zz_c7 231 rfl rfl), (zz_c7 232 rfl rfl), (zz_c7 233 rfl rfl), y_X10_meet⟩
theorem lL_137 : zz_LV RL 137 mX9_away 0 := ⟨Or.inl (zz_c5 23 rfl rfl), (zz_c5 24 rfl rfl), (zz_c5 25 rfl rfl), y_X9_away⟩
theorem lL_140 : zz_LV RL 140 mX10_away 0 := ⟨Or.inl (zz_c7 239 rfl rfl), (zz_c8 0 rfl rfl), (zz_c8 1 rfl rfl), y_X10_away⟩
theorem lL_141 : zz_LV RL 141 mX9_then 3 := ⟨Or.inl (zz_c5 27 rfl rfl), (zz_c5 28 rfl rfl), (zz_c5 29 rfl rfl), y_X9_then⟩
theorem lL_144 : zz_LV RL 144 mX10_then 3 := ⟨Or.inl (zz_c8 3 rfl rfl), (zz_c8 4 rfl rfl), (zz_c8 5 rfl rfl), y_X10_then⟩
theorem lL_145 : zz_LV RL 145 mX9_marksIn 2 := ⟨Or.inl (zz_c5 31 rfl rfl), (zz_c5 32 rfl rfl), (zz_c5 33 rfl rfl), y_X9_marksIn⟩
theorem lL_148 : zz_LV RL 148 mX10_marksIn 2 := ⟨Or.inl (zz_c8 7 rfl rfl), (zz_c8 8 rfl rfl), (zz_c8 9 rfl rfl), y_X10_marksIn⟩
theorem lL_149 : zz_LV RL 149 mX9_star 2 := ⟨Or.inl (zz_c5 35 rfl rfl), (zz_c5 36 rfl rfl), (zz_c5 37 rfl rfl), y_X9_star⟩
theorem lL_152 : zz_LV RL 152 mX10_star 2 := ⟨Or.inl (zz_c8 11 rfl rfl), (zz_c8 12 rfl rfl), (zz_c8 13 rfl rfl), y_X10_star⟩
theorem lL_153 : zz_LV RL 153 mX9_year 2 := ⟨Or.inl (zz_c5 39 rfl rfl), (zz_c5 40 rfl rfl), (zz_c5 41 rfl rfl), y_X9_year⟩
theorem lL_156 : zz_LV RL 156 mX10_year 2 := ⟨Or.inl (zz_c8 15 rfl rfl), (zz_c8 16 rfl rfl), (zz_c8 17 rfl rfl), y_X10_year⟩
theorem lL_157 : zz_LV RL 157 mX9_tell 3 := ⟨Or.inl (zz_c5 43 rfl rfl), (zz_c5 44 rfl rfl), (zz_c5 45 rfl rfl), y_X9_tell⟩
theorem lL_161 : zz_LV RL 161 mX10_tell 3 := ⟨Or.inl (zz_c8 19 rfl rfl), (zz_c8 20 rfl rfl), (zz_c8 21 rfl rfl), y_X10_tell⟩
theorem lL_162 : zz_LV RL 162 mX9_forget 0 := ⟨Or.inl (zz_c5 51 rfl rfl), (zz_c5 52 rfl rfl), (zz_c5 53 rfl rfl), y_X9_forget⟩
theorem lL_165 : zz_LV RL 165 mX10_forget 0 := ⟨Or.inl (zz_c8 23 rfl rfl), (zz_c8 24 rfl rfl), (zz_c8 25 rfl rfl), y_X10_forget⟩
theorem lL_166 : zz_LV RL 166 mX9_who 2 := ⟨Or.inl (zz_c5 55 rfl rfl), (zz_c5 56 rfl rfl), (zz_c5 57 rfl rfl), y_X9_who⟩
theorem lL_169 : zz_LV RL 169 mX10_who 2 := ⟨Or.inl (zz_c8 27 rfl rfl), (zz_c8 28 rfl rfl), (zz_c8 29 rfl rfl), y_X10_who⟩
theorem lL_170 : zz_LV RL 170 mX9_ask 2 := ⟨Or.inl (zz_c5 69 rfl rfl), (zz_c5 70 rfl rfl), (zz_c5 71 rfl rfl), y_X9_ask⟩
theorem lL_173 : zz_LV RL 173 mX10_ask 2 := ⟨Or.inl (zz_c8 35 rfl rfl), (zz_c8 36 rfl rfl), (zz_c8 37 rfl rfl), y_X10_ask⟩
theorem lL_174 : zz_LV RL 174 mX9_hold 1 := ⟨Or.inl (zz_c5 78 rfl rfl), (zz_c5 79 rfl rfl), (zz_c5 80 rfl rfl), y_X9_hold⟩
theorem lL_178 : zz_LV RL 178 mX10_hold 1 := ⟨Or.inl (zz_c8 39 rfl rfl), (zz_c8 40 rfl rfl), (zz_c8 41 rfl rfl), y_X10_hold⟩
theorem lL_179 : zz_LV RL 179 mX9_restore 1 := ⟨Or.inl (zz_c5 85 rfl rfl), (zz_c5 86 rfl rfl), (zz_c5 87 rfl rfl), y_X9_restore⟩
theorem lL_182 : zz_LV RL 182 mX10_restore 1 := ⟨Or.inl (zz_c8 43 rfl rfl), (zz_c8 44 rfl rfl), (zz_c8 45 rfl rfl), y_X10_restore⟩
theorem lL_183 : zz_LV RL 183 mX9_count 1 := ⟨Or.inl (zz_c5 89 rfl rfl), (zz_c5 90 rfl rfl), (zz_c5 91 rfl rfl), y_X9_count⟩
theorem lL_186 : zz_LV RL 186 mX10_count 1 := ⟨Or.inl (zz_c8 47 rfl rfl), (zz_c8 48 rfl rfl), (zz_c8 49 rfl rfl), y_X10_count⟩
theorem lX10_159 : zz_LS RX10 159 mX10_word 7 := ⟨Or.inl (zz_c5 123 rfl rfl), (zz_c5 124 rfl rfl), y_X10_word⟩
theorem lX10_180 : zz_LS RX10 180 mX10_appends 2 := ⟨Or.inl (zz_c5 126 rfl rfl), (zz_c5 127 rfl rfl), y_X10_appends⟩
theorem lX10_195 : zz_LS RX10 195 mX10_isLetter 1 := ⟨Or.inl (zz_c6 127 rfl rfl), (zz_c6 128 rfl rfl), y_X10_isLetter⟩
theorem lX10_199 : zz_LS RX10 199 mX10_isDigit 1 := ⟨Or.inl (zz_c6 130 rfl rfl), (zz_c6 131 rfl rfl), y_X10_isDigit⟩
theorem lX10_310 : zz_LS RX10 310 mX10_off 2 := ⟨Or.inl (zz_c7 3 rfl rfl), (zz_c7 4 rfl rfl), y_X10_off⟩
theorem lX10_313 : zz_LS RX10 313 mX10_in 3 := ⟨Or.inl (zz_c6 217 rfl rfl), (zz_c6 218 rfl rfl), y_X10_in⟩
theorem lX10_327 : zz_LS RX10 327 mX10_mixed 2 := ⟨Or.inl (zz_c7 91 rfl rfl), (zz_c7 92 rfl rfl), y_X10_mixed⟩
theorem lX10_330 : zz_LS RX10 330 mX10_roundOff 2 := ⟨Or.inl (zz_c7 0 rfl rfl), (zz_c7 1 rfl rfl), y_X10_roundOff⟩
theorem lX10_342 : zz_LS RX10 342 mX10_within 3 := ⟨Or.inl (zz_c7 14 rfl rfl), (zz_c7 15 rfl rfl), y_X10_within⟩
theorem lX10_367 : zz_LS RX10 367 mX10_towards 2 := ⟨Or.inl (zz_c7 96 rfl rfl), (zz_c7 97 rfl rfl), y_X10_towards⟩
theorem lX10_388 : zz_LS RX10 388 mX10_isHour 1 := ⟨Or.inl (zz_c7 53 rfl rfl), (zz_c7 54 rfl rfl), y_X10_isHour⟩
theorem lX10_394 : zz_LS RX10 394 mX10_isLong 1 := ⟨Or.inl (zz_c7 76 rfl rfl), (zz_c7 77 rfl rfl), y_X10_isLong⟩
theorem lX10_436 : zz_LS RX10 436 mX10_bits 1 := ⟨Or.inl (zz_c7 189 rfl rfl), (zz_c7 190 rfl rfl), y_X10_bits⟩
theorem lX10_449 : zz_LS RX10 449 mX10_isSome 1 := ⟨Or.inl (zz_c7 228 rfl rfl), (zz_c7 229 rfl rfl), y_X10_isSome⟩
theorem lX10_155 : zz_LV RX10 155 mX10_plain 1 := ⟨Or.inl (zz_c5 119 rfl rfl), (zz_c5 121 rfl rfl), (zz_s 49 (by decide +kernel) (by decide +kernel)), y_X10_plain⟩
theorem lX10_163 : zz_LV RX10 163 mX10_begins 0 := ⟨Or.inl (zz_c5 130 rfl rfl), (zz_c5 132 rfl rfl), (zz_s 50 (by decide +kernel) (by decide +kernel)), y_X10_begins⟩
theorem lX10_166 : zz_LV RX10 166 mX10_keepsRow 0 := ⟨Or.inl (zz_c5 134 rfl rfl), (zz_c5 136 rfl rfl), (zz_s 51 (by decide +kernel) (by decide +kernel)), y_X10_keepsRow⟩
theorem lX10_172 : zz_LV RX10 172 mX10_put 1 := ⟨Or.inl (zz_c6 103 rfl rfl), (zz_c6 105 rfl rfl), (zz_s 52 (by decide +kernel) (by decide +kernel)), y_X10_put⟩
theorem lX10_187 : zz_LV RX10 187 mX10_byteAt 1 := ⟨Or.inl (zz_c6 119 rfl rfl), (zz_c6 121 rfl rfl), (zz_s 54 (by decide +kernel) (by decide +kernel)), y_X10_byteAt⟩
theorem lX10_191 : zz_LV RX10 191 mX10_token 4 := ⟨Or.inl (zz_c6 123 rfl rfl), (zz_c6 125 rfl rfl), (zz_s 55 (by decide +kernel) (by decide +kernel)), y_X10_token⟩
theorem lX10_202 : zz_LV RX10 202 mX10_sign 3 := ⟨Or.inl (zz_c6 133 rfl rfl), (zz_c6 135 rfl rfl), (zz_s 56 (by decide +kernel) (by decide +kernel)), y_X10_sign⟩
theorem lX10_221 : zz_LV RX10 221 mX10_fail 1 := ⟨Or.inl (zz_c6 149 rfl rfl), (zz_c6 151 rfl rfl), (zz_s 60 (by decide +kernel) (by decide +kernel)), y_X10_fail⟩
theorem lX10_224 : zz_LV RX10 224 mX10_is 1 := ⟨Or.inl (zz_c6 137 rfl rfl), (zz_c6 139 rfl rfl), (zz_s 57 (by decide +kernel) (by decide +kernel)), y_X10_is⟩
theorem lX10_227 : zz_LV RX10 227 mX10_goesOn 0 := ⟨Or.inl (zz_c6 153 rfl rfl), (zz_c6 155 rfl rfl), (zz_s 61 (by decide +kernel) (by decide +kernel)), y_X10_goesOn⟩
theorem lX10_230 : zz_LV RX10 230 mX10_cut 0 := ⟨Or.inl (zz_c6 115 rfl rfl), (zz_c6 117 rfl rfl), (zz_s 53 (by decide +kernel) (by decide +kernel)), y_X10_cut⟩
theorem lX10_251 : zz_LV RX10 251 mX10_tellOne 0 := ⟨Or.inl (zz_c6 141 rfl rfl), (zz_c6 143 rfl rfl), (zz_s 58 (by decide +kernel) (by decide +kernel)), y_X10_tellOne⟩
theorem lX10_260 : zz_LV RX10 260 mX10_bounded 2 := ⟨Or.inl (zz_c6 169 rfl rfl), (zz_c6 171 rfl rfl), (zz_s 65 (by decide +kernel) (by decide +kernel)), y_X10_bounded⟩
theorem lX10_264 : zz_LV RX10 264 mX10_must 1 := ⟨Or.inl (zz_c6 161 rfl rfl), (zz_c6 163 rfl rfl), (zz_s 63 (by decide +kernel) (by decide +kernel)), y_X10_must⟩
theorem lX10_267 : zz_LV RX10 267 mX10_roomFor 2 := ⟨Or.inl (zz_c6 145 rfl rfl), (zz_c6 147 rfl rfl), (zz_s 59 (by decide +kernel) (by decide +kernel)), y_X10_roomFor⟩
theorem lX10_271 : zz_LV RX10 271 mX10_named 0 := ⟨Or.inl (zz_c6 157 rfl rfl), (zz_c6 159 rfl rfl), (zz_s 62 (by decide +kernel) (by decide +kernel)), y_X10_named⟩
theorem lX10_275 : zz_LV RX10 275 mX10_endsName 1 := ⟨Or.inl (zz_c6 173 rfl rfl), (zz_c6 175 rfl rfl), (zz_s 66 (by decide +kernel) (by decide +kernel)), y_X10_endsName⟩
theorem lX10_278 : zz_LV RX10 278 mX10_toldInt 2 := ⟨Or.inl (zz_c6 177 rfl rfl), (zz_c6 179 rfl rfl), (zz_s 67 (by decide +kernel) (by decide +kernel)), y_X10_toldInt⟩
theorem lX10_281 : zz_LV RX10 281 mX10_tellLaw 1 := ⟨Or.inl (zz_c6 181 rfl rfl), (zz_c6 183 rfl rfl), (zz_s 68 (by decide +kernel) (by decide +kernel)), y_X10_tellLaw⟩
theorem lX10_284 : zz_LV RX10 284 mX10_wrong 2 := ⟨Or.inl (zz_c6 165 rfl rfl), (zz_c6 167 rfl rfl), (zz_s 64 (by decide +kernel) (by decide +kernel)), y_X10_wrong⟩
theorem lX10_287 : zz_LV RX10 287 mX10_expression 0 := ⟨Or.inl (zz_c6 185 rfl rfl), (zz_c6 187 rfl rfl), (zz_s 69 (by decide +kernel) (by decide +kernel)), y_X10_expression⟩
theorem lX10_290 : zz_LV RX10 290 mX10_term 0 := ⟨Or.inl (zz_c6 201 rfl rfl), (zz_c6 203 rfl rfl), (zz_s 73 (by decide +kernel) (by decide +kernel)), y_X10_term⟩
theorem lX10_296 : zz_LV RX10 296 mX10_emit 2 := ⟨Or.inl (zz_c6 193 rfl rfl), (zz_c6 195 rfl rfl), (zz_s 71 (by decide +kernel) (by decide +kernel)), y_X10_emit⟩
theorem lX10_299 : zz_LV RX10 299 mX10_unit 0 := ⟨Or.inl (zz_c6 189 rfl rfl), (zz_c6 191 rfl rfl), (zz_s 70 (by decide +kernel) (by decide +kernel)), y_X10_unit⟩
theorem lX10_302 : zz_LV RX10 302 mX10_comesOut 1 := ⟨Or.inl (zz_c6 197 rfl rfl), (zz_c6 199 rfl rfl), (zz_s 72 (by decide +kernel) (by decide +kernel)), y_X10_comesOut⟩
theorem lX10_323 : zz_LV RX10 323 mX10_copies 0 := ⟨Or.inl (zz_c6 220 rfl rfl), (zz_c6 222 rfl rfl), (zz_s 75 (by decide +kernel) (by decide +kernel)), y_X10_copies⟩
theorem lX10_333 : zz_LV RX10 333 mX10_termOf 2 := ⟨Or.inl (zz_c7 10 rfl rfl), (zz_c7 12 rfl rfl), (zz_s 81 (by decide +kernel) (by decide +kernel)), y_X10_termOf⟩
theorem lX10_336 : zz_LV RX10 336 mX10_looks 2 := ⟨Or.inl (zz_c6 236 rfl rfl), (zz_c6 238 rfl rfl), (zz_s 79 (by decide +kernel) (by decide +kernel)), y_X10_looks⟩
theorem lX10_339 : zz_LV RX10 339 mX10_lawTells 2 := ⟨Or.inl (zz_c7 6 rfl rfl), (zz_c7 8 rfl rfl), (zz_s 80 (by decide +kernel) (by decide +kernel)), y_X10_lawTells⟩
theorem lX10_345 : zz_LV RX10 345 mX10_isOff 1 := ⟨Or.inl (zz_c6 228 rfl rfl), (zz_c6 230 rfl rfl), (zz_s 77 (by decide +kernel) (by decide +kernel)), y_X10_isOff⟩
theorem lX10_348 : zz_LV RX10 348 mX10_standsOf 2 := ⟨Or.inl (zz_c6 232 rfl rfl), (zz_c6 234 rfl rfl), (zz_s 78 (by decide +kernel) (by decide +kernel)), y_X10_standsOf⟩
theorem lX10_351 : zz_LV RX10 351 mX10_casts 0 := ⟨Or.inl (zz_c6 224 rfl rfl), (zz_c6 226 rfl rfl), (zz_s 76 (by decide +kernel) (by decide +kernel)), y_X10_casts⟩
theorem lX10_354 : zz_LV RX10 354 mX10_writesOf 2 := ⟨Or.inl (zz_c7 41 rfl rfl), (zz_c7 43 rfl rfl), (zz_s 86 (by decide +kernel) (by decide +kernel)), y_X10_writesOf⟩
theorem lX10_357 : zz_LV RX10 357 mX10_lotOf 1 := ⟨Or.inl (zz_c7 87 rfl rfl), (zz_c7 89 rfl rfl), (zz_s 92 (by decide +kernel) (by decide +kernel)), y_X10_lotOf⟩
theorem lX10_360 : zz_LV RX10 360 mX10_dogsOf 2 := ⟨Or.inl (zz_c7 33 rfl rfl), (zz_c7 35 rfl rfl), (zz_s 85 (by decide +kernel) (by decide +kernel)), y_X10_dogsOf⟩
theorem lX10_363 : zz_LV RX10 363 mX10_marksOf 2 := ⟨Or.inl (zz_c7 45 rfl rfl), (zz_c7 47 rfl rfl), (zz_s 87 (by decide +kernel) (by decide +kernel)), y_X10_marksOf⟩
theorem lX10_370 : zz_LV RX10 370 mX10_dayGoes 0 := ⟨Or.inl (zz_c7 83 rfl rfl), (zz_c7 85 rfl rfl), (zz_s 91 (by decide +kernel) (by decide +kernel)), y_X10_dayGoes⟩
theorem lX10_373 : zz_LV RX10 373 mX10_isPerson 1 := ⟨Or.inl (zz_c6 213 rfl rfl), (zz_c6 215 rfl rfl), (zz_s 74 (by decide +kernel) (by decide +kernel)), y_X10_isPerson⟩
theorem lX10_376 : zz_LV RX10 376 mX10_castFor 1 := ⟨Or.inl (zz_c7 17 rfl rfl), (zz_c7 19 rfl rfl), (zz_s 82 (by decide +kernel) (by decide +kernel)), y_X10_castFor⟩
theorem lX10_379 : zz_LV RX10 379 mX10_seenAny 1 := ⟨Or.inl (zz_c7 21 rfl rfl), (zz_c7 23 rfl rfl), (zz_s 83 (by decide +kernel) (by decide +kernel)), y_X10_seenAny⟩
theorem lX10_382 : zz_LV RX10 382 mX10_isPart 1 := ⟨Or.inl (zz_c7 29 rfl rfl), (zz_c7 31 rfl rfl), (zz_s 84 (by decide +kernel) (by decide +kernel)), y_X10_isPart⟩
theorem lX10_385 : zz_LV RX10 385 mX10_records 0 := ⟨Or.inl (zz_c7 60 rfl rfl), (zz_c7 62 rfl rfl), (zz_s 89 (by decide +kernel) (by decide +kernel)), y_X10_records⟩
theorem lX10_391 : zz_LV RX10 391 mX10_does 2 := ⟨Or.inl (zz_c7 56 rfl rfl), (zz_c7 58 rfl rfl), (zz_s 88 (by decide +kernel) (by decide +kernel)), y_X10_does⟩
theorem lX10_397 : zz_LV RX10 397 mX10_goes 1 := ⟨Or.inl (zz_c7 79 rfl rfl), (zz_c7 81 rfl rfl), (zz_s 90 (by decide +kernel) (by decide +kernel)), y_X10_goes⟩
theorem lX10_400 : zz_LV RX10 400 mX10_emptyBits 0 := ⟨Or.inl (zz_c7 107 rfl rfl), (zz_c7 109 rfl rfl), (zz_s 93 (by decide +kernel) (by decide +kernel)), y_X10_emptyBits⟩
theorem lX10_403 : zz_LV RX10 403 mX10_fillsStands 1 := ⟨Or.inl (zz_c7 119 rfl rfl), (zz_c7 121 rfl rfl), (zz_s 95 (by decide +kernel) (by decide +kernel)), y_X10_fillsStands⟩
theorem lX10_406 : zz_LV RX10 406 mX10_ends 1 := ⟨Or.inl (zz_c7 123 rfl rfl), (zz_c7 125 rfl rfl), (zz_s 96 (by decide +kernel) (by decide +kernel)), y_X10_ends⟩
theorem lX10_409 : zz_LV RX10 409 mX10_isFree 3 := ⟨Or.inl (zz_c7 127 rfl rfl), (zz_c7 129 rfl rfl), (zz_s 97 (by decide +kernel) (by decide +kernel)), y_X10_isFree⟩
theorem lX10_412 : zz_LV RX10 412 mX10_with 3 := ⟨Or.inl (zz_c7 131 rfl rfl), (zz_c7 133 rfl rfl), (zz_s 98 (by decide +kernel) (by decide +kernel)), y_X10_with⟩
theorem lX10_415 : zz_LV RX10 415 mX10_fillsGiven 0 := ⟨Or.inl (zz_c7 115 rfl rfl), (zz_c7 117 rfl rfl), (zz_s 94 (by decide +kernel) (by decide +kernel)), y_X10_fillsGiven⟩
theorem lX10_418 : zz_LV RX10 418 mX10_lowestFor 2 := ⟨Or.inl (zz_c7 135 rfl rfl), (zz_c7 137 rfl rfl), (zz_s 99 (by decide +kernel) (by decide +kernel)), y_X10_lowestFor⟩
theorem lX10_422 : zz_LV RX10 422 mX10_costsOf 2 := ⟨Or.inl (zz_c7 143 rfl rfl), (zz_c7 145 rfl rfl), (zz_s 100 (by decide +kernel) (by decide +kernel)), y_X10_costsOf⟩
theorem lX10_425 : zz_LV RX10 425 mX10_wouldRather 2 := ⟨Or.inl (zz_c7 164 rfl rfl), (zz_c7 166 rfl rfl), (zz_s 101 (by decide +kernel) (by decide +kernel)), y_X10_wouldRather⟩
theorem lX10_429 : zz_LV RX10 429 mX10_standsAll 0 := ⟨Or.inl (zz_c7 176 rfl rfl), (zz_c7 178 rfl rfl), (zz_s 103 (by decide +kernel) (by decide +kernel)), y_X10_standsAll⟩
theorem lX10_432 : zz_LV RX10 432 mX10_sumCast 0 := ⟨Or.inl (zz_c7 172 rfl rfl), (zz_c7 174 rfl rfl), (zz_s 102 (by decide +kernel) (by decide +kernel)), y_X10_sumCast⟩
theorem lX10_439 : zz_LV RX10 439 mX10_seenAs 2 := ⟨Or.inl (zz_c7 204 rfl rfl), (zz_c7 206 rfl rfl), (zz_s 104 (by decide +kernel) (by decide +kernel)), y_X10_seenAs⟩
theorem lX10_442 : zz_LV RX10 442 mX10_copiesStill 0 := ⟨Or.inl (zz_c7 216 rfl rfl), (zz_c7 218 rfl rfl), (zz_s 105 (by decide +kernel) (by decide +kernel)), y_X10_copiesStill⟩
theorem lX10_445 : zz_LV RX10 445 mX10_isChanged 0 := ⟨Or.inl (zz_c7 220 rfl rfl), (zz_c7 222 rfl rfl), (zz_s 106 (by decide +kernel) (by decide +kernel)), y_X10_isChanged⟩
theorem lX10_452 : zz_LV RX10 452 mX10_pairAlike 0 := ⟨Or.inl (zz_c7 235 rfl rfl), (zz_c7 237 rfl rfl), (zz_s 107 (by decide +kernel) (by decide +kernel)), y_X10_pairAlike⟩
theorem lX10_455 : zz_LV RX10 455 mX10_whoBits 1 := ⟨Or.inl (zz_c8 31 rfl rfl), (zz_c8 33 rfl rfl), (zz_s 108 (by decide +kernel) (by decide +kernel)), y_X10_whoBits⟩
theorem lX10_458 : zz_LV RX10 458 mX10_apartAll 0 := ⟨Or.inl (zz_c8 51 rfl rfl), (zz_c8 53 rfl rfl), (zz_s 109 (by decide +kernel) (by decide +kernel)), y_X10_apartAll⟩
end
section
theorem zz_upc {v : Int32} {k : Nat} : upd (fun _ => v) k v = (fun _ => v) := by
  funext j
  unfold upd
  by_cases h : j = k
  · rw [if_pos h]
  · rw [if_neg h]
theorem zz_upn {f : Nat → Int32} {x : Int32} {n : Nat} (h : n < 2 ^ 31) : upd f (nI n).toNatClampNeg x = upd f n x := by rw [nI_clamp h]
theorem zz_uuu {f : Nat → Int32} {x y : Int32} {k : Nat} : upd (upd f k x) k y = upd f k y := by
  funext j
  unfold upd
  by_cases h : j = k
  · rw [if_pos h, if_pos h]
  · rw [if_neg h, if_neg h, if_neg h]
theorem zz_vun {f : Nat → Option Nat} {v n : Nat} (h : n < 2 ^ 31) : va_up f (nI n).toNatClampNeg (some v) = va_up f n (some v) := by rw [nI_clamp h]
theorem zz_dec {a : Nat} (h : 0 < a) : nI a + Int32.ofInt (-1) = nI (a - 1) := sb_m1 h
theorem zz_cpc {v : Int32} {a b n : Nat} : va_cpy (fun _ => v) (fun _ => v) a b n = (fun _ => v) := by
  funext j
  unfold va_cpy
  by_cases h : b ≤ j ∧ j < b + n
  · rw [if_pos h]
  · rw [if_neg h]
theorem zz_le {a b : Nat} {x y : Int32} (hx : x = nI a) (hy : y = nI b) (ha : a < 2 ^ 31) (hb : b < 2 ^ 31) : x ≤ y ↔ a ≤ b := by rw [hx, hy]; exact nI_leI ha hb
theorem zz_lt {a b : Nat} {x y : Int32} (hx : x = nI a) (hy : y = nI b) (ha : a < 2 ^ 31) (hb : b < 2 ^ 31) : x < y ↔ a < b := by rw [hx, hy]; exact nI_ltI ha hb
theorem zz_eq {a b : Nat} {x y : Int32} (hx : x = nI a) (hy : y = nI b) (ha : a < 2 ^ 31) (hb : b < 2 ^ 31) : x = y ↔ a = b := by rw [hx, hy]; exact nI_eq ha hb
def zz_lu : List (Nat × Int32) → Nat → Int32 → Int32
  | [], _, d => d
  | (j, x) :: t, k, d => if j = k then x else zz_lu t k d
def zz_mo (r : Nat → Nat) (u : List (Nat × Int32)) : List Value := [.int (zz_lu u 0 0), .ref (r 1), .int (zz_lu u 2 0), .ref (r 3), .int (zz_lu u 4 0), .ref (r 5), .ref (r 6), .ref (r 7), .ref (r 8), .ref (r 9), .int (zz_lu u 10 0), .int (zz_lu u 11 0), .int (zz_lu u 12 0), .int (zz_lu u 13 0), .int (zz_lu u 14 0), .int (zz_lu u 15 0), .int (zz_lu u 16 0), .int (zz_lu u 17 (-1)), .int (zz_lu u 18 0), .int (zz_lu u 19 0), .int (zz_lu u 20 0), .ref (r 21), .ref (r 22), .ref (r 23), .ref (r 24), .ref (r 25), .ref (r 26), .ref (r 27), .ref (r 28), .ref (r 29), .ref (r 30), .ref (r 31), .ref (r 32), .ref (r 33), .int (zz_lu u 34 0), .ref (r 35), .ref (r 36), .ref (r 37), .ref (r 38), .ref (r 39), .int (zz_lu u 40 0), .ref (r 41), .ref (r 42), .ref (r 43), .int (zz_lu u 44 0), .ref (r 45), .ref (r 46), .int (zz_lu u 47 0), .ref (r 48), .ref (r 49), .int (zz_lu u 50 0), .int (zz_lu u 51 0), .ref (r 52), .ref (r 53), .ref (r 54), .ref (r 55), .int (zz_lu u 56 0), .ref (r 57), .ref (r 58), .ref (r 59), .ref (r 60), .int (zz_lu u 61 0), .ref (r 62), .ref (r 63), .ref (r 64), .ref (r 65), .ref (r 66)]
theorem zz_ar0 : Cond.arrayClass (newarray.typeOf .int) ∈ zz_T := (zz_c1 58 rfl rfl)
theorem zz_ar1 : Cond.arrayClass (newarray.typeOf .byte) ∈ zz_T := (zz_c1 57 rfl rfl)
theorem zz_ar2 : Cond.arrayClass (newarray.typeOf .boolean) ∈ zz_T := (zz_c2 87 rfl rfl)
theorem zz_ar3 : Cond.arrayClass (newarray.typeOf .long) ∈ zz_T := (zz_c1 59 rfl rfl)
def zz_dX0 : List Value := [.null, .null, .int 0, .int 0]
theorem dfX0 : ∀ j, j < 4 → defaultValue (tyX0 j) = vp_V zz_dX0 j := fun j hj => by
  rcases (show j = 0 ∨ j = 1 ∨ j = 2 ∨ j = 3 by omega) with rfl | rfl | rfl | rfl <;> rfl
def zz_dX1 : List Value := [.null, .null, .null, .int 0, .int 0]
theorem dfX1 : ∀ j, j < 5 → defaultValue (tyX1 j) = vp_V zz_dX1 j := fun j hj => by
  rcases (show j = 0 ∨ j = 1 ∨ j = 2 ∨ j = 3 ∨ j = 4 by omega) with rfl | rfl | rfl | rfl | rfl <;> rfl
def zz_dX2 : List Value := [.null, .null, .null, .int 0, .int 0]
theorem dfX2 : ∀ j, j < 5 → defaultValue (tyX2 j) = vp_V zz_dX2 j := fun j hj => by
  rcases (show j = 0 ∨ j = 1 ∨ j = 2 ∨ j = 3 ∨ j = 4 by omega) with rfl | rfl | rfl | rfl | rfl <;> rfl
def zz_dX3 : List Value := [.null, .int 0, .int 0]
theorem dfX3 : ∀ j, j < 3 → defaultValue (tyX3 j) = vp_V zz_dX3 j := fun j hj => by
  rcases (show j = 0 ∨ j = 1 ∨ j = 2 by omega) with rfl | rfl | rfl <;> rfl
def zz_dX4 : List Value := [.null, .null, .int 0, .int 0, .int 0, .int 0, .int 0, .int 0]
theorem dfX4 : ∀ j, j < 8 → defaultValue (tyX4 j) = vp_V zz_dX4 j := fun j hj => by
  rcases (show j = 0 ∨ j = 1 ∨ j = 2 ∨ j = 3 ∨ j = 4 ∨ j = 5 ∨ j = 6 ∨ j = 7 by omega) with rfl | rfl | rfl | rfl | rfl | rfl | rfl | rfl <;> rfl
def zz_dX5 : List Value := [.null, .null, .null, .null, .null, .null, .null, .null, .null, .int 0, .int 0, .int 0, .int 0]
theorem dfX5 : ∀ j, j < 13 → defaultValue (tyX5 j) = vp_V zz_dX5 j := fun j hj => by
  rcases (show j = 0 ∨ j = 1 ∨ j = 2 ∨ j = 3 ∨ j = 4 ∨ j = 5 ∨ j = 6 ∨ j = 7 ∨ j = 8 ∨ j = 9 ∨ j = 10 ∨ j = 11 ∨ j = 12 by omega) with rfl | rfl | rfl | rfl | rfl | rfl | rfl | rfl | rfl | rfl | rfl | rfl | rfl <;> rfl
def zz_dX6 : List Value := [.null, .null, .null, .null, .int 0, .int 0, .int 0]
theorem dfX6 : ∀ j, j < 7 → defaultValue (tyX6 j) = vp_V zz_dX6 j := fun j hj => by
  rcases (show j = 0 ∨ j = 1 ∨ j = 2 ∨ j = 3 ∨ j = 4 ∨ j = 5 ∨ j = 6 by omega) with rfl | rfl | rfl | rfl | rfl | rfl | rfl <;> rfl
def zz_dX7 : List Value := [.null, .null, .null, .null]
theorem dfX7 : ∀ j, j < 4 → defaultValue (tyX7 j) = vp_V zz_dX7 j := fun j hj => by
  rcases (show j = 0 ∨ j = 1 ∨ j = 2 ∨ j = 3 by omega) with rfl | rfl | rfl | rfl <;> rfl
def zz_dX8 : List Value := [.null, .null, .null, .int 0]
theorem dfX8 : ∀ j, j < 4 → defaultValue (tyX8 j) = vp_V zz_dX8 j := fun j hj => by
  rcases (show j = 0 ∨ j = 1 ∨ j = 2 ∨ j = 3 by omega) with rfl | rfl | rfl | rfl <;> rfl
def zz_dX9 : List Value := [.null, .int 0, .null, .int 0, .null, .null, .null, .null, .null, .null, .null, .null, .null, .null]
theorem dfX9 : ∀ j, j < 14 → defaultValue (tyX9 j) = vp_V zz_dX9 j := fun j hj => by
  rcases (show j = 0 ∨ j = 1 ∨ j = 2 ∨ j = 3 ∨ j = 4 ∨ j = 5 ∨ j = 6 ∨ j = 7 ∨ j = 8 ∨ j = 9 ∨ j = 10 ∨ j = 11 ∨ j = 12 ∨ j = 13 by omega) with rfl | rfl | rfl | rfl | rfl | rfl | rfl | rfl | rfl | rfl | rfl | rfl | rfl | rfl <;> rfl
def zz_dX10 : List Value := [.int 0, .null, .int 0, .null, .int 0, .null, .null, .null, .null, .null, .int 0, .int 0, .int 0, .int 0, .int 0, .int 0, .int 0, .int 0, .int 0, .int 0, .int 0, .null, .null, .null, .null, .null, .null, .null, .null, .null, .null, .null, .null, .null, .int 0, .null, .null, .null, .null, .null, .int 0, .null, .null, .null, .int 0, .null, .null, .int 0, .null, .null, .int 0, .int 0, .null, .null, .null, .null, .int 0, .null, .null, .null, .null, .int 0, .null, .null, .null, .null, .null]
theorem dfX10 : ∀ j, j < 67 → defaultValue (tyX10 j) = vp_V zz_dX10 j := fun j hj => by
  rcases (show j = 0 ∨ j = 1 ∨ j = 2 ∨ j = 3 ∨ j = 4 ∨ j = 5 ∨ j = 6 ∨ j = 7 ∨ j = 8 ∨ j = 9 ∨ j = 10 ∨ j = 11 ∨ j = 12 ∨ j = 13 ∨ j = 14 ∨ j = 15 ∨ j = 16 ∨ j = 17 ∨ j = 18 ∨ j = 19 ∨ j = 20 ∨ j = 21 ∨ j = 22 ∨ j = 23 ∨ j = 24 ∨ j = 25 ∨ j = 26 ∨ j = 27 ∨ j = 28 ∨ j = 29 ∨ j = 30 ∨ j = 31 ∨ j = 32 ∨ j = 33 ∨ j = 34 ∨ j = 35 ∨ j = 36 ∨ j = 37 ∨ j = 38 ∨ j = 39 ∨ j = 40 ∨ j = 41 ∨ j = 42 ∨ j = 43 ∨ j = 44 ∨ j = 45 ∨ j = 46 ∨ j = 47 ∨ j = 48 ∨ j = 49 ∨ j = 50 ∨ j = 51 ∨ j = 52 ∨ j = 53 ∨ j = 54 ∨ j = 55 ∨ j = 56 ∨ j = 57 ∨ j = 58 ∨ j = 59 ∨ j = 60 ∨ j = 61 ∨ j = 62 ∨ j = 63 ∨ j = 64 ∨ j = 65 ∨ j = 66 by omega) with rfl | rfl | rfl | rfl | rfl | rfl | rfl | rfl | rfl | rfl | rfl | rfl | rfl | rfl | rfl | rfl | rfl | rfl | rfl | rfl | rfl | rfl | rfl | rfl | rfl | rfl | rfl | rfl | rfl | rfl | rfl | rfl | rfl | rfl | rfl | rfl | rfl | rfl | rfl | rfl | rfl | rfl | rfl | rfl | rfl | rfl | rfl | rfl | rfl | rfl | rfl | rfl | rfl | rfl | rfl | rfl | rfl | rfl | rfl | rfl | rfl | rfl | rfl | rfl | rfl | rfl | rfl <;> rfl
end
section
theorem dX6_init_0 : decode cX6_init 0 = .ok (.aload_n 0, 1) := by decide +kernel
theorem dX6_init_1 : decode cX6_init 1 = .ok (.invokespecial 3, 3) := by decide +kernel
theorem dX6_init_4 : decode cX6_init 4 = .ok (.aload_n 0, 1) := by decide +kernel
theorem dX6_init_5 : decode cX6_init 5 = .ok (.bipush 7, 2) := by decide +kernel
theorem dX6_init_7 : decode cX6_init 7 = .ok (.newarray .int, 2) := by decide +kernel
theorem dX6_init_9 : decode cX6_init 9 = .ok (.putfield 9, 3) := by decide +kernel
theorem dX6_init_12 : decode cX6_init 12 = .ok (.aload_n 0, 1) := by decide +kernel
theorem dX6_init_13 : decode cX6_init 13 = .ok (.bipush 6, 2) := by decide +kernel
theorem dX6_init_15 : decode cX6_init 15 = .ok (.newarray .int, 2) := by decide +kernel
theorem dX6_init_17 : decode cX6_init 17 = .ok (.putfield 15, 3) := by decide +kernel
theorem dX6_init_20 : decode cX6_init 20 = .ok (.aload_n 0, 1) := by decide +kernel
theorem dX6_init_21 : decode cX6_init 21 = .ok (.bipush 7, 2) := by decide +kernel
theorem dX6_init_23 : decode cX6_init 23 = .ok (.newarray .int, 2) := by decide +kernel
theorem dX6_init_25 : decode cX6_init 25 = .ok (.putfield 18, 3) := by decide +kernel
theorem dX6_init_28 : decode cX6_init 28 = .ok (.aload_n 0, 1) := by decide +kernel
theorem dX6_init_29 : decode cX6_init 29 = .ok (.bipush 42, 2) := by decide +kernel
theorem dX6_init_31 : decode cX6_init 31 = .ok (.newarray .int, 2) := by decide +kernel
theorem dX6_init_33 : decode cX6_init 33 = .ok (.putfield 21, 3) := by decide +kernel
theorem dX6_init_36 : decode cX6_init 36 = .ok (.aload_n 0, 1) := by decide +kernel
theorem dX6_init_37 : decode cX6_init 37 = .ok (.iconst 0, 1) := by decide +kernel
theorem dX6_init_38 : decode cX6_init 38 = .ok (.putfield 24, 3) := by decide +kernel
theorem dX6_init_41 : decode cX6_init 41 = .ok (.aload_n 0, 1) := by decide +kernel
theorem dX6_init_42 : decode cX6_init 42 = .ok (.iconst 0, 1) := by decide +kernel
theorem dX6_init_43 : decode cX6_init 43 = .ok (.putfield 28, 3) := by decide +kernel
theorem dX6_init_46 : decode cX6_init 46 = .ok (.aload_n 0, 1) := by decide +kernel
theorem dX6_init_47 : decode cX6_init 47 = .ok (.iconst 0, 1) := by decide +kernel
theorem dX6_init_48 : decode cX6_init 48 = .ok (.putfield 31, 3) := by decide +kernel
theorem dX6_init_51 : decode cX6_init 51 = .ok (.return_, 1) := by decide +kernel
set_option maxHeartbeats 4000000 in
set_option maxRecDepth 100000 in
theorem c_State_init (l : Launch) (G : zz_G) (h0 : Nat) : zz_M l G mX6_init 1 4 62 [.ref h0] [(h0, .inr (6, [.null, .null, .null, .null, .int 0, .int 0, .int 0]))] (fun rr u => ∃ (a1 : Nat), ∃ (a2 : Nat), ∃ (a3 : Nat), ∃ (a4 : Nat), rr = none ∧ u = [(h0, .inr (6, [.ref a1, .ref a2, .ref a3, .ref a4, .int 0, .int 0, .int 0])), (a1, .inl (G.2 0, 7, .inl (fun _ => 0))), (a2, .inl (G.2 0, 6, .inl (fun _ => 0))), (a3, .inl (G.2 0, 7, .inl (fun _ => 0))), (a4, .inl (G.2 0, 42, .inl (fun _ => 0)))]) := by
  refine zz_enterv (by decide +kernel) (Nat.le_of_ble_eq_true rfl) ?_
  intro p e s m args below meth c A Q ls S hnm hret hw hl
  have hl : lv_has ls 1 [(0, .ref h0)] := hl
  have hx := S.1
  have hb := S.2.1
  refine lv_aload_n hx hb dX6_init_0 rfl (lv_at hl 0 rfl) ?_
  refine zz_obj S (zz_c1 207 rfl rfl) hl.1 dX6_init_1 (Nat.le_of_ble_eq_true rfl) (Nat.le_of_ble_eq_true rfl) ?_
  refine lv_aload_n hx hb dX6_init_4 rfl (lv_at hl 0 rfl) ?_
  refine lv_bipush (v := 7) hx hb dX6_init_5 (by decide) ?_
  refine zz_newa (at_ := .int) (a0 := (7, .inl (fun _ => 0))) 0 S hw zz_ar0 rfl rfl (fun _ _ h => h) (fun _ => rfl) (by decide) (nI_clamp (n := 7) (by decide)) (by decide) (Nat.le_of_ble_eq_true rfl) (Nat.le_of_ble_eq_true rfl) dX6_init_7 (fun q1 H hw => ?_)
  have hw : zz_w G A s [(h0, .inr (6, [.null, .null, .null, .null, .int 0, .int 0, .int 0])), (q1, .inl (G.2 0, 7, .inl (fun _ => 0)))] H _ := hw
  refine zz_putF (ws' := [(h0, .inr (6, [.ref q1, .null, .null, .null, .int 0, .int 0, .int 0])), (q1, .inl (G.2 0, 7, .inl (fun _ => 0)))]) (v := .ref q1) S hnm hw fpX6_9 0 rfl rfl rfl (Nat.le_of_ble_eq_true rfl) rfl dX6_init_9 (fun H locs hw => ?_)
  refine lv_aload_n hx hb dX6_init_12 rfl (lv_at hl 0 rfl) ?_
  refine lv_bipush (v := 6) hx hb dX6_init_13 (by decide) ?_
  refine zz_newa (at_ := .int) (a0 := (6, .inl (fun _ => 0))) 0 S hw zz_ar0 rfl rfl (fun _ _ h => h) (fun _ => rfl) (by decide) (nI_clamp (n := 6) (by decide)) (by decide) (Nat.le_of_ble_eq_true rfl) (Nat.le_of_ble_eq_true rfl) dX6_init_15 (fun q2 H hw => ?_)
  have hw : zz_w G A s [(h0, .inr (6, [.ref q1, .null, .null, .null, .int 0, .int 0, .int 0])), (q1, .inl (G.2 0, 7, .inl (fun _ => 0))), (q2, .inl (G.2 0, 6, .inl (fun _ => 0)))] H _ := hw
  refine zz_putF (ws' := [(h0, .inr (6, [.ref q1, .ref q2, .null, .null, .int 0, .int 0, .int 0])), (q1, .inl (G.2 0, 7, .inl (fun _ => 0))), (q2, .inl (G.2 0, 6, .inl (fun _ => 0)))]) (v := .ref q2) S hnm hw fpX6_15 0 rfl rfl rfl (Nat.le_of_ble_eq_true rfl) rfl dX6_init_17 (fun H locs hw => ?_)
  refine lv_aload_n hx hb dX6_init_20 rfl (lv_at hl 0 rfl) ?_
  refine lv_bipush (v := 7) hx hb dX6_init_21 (by decide) ?_
  refine zz_newa (at_ := .int) (a0 := (7, .inl (fun _ => 0))) 0 S hw zz_ar0 rfl rfl (fun _ _ h => h) (fun _ => rfl) (by decide) (nI_clamp (n := 7) (by decide)) (by decide) (Nat.le_of_ble_eq_true rfl) (Nat.le_of_ble_eq_true rfl) dX6_init_23 (fun q3 H hw => ?_)
  have hw : zz_w G A s [(h0, .inr (6, [.ref q1, .ref q2, .null, .null, .int 0, .int 0, .int 0])), (q1, .inl (G.2 0, 7, .inl (fun _ => 0))), (q2, .inl (G.2 0, 6, .inl (fun _ => 0))), (q3, .inl (G.2 0, 7, .inl (fun _ => 0)))] H _ := hw
  refine zz_putF (ws' := [(h0, .inr (6, [.ref q1, .ref q2, .ref q3, .null, .int 0, .int 0, .int 0])), (q1, .inl (G.2 0, 7, .inl (fun _ => 0))), (q2, .inl (G.2 0, 6, .inl (fun _ => 0))), (q3, .inl (G.2 0, 7, .inl (fun _ => 0)))]) (v := .ref q3) S hnm hw fpX6_18 0 rfl rfl rfl (Nat.le_of_ble_eq_true rfl) rfl dX6_init_25 (fun H locs hw => ?_)
  refine lv_aload_n hx hb dX6_init_28 rfl (lv_at hl 0 rfl) ?_
  refine lv_bipush (v := 42) hx hb dX6_init_29 (by decide) ?_
  refine zz_newa (at_ := .int) (a0 := (42, .inl (fun _ => 0))) 0 S hw zz_ar0 rfl rfl (fun _ _ h => h) (fun _ => rfl) (by decide) (nI_clamp (n := 42) (by decide)) (by decide) (Nat.le_of_ble_eq_true rfl) (Nat.le_of_ble_eq_true rfl) dX6_init_31 (fun q4 H hw => ?_)
  have hw : zz_w G A s [(h0, .inr (6, [.ref q1, .ref q2, .ref q3, .null, .int 0, .int 0, .int 0])), (q1, .inl (G.2 0, 7, .inl (fun _ => 0))), (q2, .inl (G.2 0, 6, .inl (fun _ => 0))), (q3, .inl (G.2 0, 7, .inl (fun _ => 0))), (q4, .inl (G.2 0, 42, .inl (fun _ => 0)))] H _ := hw
  refine zz_putF (ws' := [(h0, .inr (6, [.ref q1, .ref q2, .ref q3, .ref q4, .int 0, .int 0, .int 0])), (q1, .inl (G.2 0, 7, .inl (fun _ => 0))), (q2, .inl (G.2 0, 6, .inl (fun _ => 0))), (q3, .inl (G.2 0, 7, .inl (fun _ => 0))), (q4, .inl (G.2 0, 42, .inl (fun _ => 0)))]) (v := .ref q4) S hnm hw fpX6_21 0 rfl rfl rfl (Nat.le_of_ble_eq_true rfl) rfl dX6_init_33 (fun H locs hw => ?_)
  refine lv_aload_n hx hb dX6_init_36 rfl (lv_at hl 0 rfl) ?_
  refine lv_iconst (v := 0) hx hb dX6_init_37 (by decide) ?_
  refine zz_put (ws' := [(h0, .inr (6, [.ref q1, .ref q2, .ref q3, .ref q4, .int 0, .int 0, .int 0])), (q1, .inl (G.2 0, 7, .inl (fun _ => 0))), (q2, .inl (G.2 0, 6, .inl (fun _ => 0))), (q3, .inl (G.2 0, 7, .inl (fun _ => 0))), (q4, .inl (G.2 0, 42, .inl (fun _ => 0)))]) (v := .int 0) S hw fpX6_24 0 rfl rfl rfl (Nat.le_of_ble_eq_true rfl) rfl dX6_init_38 (fun H locs hw => ?_)
  refine lv_aload_n hx hb dX6_init_41 rfl (lv_at hl 0 rfl) ?_
  refine lv_iconst (v := 0) hx hb dX6_init_42 (by decide) ?_
  refine zz_put (ws' := [(h0, .inr (6, [.ref q1, .ref q2, .ref q3, .ref q4, .int 0, .int 0, .int 0])), (q1, .inl (G.2 0, 7, .inl (fun _ => 0))), (q2, .inl (G.2 0, 6, .inl (fun _ => 0))), (q3, .inl (G.2 0, 7, .inl (fun _ => 0))), (q4, .inl (G.2 0, 42, .inl (fun _ => 0)))]) (v := .int 0) S hw fpX6_28 0 rfl rfl rfl (Nat.le_of_ble_eq_true rfl) rfl dX6_init_43 (fun H locs hw => ?_)
  refine lv_aload_n hx hb dX6_init_46 rfl (lv_at hl 0 rfl) ?_
  refine lv_iconst (v := 0) hx hb dX6_init_47 (by decide) ?_
  refine zz_put (ws' := [(h0, .inr (6, [.ref q1, .ref q2, .ref q3, .ref q4, .int 0, .int 0, .int 0])), (q1, .inl (G.2 0, 7, .inl (fun _ => 0))), (q2, .inl (G.2 0, 6, .inl (fun _ => 0))), (q3, .inl (G.2 0, 7, .inl (fun _ => 0))), (q4, .inl (G.2 0, 42, .inl (fun _ => 0)))]) (v := .int 0) S hw fpX6_31 0 rfl rfl rfl (Nat.le_of_ble_eq_true rfl) rfl dX6_init_48 (fun H locs hw => ?_)
  refine W.widen (k := 4) (n := 62) (by omega) (by omega) ?_
  exact hret _ _ _ _ _ ⟨q1, q2, q3, q4, rfl, rfl⟩ hw dX6_init_51
theorem dX2_init_0 : decode cX2_init 0 = .ok (.aload_n 0, 1) := by decide +kernel
theorem dX2_init_1 : decode cX2_init 1 = .ok (.invokespecial 1, 3) := by decide +kernel
theorem dX2_init_4 : decode cX2_init 4 = .ok (.aload_n 0, 1) := by decide +kernel
theorem dX2_init_5 : decode cX2_init 5 = .ok (.sipush 400, 3) := by decide +kernel
theorem dX2_init_8 : decode cX2_init 8 = .ok (.newarray .int, 2) := by decide +kernel
theorem dX2_init_10 : decode cX2_init 10 = .ok (.putfield 9, 3) := by decide +kernel
theorem dX2_init_13 : decode cX2_init 13 = .ok (.aload_n 0, 1) := by decide +kernel
theorem dX2_init_14 : decode cX2_init 14 = .ok (.bipush 14, 2) := by decide +kernel
theorem dX2_init_16 : decode cX2_init 16 = .ok (.newarray .int, 2) := by decide +kernel
theorem dX2_init_18 : decode cX2_init 18 = .ok (.putfield 13, 3) := by decide +kernel
theorem dX2_init_21 : decode cX2_init 21 = .ok (.aload_n 0, 1) := by decide +kernel
theorem dX2_init_22 : decode cX2_init 22 = .ok (.bipush 32, 2) := by decide +kernel
theorem dX2_init_24 : decode cX2_init 24 = .ok (.newarray .int, 2) := by decide +kernel
theorem dX2_init_26 : decode cX2_init 26 = .ok (.putfield 16, 3) := by decide +kernel
theorem dX2_init_29 : decode cX2_init 29 = .ok (.aload_n 0, 1) := by decide +kernel
theorem dX2_init_30 : decode cX2_init 30 = .ok (.iconst 0, 1) := by decide +kernel
theorem dX2_init_31 : decode cX2_init 31 = .ok (.putfield 19, 3) := by decide +kernel
theorem dX2_init_34 : decode cX2_init 34 = .ok (.aload_n 0, 1) := by decide +kernel
theorem dX2_init_35 : decode cX2_init 35 = .ok (.iconst 0, 1) := by decide +kernel
theorem dX2_init_36 : decode cX2_init 36 = .ok (.putfield 23, 3) := by decide +kernel
theorem dX2_init_39 : decode cX2_init 39 = .ok (.return_, 1) := by decide +kernel
set_option maxHeartbeats 4000000 in
set_option maxRecDepth 100000 in
theorem c_Law_init (l : Launch) (G : zz_G) (h0 : Nat) : zz_M l G mX2_init 1 3 446 [.ref h0] [(h0, .inr (2, [.null, .null, .null, .int 0, .int 0]))] (fun rr u => ∃ (a1 : Nat), ∃ (a2 : Nat), ∃ (a3 : Nat), rr = none ∧ u = [(h0, .inr (2, [.ref a1, .ref a2, .ref a3, .int 0, .int 0])), (a1, .inl (G.2 0, 400, .inl (fun _ => 0))), (a2, .inl (G.2 0, 14, .inl (fun _ => 0))), (a3, .inl (G.2 0, 32, .inl (fun _ => 0)))]) := by
  refine zz_enterv (by decide +kernel) (Nat.le_of_ble_eq_true rfl) ?_
  intro p e s m args below meth c A Q ls S hnm hret hw hl
  have hl : lv_has ls 1 [(0, .ref h0)] := hl
  have hx := S.1
  have hb := S.2.1
  refine lv_aload_n hx hb dX2_init_0 rfl (lv_at hl 0 rfl) ?_
  refine zz_obj S (zz_c1 98 rfl rfl) hl.1 dX2_init_1 (Nat.le_of_ble_eq_true rfl) (Nat.le_of_ble_eq_true rfl) ?_
  refine lv_aload_n hx hb dX2_init_4 rfl (lv_at hl 0 rfl) ?_
  refine lv_sipush (v := 400) hx hb dX2_init_5 (by decide) ?_
  refine zz_newa (at_ := .int) (a0 := (400, .inl (fun _ => 0))) 0 S hw zz_ar0 rfl rfl (fun _ _ h => h) (fun _ => rfl) (by decide) (nI_clamp (n := 400) (by decide)) (by decide) (Nat.le_of_ble_eq_true rfl) (Nat.le_of_ble_eq_true rfl) dX2_init_8 (fun q1 H hw => ?_)
  have hw : zz_w G A s [(h0, .inr (2, [.null, .null, .null, .int 0, .int 0])), (q1, .inl (G.2 0, 400, .inl (fun _ => 0)))] H _ := hw
  refine zz_putF (ws' := [(h0, .inr (2, [.ref q1, .null, .null, .int 0, .int 0])), (q1, .inl (G.2 0, 400, .inl (fun _ => 0)))]) (v := .ref q1) S hnm hw fpX2_9 0 rfl rfl rfl (Nat.le_of_ble_eq_true rfl) rfl dX2_init_10 (fun H locs hw => ?_)
  refine lv_aload_n hx hb dX2_init_13 rfl (lv_at hl 0 rfl) ?_
  refine lv_bipush (v := 14) hx hb dX2_init_14 (by decide) ?_
  refine zz_newa (at_ := .int) (a0 := (14, .inl (fun _ => 0))) 0 S hw zz_ar0 rfl rfl (fun _ _ h => h) (fun _ => rfl) (by decide) (nI_clamp (n := 14) (by decide)) (by decide) (Nat.le_of_ble_eq_true rfl) (Nat.le_of_ble_eq_true rfl) dX2_init_16 (fun q2 H hw => ?_)
  have hw : zz_w G A s [(h0, .inr (2, [.ref q1, .null, .null, .int 0, .int 0])), (q1, .inl (G.2 0, 400, .inl (fun _ => 0))), (q2, .inl (G.2 0, 14, .inl (fun _ => 0)))] H _ := hw
  refine zz_putF (ws' := [(h0, .inr (2, [.ref q1, .ref q2, .null, .int 0, .int 0])), (q1, .inl (G.2 0, 400, .inl (fun _ => 0))), (q2, .inl (G.2 0, 14, .inl (fun _ => 0)))]) (v := .ref q2) S hnm hw fpX2_13 0 rfl rfl rfl (Nat.le_of_ble_eq_true rfl) rfl dX2_init_18 (fun H locs hw => ?_)
  refine lv_aload_n hx hb dX2_init_21 rfl (lv_at hl 0 rfl) ?_
  refine lv_bipush (v := 32) hx hb dX2_init_22 (by decide) ?_
  refine zz_newa (at_ := .int) (a0 := (32, .inl (fun _ => 0))) 0 S hw zz_ar0 rfl rfl (fun _ _ h => h) (fun _ => rfl) (by decide) (nI_clamp (n := 32) (by decide)) (by decide) (Nat.le_of_ble_eq_true rfl) (Nat.le_of_ble_eq_true rfl) dX2_init_24 (fun q3 H hw => ?_)
  have hw : zz_w G A s [(h0, .inr (2, [.ref q1, .ref q2, .null, .int 0, .int 0])), (q1, .inl (G.2 0, 400, .inl (fun _ => 0))), (q2, .inl (G.2 0, 14, .inl (fun _ => 0))), (q3, .inl (G.2 0, 32, .inl (fun _ => 0)))] H _ := hw
  refine zz_putF (ws' := [(h0, .inr (2, [.ref q1, .ref q2, .ref q3, .int 0, .int 0])), (q1, .inl (G.2 0, 400, .inl (fun _ => 0))), (q2, .inl (G.2 0, 14, .inl (fun _ => 0))), (q3, .inl (G.2 0, 32, .inl (fun _ => 0)))]) (v := .ref q3) S hnm hw fpX2_16 0 rfl rfl rfl (Nat.le_of_ble_eq_true rfl) rfl dX2_init_26 (fun H locs hw => ?_)
  refine lv_aload_n hx hb dX2_init_29 rfl (lv_at hl 0 rfl) ?_
  refine lv_iconst (v := 0) hx hb dX2_init_30 (by decide) ?_
  refine zz_put (ws' := [(h0, .inr (2, [.ref q1, .ref q2, .ref q3, .int 0, .int 0])), (q1, .inl (G.2 0, 400, .inl (fun _ => 0))), (q2, .inl (G.2 0, 14, .inl (fun _ => 0))), (q3, .inl (G.2 0, 32, .inl (fun _ => 0)))]) (v := .int 0) S hw fpX2_19 0 rfl rfl rfl (Nat.le_of_ble_eq_true rfl) rfl dX2_init_31 (fun H locs hw => ?_)
  refine lv_aload_n hx hb dX2_init_34 rfl (lv_at hl 0 rfl) ?_
  refine lv_iconst (v := 0) hx hb dX2_init_35 (by decide) ?_
  refine zz_put (ws' := [(h0, .inr (2, [.ref q1, .ref q2, .ref q3, .int 0, .int 0])), (q1, .inl (G.2 0, 400, .inl (fun _ => 0))), (q2, .inl (G.2 0, 14, .inl (fun _ => 0))), (q3, .inl (G.2 0, 32, .inl (fun _ => 0)))]) (v := .int 0) S hw fpX2_23 0 rfl rfl rfl (Nat.le_of_ble_eq_true rfl) rfl dX2_init_36 (fun H locs hw => ?_)
  refine W.widen (k := 3) (n := 446) (by omega) (by omega) ?_
  exact hret _ _ _ _ _ ⟨q1, q2, q3, rfl, rfl⟩ hw dX2_init_39
theorem dX2_clear_0 : decode cX2_clear 0 = .ok (.aload_n 0, 1) := by decide +kernel
theorem dX2_clear_1 : decode cX2_clear 1 = .ok (.iconst 0, 1) := by decide +kernel
theorem dX2_clear_2 : decode cX2_clear 2 = .ok (.putfield 19, 3) := by decide +kernel
theorem dX2_clear_5 : decode cX2_clear 5 = .ok (.aload_n 0, 1) := by decide +kernel
theorem dX2_clear_6 : decode cX2_clear 6 = .ok (.iconst 0, 1) := by decide +kernel
theorem dX2_clear_7 : decode cX2_clear 7 = .ok (.putfield 23, 3) := by decide +kernel
theorem dX2_clear_10 : decode cX2_clear 10 = .ok (.return_, 1) := by decide +kernel
set_option maxHeartbeats 4000000 in
set_option maxRecDepth 100000 in
theorem c_Law_clear (l : Launch) (G : zz_G) (h0 : Nat) (a1 : Nat) (a2 : Nat) (a3 : Nat) (su : Int32) (us : Int32) : zz_M l G mX2_clear 0 0 0 [.ref h0] [(h0, .inr (2, [.ref a1, .ref a2, .ref a3, .int su, .int us]))] (fun rr u => rr = none ∧ u = [(h0, .inr (2, [.ref a1, .ref a2, .ref a3, .int 0, .int 0]))]) := by
  refine zz_enterv (by decide +kernel) (Nat.le_of_ble_eq_true rfl) ?_
  intro p e s m args below meth c A Q ls S hnm hret hw hl
  have hl : lv_has ls 1 [(0, .ref h0)] := hl
  have hx := S.1
  have hb := S.2.1
  refine lv_aload_n hx hb dX2_clear_0 rfl (lv_at hl 0 rfl) ?_
  refine lv_iconst (v := 0) hx hb dX2_clear_1 (by decide) ?_
  refine zz_put (ws' := [(h0, .inr (2, [.ref a1, .ref a2, .ref a3, .int 0, .int us]))]) (v := .int 0) S hw fpX2_19 0 rfl rfl rfl (Nat.le_of_ble_eq_true rfl) rfl dX2_clear_2 (fun H locs hw => ?_)
  refine lv_aload_n hx hb dX2_clear_5 rfl (lv_at hl 0 rfl) ?_
  refine lv_iconst (v := 0) hx hb dX2_clear_6 (by decide) ?_
  refine zz_put (ws' := [(h0, .inr (2, [.ref a1, .ref a2, .ref a3, .int 0, .int 0]))]) (v := .int 0) S hw fpX2_23 0 rfl rfl rfl (Nat.le_of_ble_eq_true rfl) rfl dX2_clear_7 (fun H locs hw => ?_)
  exact hret _ _ _ _ _ ⟨rfl, rfl⟩ hw dX2_clear_10
theorem dX2_put_0 : decode cX2_put 0 = .ok (.aload_n 0, 1) := by decide +kernel
theorem dX2_put_1 : decode cX2_put 1 = .ok (.getfield 23, 3) := by decide +kernel
theorem dX2_put_4 : decode cX2_put 4 = .ok (.sipush 400, 3) := by decide +kernel
theorem dX2_put_7 : decode cX2_put 7 = .ok (.if_icmp .ge 23, 3) := by decide +kernel
theorem dX2_put_10 : decode cX2_put 10 = .ok (.aload_n 0, 1) := by decide +kernel
theorem dX2_put_11 : decode cX2_put 11 = .ok (.getfield 9, 3) := by decide +kernel
theorem dX2_put_14 : decode cX2_put 14 = .ok (.aload_n 0, 1) := by decide +kernel
theorem dX2_put_15 : decode cX2_put 15 = .ok (.getfield 23, 3) := by decide +kernel
theorem dX2_put_18 : decode cX2_put 18 = .ok (.iload_n 1, 1) := by decide +kernel
theorem dX2_put_19 : decode cX2_put 19 = .ok (.iastore, 1) := by decide +kernel
theorem dX2_put_20 : decode cX2_put 20 = .ok (.aload_n 0, 1) := by decide +kernel
theorem dX2_put_21 : decode cX2_put 21 = .ok (.dup, 1) := by decide +kernel
theorem dX2_put_22 : decode cX2_put 22 = .ok (.getfield 23, 3) := by decide +kernel
theorem dX2_put_25 : decode cX2_put 25 = .ok (.iconst 1, 1) := by decide +kernel
theorem dX2_put_26 : decode cX2_put 26 = .ok (.iadd, 1) := by decide +kernel
theorem dX2_put_27 : decode cX2_put 27 = .ok (.putfield 23, 3) := by decide +kernel
theorem dX2_put_30 : decode cX2_put 30 = .ok (.return_, 1) := by decide +kernel
set_option maxHeartbeats 4000000 in
set_option maxRecDepth 100000 in
theorem c_Law_put (l : Launch) (G : zz_G) (h0 : Nat) (a1 : Nat) (a2 : Nat) (a3 : Nat) (su : Int32) (n : Nat) (st : Int32) (f : Nat → Int32) (hn : n < 400) : zz_M l G mX2_put 0 0 0 [.ref h0, .int st] [(h0, .inr (2, [.ref a1, .ref a2, .ref a3, .int su, .int (nI n)])), (a1, .inl (G.2 0, 400, .inl f))] (fun rr u => rr = none ∧ u = [(h0, .inr (2, [.ref a1, .ref a2, .ref a3, .int su, .int (nI (n + 1))])), (a1, .inl (G.2 0, 400, .inl (upd f n st)))]) := by
  refine zz_enterv (by decide +kernel) (Nat.le_of_ble_eq_true rfl) ?_
  intro p e s m args below meth c A Q ls S hnm hret hw hl
  have hl : lv_has ls 2 [(0, .ref h0), (1, .int st)] := hl
  have hx := S.1
  have hb := S.2.1
  refine lv_aload_n hx hb dX2_put_0 rfl (lv_at hl 0 rfl) ?_
  refine zz_get (v := .int (nI n)) S hw fgX2_23 0 rfl rfl dX2_put_1 ?_
  refine lv_sipush (v := 400) hx hb dX2_put_4 (by decide) ?_
  refine lv_icmp_ge (tgt := 30) hx hb dX2_put_7 (by decide) (fun cc => absurd ((zz_le (a := 400) (b := n) rfl rfl (by omega) (by omega)).mp cc) (by omega)) (fun _ => ?_)
  refine lv_aload_n hx hb dX2_put_10 rfl (lv_at hl 0 rfl) ?_
  refine zz_get (v := .ref a1) S hw fgX2_9 0 rfl rfl dX2_put_11 ?_
  refine lv_aload_n hx hb dX2_put_14 rfl (lv_at hl 0 rfl) ?_
  refine zz_get (v := .int (nI n)) S hw fgX2_23 0 rfl rfl dX2_put_15 ?_
  refine lv_iload_n hx hb dX2_put_18 rfl (lv_at hl 1 rfl) ?_
  refine zz_iast (ws' := [(h0, .inr (2, [.ref a1, .ref a2, .ref a3, .int su, .int (nI n)])), (a1, .inl (G.2 0, 400, .inl (upd f n st)))]) (g := (upd f n st)) S hw 1 rfl (vp_in_nI (n := n) (by omega) (by decide)) (zz_upn (n := n) (by omega)) rfl dX2_put_19 (fun H locs hw => ?_)
  refine lv_aload_n hx hb dX2_put_20 rfl (lv_at hl 0 rfl) ?_
  refine lv_dup hx hb dX2_put_21 rfl ?_
  refine zz_get (v := .int (nI n)) S hw fgX2_23 0 rfl rfl dX2_put_22 ?_
  refine lv_iconst (v := 1) hx hb dX2_put_25 (by decide) ?_
  refine lv_iadd hx hb dX2_put_26 ?_
  refine zz_topi (y := (nI (n + 1))) (nI_add _ _) ?_
  refine zz_put (ws' := [(h0, .inr (2, [.ref a1, .ref a2, .ref a3, .int su, .int (nI (n + 1))])), (a1, .inl (G.2 0, 400, .inl (upd f n st)))]) (v := .int (nI (n + 1))) S hw fpX2_23 0 rfl rfl rfl (Nat.le_of_ble_eq_true rfl) rfl dX2_put_27 (fun H locs hw => ?_)
  exact hret _ _ _ _ _ ⟨rfl, rfl⟩ hw dX2_put_30
theorem dX2_endSum_0 : decode cX2_endSum 0 = .ok (.aload_n 0, 1) := by decide +kernel
theorem dX2_endSum_1 : decode cX2_endSum 1 = .ok (.getfield 19, 3) := by decide +kernel
theorem dX2_endSum_4 : decode cX2_endSum 4 = .ok (.aload_n 0, 1) := by decide +kernel
theorem dX2_endSum_5 : decode cX2_endSum 5 = .ok (.getfield 13, 3) := by decide +kernel
theorem dX2_endSum_8 : decode cX2_endSum 8 = .ok (.arraylength, 1) := by decide +kernel
theorem dX2_endSum_9 : decode cX2_endSum 9 = .ok (.iconst 1, 1) := by decide +kernel
theorem dX2_endSum_10 : decode cX2_endSum 10 = .ok (.isub, 1) := by decide +kernel
theorem dX2_endSum_11 : decode cX2_endSum 11 = .ok (.if_icmp .ge 26, 3) := by decide +kernel
theorem dX2_endSum_14 : decode cX2_endSum 14 = .ok (.aload_n 0, 1) := by decide +kernel
theorem dX2_endSum_15 : decode cX2_endSum 15 = .ok (.dup, 1) := by decide +kernel
theorem dX2_endSum_16 : decode cX2_endSum 16 = .ok (.getfield 19, 3) := by decide +kernel
theorem dX2_endSum_19 : decode cX2_endSum 19 = .ok (.iconst 1, 1) := by decide +kernel
theorem dX2_endSum_20 : decode cX2_endSum 20 = .ok (.iadd, 1) := by decide +kernel
theorem dX2_endSum_21 : decode cX2_endSum 21 = .ok (.putfield 19, 3) := by decide +kernel
theorem dX2_endSum_24 : decode cX2_endSum 24 = .ok (.aload_n 0, 1) := by decide +kernel
theorem dX2_endSum_25 : decode cX2_endSum 25 = .ok (.getfield 13, 3) := by decide +kernel
theorem dX2_endSum_28 : decode cX2_endSum 28 = .ok (.aload_n 0, 1) := by decide +kernel
theorem dX2_endSum_29 : decode cX2_endSum 29 = .ok (.getfield 19, 3) := by decide +kernel
theorem dX2_endSum_32 : decode cX2_endSum 32 = .ok (.aload_n 0, 1) := by decide +kernel
theorem dX2_endSum_33 : decode cX2_endSum 33 = .ok (.getfield 23, 3) := by decide +kernel
theorem dX2_endSum_36 : decode cX2_endSum 36 = .ok (.iastore, 1) := by decide +kernel
theorem dX2_endSum_37 : decode cX2_endSum 37 = .ok (.return_, 1) := by decide +kernel
set_option maxHeartbeats 4000000 in
set_option maxRecDepth 100000 in
theorem c_Law_endSum (l : Launch) (G : zz_G) (h0 : Nat) (a1 : Nat) (a2 : Nat) (a3 : Nat) (us : Int32) (n : Nat) (f : Nat → Int32) (hn : n < 13) : zz_M l G mX2_endSum 0 0 0 [.ref h0] [(h0, .inr (2, [.ref a1, .ref a2, .ref a3, .int (nI n), .int us])), (a2, .inl (G.2 0, 14, .inl f))] (fun rr u => rr = none ∧ u = [(h0, .inr (2, [.ref a1, .ref a2, .ref a3, .int (nI (n + 1)), .int us])), (a2, .inl (G.2 0, 14, .inl (upd f (n + 1) us)))]) := by
  refine zz_enterv (by decide +kernel) (Nat.le_of_ble_eq_true rfl) ?_
  intro p e s m args below meth c A Q ls S hnm hret hw hl
  have hl : lv_has ls 1 [(0, .ref h0)] := hl
  have hx := S.1
  have hb := S.2.1
  refine lv_aload_n hx hb dX2_endSum_0 rfl (lv_at hl 0 rfl) ?_
  refine zz_get (v := .int (nI n)) S hw fgX2_19 0 rfl rfl dX2_endSum_1 ?_
  refine lv_aload_n hx hb dX2_endSum_4 rfl (lv_at hl 0 rfl) ?_
  refine zz_get (v := .ref a2) S hw fgX2_13 0 rfl rfl dX2_endSum_5 ?_
  refine zz_alen (v := 14) S hw 1 0 rfl rfl rfl dX2_endSum_8 ?_
  refine lv_iconst (v := 1) hx hb dX2_endSum_9 (by decide) ?_
  refine lv_isub hx hb dX2_endSum_10 ?_
  refine zz_topi (y := 13) (by decide) ?_
  refine lv_icmp_ge (tgt := 37) hx hb dX2_endSum_11 (by decide) (fun cc => absurd ((zz_le (a := 13) (b := n) rfl rfl (by omega) (by omega)).mp cc) (by omega)) (fun _ => ?_)
  refine lv_aload_n hx hb dX2_endSum_14 rfl (lv_at hl 0 rfl) ?_
  refine lv_dup hx hb dX2_endSum_15 rfl ?_
  refine zz_get (v := .int (nI n)) S hw fgX2_19 0 rfl rfl dX2_endSum_16 ?_
  refine lv_iconst (v := 1) hx hb dX2_endSum_19 (by decide) ?_
  refine lv_iadd hx hb dX2_endSum_20 ?_
  refine zz_topi (y := (nI (n + 1))) (nI_add _ _) ?_
  refine zz_put (ws' := [(h0, .inr (2, [.ref a1, .ref a2, .ref a3, .int (nI (n + 1)), .int us])), (a2, .inl (G.2 0, 14, .inl f))]) (v := .int (nI (n + 1))) S hw fpX2_19 0 rfl rfl rfl (Nat.le_of_ble_eq_true rfl) rfl dX2_endSum_21 (fun H locs hw => ?_)
  refine lv_aload_n hx hb dX2_endSum_24 rfl (lv_at hl 0 rfl) ?_
  refine zz_get (v := .ref a2) S hw fgX2_13 0 rfl rfl dX2_endSum_25 ?_
  refine lv_aload_n hx hb dX2_endSum_28 rfl (lv_at hl 0 rfl) ?_
  refine zz_get (v := .int (nI (n + 1))) S hw fgX2_19 0 rfl rfl dX2_endSum_29 ?_
  refine lv_aload_n hx hb dX2_endSum_32 rfl (lv_at hl 0 rfl) ?_
  refine zz_get (v := .int us) S hw fgX2_23 0 rfl rfl dX2_endSum_33 ?_
  refine zz_iast (ws' := [(h0, .inr (2, [.ref a1, .ref a2, .ref a3, .int (nI (n + 1)), .int us])), (a2, .inl (G.2 0, 14, .inl (upd f (n + 1) us)))]) (g := (upd f (n + 1) us)) S hw 1 rfl (vp_in_nI (n := (n + 1)) (by omega) (by decide)) (zz_upn (n := (n + 1)) (by omega)) rfl dX2_endSum_36 (fun H locs hw => ?_)
  exact hret _ _ _ _ _ ⟨rfl, rfl⟩ hw dX2_endSum_37
theorem dX2_setNumber_0 : decode cX2_setNumber 0 = .ok (.aload_n 0, 1) := by decide +kernel
theorem dX2_setNumber_1 : decode cX2_setNumber 1 = .ok (.invokevirtual 26, 3) := by decide +kernel
theorem dX2_setNumber_4 : decode cX2_setNumber 4 = .ok (.aload_n 0, 1) := by decide +kernel
theorem dX2_setNumber_5 : decode cX2_setNumber 5 = .ok (.iload_n 1, 1) := by decide +kernel
theorem dX2_setNumber_6 : decode cX2_setNumber 6 = .ok (.invokevirtual 29, 3) := by decide +kernel
theorem dX2_setNumber_9 : decode cX2_setNumber 9 = .ok (.aload_n 0, 1) := by decide +kernel
theorem dX2_setNumber_10 : decode cX2_setNumber 10 = .ok (.invokevirtual 33, 3) := by decide +kernel
theorem dX2_setNumber_13 : decode cX2_setNumber 13 = .ok (.return_, 1) := by decide +kernel
set_option maxHeartbeats 4000000 in
set_option maxRecDepth 100000 in
theorem c_Law_setNumber (l : Launch) (G : zz_G) (h0 : Nat) (a1 : Nat) (a2 : Nat) (a3 : Nat) (su : Int32) (us : Int32) (num : Int32) (f : Nat → Int32) (g : Nat → Int32) : zz_M l G mX2_setNumber 1 0 0 [.ref h0, .int num] [(h0, .inr (2, [.ref a1, .ref a2, .ref a3, .int su, .int us])), (a1, .inl (G.2 0, 400, .inl f)), (a2, .inl (G.2 0, 14, .inl g))] (fun rr u => ∃ (ff : Nat → Int32), ∃ (gg : Nat → Int32), rr = none ∧ u = [(h0, .inr (2, [.ref a1, .ref a2, .ref a3, .int 1, .int 1])), (a1, .inl (G.2 0, 400, .inl ff)), (a2, .inl (G.2 0, 14, .inl gg))]) := by
  refine zz_enterv (by decide +kernel) (Nat.le_of_ble_eq_true rfl) ?_
  intro p e s m args below meth c A Q ls S hnm hret hw hl
  have hl : lv_has ls 2 [(0, .ref h0), (1, .int num)] := hl
  have hx := S.1
  have hb := S.2.1
  refine lv_aload_n hx hb dX2_setNumber_0 rfl (lv_at hl 0 rfl) ?_
  refine zz_callV (qb := 0) (As := []) (rest := []) (wr := [(a1, .inl (G.2 0, 400, .inl f)), (a2, .inl (G.2 0, 14, .inl g))]) S hw hl.1 lX2_26 (c_Law_clear l G h0 a1 a2 a3 su us) ⟨Nat.le_of_ble_eq_true rfl, Nat.le_of_ble_eq_true rfl⟩ ⟨Nat.le_of_ble_eq_true rfl, Nat.le_of_ble_eq_true rfl⟩ [0] [1, 2] (by decide) rfl rfl (by decide) (by decide) rfl rfl rfl rfl (Nat.le_of_ble_eq_true rfl) dX2_setNumber_1 (fun rr u H locs hp hw => ?_)
  obtain ⟨rfl, rfl⟩ := hp
  have hw : zz_w G A s [(a1, .inl (G.2 0, 400, .inl f)), (a2, .inl (G.2 0, 14, .inl g)), (h0, .inr (2, [.ref a1, .ref a2, .ref a3, .int 0, .int 0]))] H _ := hw
  refine W.eq (g2 := F0 m 4 ls []) rfl ?_
  refine lv_aload_n hx hb dX2_setNumber_4 rfl (lv_at hl 0 rfl) ?_
  refine lv_iload_n hx hb dX2_setNumber_5 rfl (lv_at hl 1 rfl) ?_
  refine zz_callV (qb := 2) (As := [.int num]) (rest := []) (wr := [(a2, .inl (G.2 0, 14, .inl g))]) S hw hl.1 lX2_29 (c_Law_put l G h0 a1 a2 a3 0 0 num f (by decide)) ⟨Nat.le_of_ble_eq_true rfl, Nat.le_of_ble_eq_true rfl⟩ ⟨Nat.le_of_ble_eq_true rfl, Nat.le_of_ble_eq_true rfl⟩ [2, 0] [1] (by decide) rfl rfl (by decide) (by decide) rfl rfl rfl rfl (Nat.le_of_ble_eq_true rfl) dX2_setNumber_6 (fun rr u H locs hp hw => ?_)
  obtain ⟨rfl, rfl⟩ := hp
  have hw : zz_w G A s [(a2, .inl (G.2 0, 14, .inl g)), (h0, .inr (2, [.ref a1, .ref a2, .ref a3, .int 0, .int 1])), (a1, .inl (G.2 0, 400, .inl (upd f 0 num)))] H _ := hw
  refine W.eq (g2 := F0 m 9 ls []) rfl ?_
  refine lv_aload_n hx hb dX2_setNumber_9 rfl (lv_at hl 0 rfl) ?_
  refine zz_callV (qb := 1) (As := []) (rest := []) (wr := [(a1, .inl (G.2 0, 400, .inl (upd f 0 num)))]) S hw hl.1 lX2_33 (c_Law_endSum l G h0 a1 a2 a3 1 0 g (by decide)) ⟨Nat.le_of_ble_eq_true rfl, Nat.le_of_ble_eq_true rfl⟩ ⟨Nat.le_of_ble_eq_true rfl, Nat.le_of_ble_eq_true rfl⟩ [1, 0] [2] (by decide) rfl rfl (by decide) (by decide) rfl rfl rfl rfl (Nat.le_of_ble_eq_true rfl) dX2_setNumber_10 (fun rr u H locs hp hw => ?_)
  obtain ⟨rfl, rfl⟩ := hp
  have hw : zz_w G A s [(a1, .inl (G.2 0, 400, .inl (upd f 0 num))), (h0, .inr (2, [.ref a1, .ref a2, .ref a3, .int 1, .int 1])), (a2, .inl (G.2 0, 14, .inl (upd g (0 + 1) 1)))] H _ := hw
  refine W.eq (g2 := F0 m 13 ls []) rfl ?_
  exact hret _ _ _ _ _ ⟨(upd f 0 num), (upd g (0 + 1) 1), rfl, rfl⟩ (hw.sub [1, 0, 2] (by decide) rfl) dX2_setNumber_13
theorem dX2_setNumberLess_0 : decode cX2_setNumberLess 0 = .ok (.aload_n 0, 1) := by decide +kernel
theorem dX2_setNumberLess_1 : decode cX2_setNumberLess 1 = .ok (.invokevirtual 26, 3) := by decide +kernel
theorem dX2_setNumberLess_4 : decode cX2_setNumberLess 4 = .ok (.aload_n 0, 1) := by decide +kernel
theorem dX2_setNumberLess_5 : decode cX2_setNumberLess 5 = .ok (.iload_n 1, 1) := by decide +kernel
theorem dX2_setNumberLess_6 : decode cX2_setNumberLess 6 = .ok (.invokevirtual 29, 3) := by decide +kernel
theorem dX2_setNumberLess_9 : decode cX2_setNumberLess 9 = .ok (.iload_n 2, 1) := by decide +kernel
theorem dX2_setNumberLess_10 : decode cX2_setNumberLess 10 = .ok (.istore 4, 2) := by decide +kernel
theorem dX2_setNumberLess_12 : decode cX2_setNumberLess 12 = .ok (.iload 4, 2) := by decide +kernel
theorem dX2_setNumberLess_14 : decode cX2_setNumberLess 14 = .ok (.iload_n 3, 1) := by decide +kernel
theorem dX2_setNumberLess_15 : decode cX2_setNumberLess 15 = .ok (.if_icmp .gt 26, 3) := by decide +kernel
theorem dX2_setNumberLess_18 : decode cX2_setNumberLess 18 = .ok (.aload_n 0, 1) := by decide +kernel
theorem dX2_setNumberLess_19 : decode cX2_setNumberLess 19 = .ok (.sipush 10000, 3) := by decide +kernel
theorem dX2_setNumberLess_22 : decode cX2_setNumberLess 22 = .ok (.iload 4, 2) := by decide +kernel
theorem dX2_setNumberLess_24 : decode cX2_setNumberLess 24 = .ok (.iadd, 1) := by decide +kernel
theorem dX2_setNumberLess_25 : decode cX2_setNumberLess 25 = .ok (.invokevirtual 29, 3) := by decide +kernel
theorem dX2_setNumberLess_28 : decode cX2_setNumberLess 28 = .ok (.aload_n 0, 1) := by decide +kernel
theorem dX2_setNumberLess_29 : decode cX2_setNumberLess 29 = .ok (.sipush 20045, 3) := by decide +kernel
theorem dX2_setNumberLess_32 : decode cX2_setNumberLess 32 = .ok (.invokevirtual 29, 3) := by decide +kernel
theorem dX2_setNumberLess_35 : decode cX2_setNumberLess 35 = .ok (.iinc 4 1, 3) := by decide +kernel
theorem dX2_setNumberLess_38 : decode cX2_setNumberLess 38 = .ok (.goto (-26), 3) := by decide +kernel
theorem dX2_setNumberLess_41 : decode cX2_setNumberLess 41 = .ok (.aload_n 0, 1) := by decide +kernel
theorem dX2_setNumberLess_42 : decode cX2_setNumberLess 42 = .ok (.invokevirtual 33, 3) := by decide +kernel
theorem dX2_setNumberLess_45 : decode cX2_setNumberLess 45 = .ok (.return_, 1) := by decide +kernel
set_option maxHeartbeats 4000000 in
set_option maxRecDepth 100000 in
theorem c_Law_setNumberLess (l : Launch) (G : zz_G) (h0 : Nat) (a1 : Nat) (a2 : Nat) (a3 : Nat) (su : Int32) (us : Int32) (num : Int32) (f : Nat → Int32) (g : Nat → Int32) : zz_M l G mX2_setNumberLess 1 0 0 [.ref h0, .int num, .int 0, .int 2] [(h0, .inr (2, [.ref a1, .ref a2, .ref a3, .int su, .int us])), (a1, .inl (G.2 0, 400, .inl f)), (a2, .inl (G.2 0, 14, .inl g))] (fun rr u => ∃ (ff : Nat → Int32), ∃ (gg : Nat → Int32), rr = none ∧ u = [(h0, .inr (2, [.ref a1, .ref a2, .ref a3, .int 1, .int 7])), (a1, .inl (G.2 0, 400, .inl ff)), (a2, .inl (G.2 0, 14, .inl gg))]) := by
  refine zz_enterv (by decide +kernel) (Nat.le_of_ble_eq_true rfl) ?_
  intro p e s m args below meth c A Q ls S hnm hret hw hl
  have hl : lv_has ls 5 [(0, .ref h0), (1, .int num), (2, .int 0), (3, .int 2)] := hl
  have hx := S.1
  have hb := S.2.1
  refine lv_aload_n hx hb dX2_setNumberLess_0 rfl (lv_at hl 0 rfl) ?_
  refine zz_callV (qb := 0) (As := []) (rest := []) (wr := [(a1, .inl (G.2 0, 400, .inl f)), (a2, .inl (G.2 0, 14, .inl g))]) S hw hl.1 lX2_26 (c_Law_clear l G h0 a1 a2 a3 su us) ⟨Nat.le_of_ble_eq_true rfl, Nat.le_of_ble_eq_true rfl⟩ ⟨Nat.le_of_ble_eq_true rfl, Nat.le_of_ble_eq_true rfl⟩ [0] [1, 2] (by decide) rfl rfl (by decide) (by decide) rfl rfl rfl rfl (Nat.le_of_ble_eq_true rfl) dX2_setNumberLess_1 (fun rr u H locs hp hw => ?_)
  obtain ⟨rfl, rfl⟩ := hp
  have hw : zz_w G A s [(a1, .inl (G.2 0, 400, .inl f)), (a2, .inl (G.2 0, 14, .inl g)), (h0, .inr (2, [.ref a1, .ref a2, .ref a3, .int 0, .int 0]))] H _ := hw
  refine W.eq (g2 := F0 m 4 ls []) rfl ?_
  refine lv_aload_n hx hb dX2_setNumberLess_4 rfl (lv_at hl 0 rfl) ?_
  refine lv_iload_n hx hb dX2_setNumberLess_5 rfl (lv_at hl 1 rfl) ?_
  refine zz_callV (qb := 2) (As := [.int num]) (rest := []) (wr := [(a2, .inl (G.2 0, 14, .inl g))]) S hw hl.1 lX2_29 (c_Law_put l G h0 a1 a2 a3 0 0 num f (by decide)) ⟨Nat.le_of_ble_eq_true rfl, Nat.le_of_ble_eq_true rfl⟩ ⟨Nat.le_of_ble_eq_true rfl, Nat.le_of_ble_eq_true rfl⟩ [2, 0] [1] (by decide) rfl rfl (by decide) (by decide) rfl rfl rfl rfl (Nat.le_of_ble_eq_true rfl) dX2_setNumberLess_6 (fun rr u H locs hp hw => ?_)
  obtain ⟨rfl, rfl⟩ := hp
  have hw : zz_w G A s [(a2, .inl (G.2 0, 14, .inl g)), (h0, .inr (2, [.ref a1, .ref a2, .ref a3, .int 0, .int 1])), (a1, .inl (G.2 0, 400, .inl (upd f 0 num)))] H _ := hw
  refine W.eq (g2 := F0 m 9 ls []) rfl ?_
  refine lv_iload_n hx hb dX2_setNumberLess_9 rfl (lv_at hl 2 rfl) ?_
  refine lv_istore (lv' := [(4, .int 0), (0, .ref h0), (1, .int num), (2, .int 0), (3, .int 2)]) hx hb dX2_setNumberLess_10 hl (by decide) rfl (fun ls hl => ?_)
  refine lv_iload hx hb dX2_setNumberLess_12 (lv_at hl 0 rfl) ?_
  refine lv_iload_n hx hb dX2_setNumberLess_14 rfl (lv_at hl 4 rfl) ?_
  refine lv_icmp_gt (tgt := 41) hx hb dX2_setNumberLess_15 (by decide) (fun cc => absurd cc (by decide)) (fun _ => ?_)
  refine lv_aload_n hx hb dX2_setNumberLess_18 rfl (lv_at hl 1 rfl) ?_
  refine lv_sipush (v := 10000) hx hb dX2_setNumberLess_19 (by decide) ?_
  refine lv_iload hx hb dX2_setNumberLess_22 (lv_at hl 0 rfl) ?_
  refine lv_iadd hx hb dX2_setNumberLess_24 ?_
  refine zz_topi (y := 10000) (by decide) ?_
  refine zz_callV (qb := 1) (As := [.int 10000]) (rest := []) (wr := [(a2, .inl (G.2 0, 14, .inl g))]) S hw hl.1 lX2_29 (c_Law_put l G h0 a1 a2 a3 0 1 10000 (upd f 0 num) (by decide)) ⟨Nat.le_of_ble_eq_true rfl, Nat.le_of_ble_eq_true rfl⟩ ⟨Nat.le_of_ble_eq_true rfl, Nat.le_of_ble_eq_true rfl⟩ [1, 2] [0] (by decide) rfl rfl (by decide) (by decide) rfl rfl rfl rfl (Nat.le_of_ble_eq_true rfl) dX2_setNumberLess_25 (fun rr u H locs hp hw => ?_)
  obtain ⟨rfl, rfl⟩ := hp
  have hw : zz_w G A s [(a2, .inl (G.2 0, 14, .inl g)), (h0, .inr (2, [.ref a1, .ref a2, .ref a3, .int 0, .int 2])), (a1, .inl (G.2 0, 400, .inl (upd (upd f 0 num) 1 10000)))] H _ := hw
  refine W.eq (g2 := F0 m 28 ls []) rfl ?_
  refine lv_aload_n hx hb dX2_setNumberLess_28 rfl (lv_at hl 1 rfl) ?_
  refine lv_sipush (v := 20045) hx hb dX2_setNumberLess_29 (by decide) ?_
  refine zz_callV (qb := 1) (As := [.int 20045]) (rest := []) (wr := [(a2, .inl (G.2 0, 14, .inl g))]) S hw hl.1 lX2_29 (c_Law_put l G h0 a1 a2 a3 0 2 20045 (upd (upd f 0 num) 1 10000) (by decide)) ⟨Nat.le_of_ble_eq_true rfl, Nat.le_of_ble_eq_true rfl⟩ ⟨Nat.le_of_ble_eq_true rfl, Nat.le_of_ble_eq_true rfl⟩ [1, 2] [0] (by decide) rfl rfl (by decide) (by decide) rfl rfl rfl rfl (Nat.le_of_ble_eq_true rfl) dX2_setNumberLess_32 (fun rr u H locs hp hw => ?_)
  obtain ⟨rfl, rfl⟩ := hp
  have hw : zz_w G A s [(a2, .inl (G.2 0, 14, .inl g)), (h0, .inr (2, [.ref a1, .ref a2, .ref a3, .int 0, .int 3])), (a1, .inl (G.2 0, 400, .inl (upd (upd (upd f 0 num) 1 10000) 2 20045)))] H _ := hw
  refine W.eq (g2 := F0 m 35 ls []) rfl ?_
  refine lv_iinc (v := 1) (lv' := [(4, .int 1), (0, .ref h0), (1, .int num), (2, .int 0), (3, .int 2)]) hx hb dX2_setNumberLess_35 hl (k := 0) rfl (by decide) (by decide) rfl (fun ls hl => ?_)
  refine lv_goto (tgt := 12) hx hb dX2_setNumberLess_38 (by decide) ?_
  refine lv_iload hx hb dX2_setNumberLess_12 (lv_at hl 0 rfl) ?_
  refine lv_iload_n hx hb dX2_setNumberLess_14 rfl (lv_at hl 4 rfl) ?_
  refine lv_icmp_gt (tgt := 41) hx hb dX2_setNumberLess_15 (by decide) (fun cc => absurd cc (by decide)) (fun _ => ?_)
  refine lv_aload_n hx hb dX2_setNumberLess_18 rfl (lv_at hl 1 rfl) ?_
  refine lv_sipush (v := 10000) hx hb dX2_setNumberLess_19 (by decide) ?_
  refine lv_iload hx hb dX2_setNumberLess_22 (lv_at hl 0 rfl) ?_
  refine lv_iadd hx hb dX2_setNumberLess_24 ?_
  refine zz_topi (y := 10001) (by decide) ?_
  refine zz_callV (qb := 1) (As := [.int 10001]) (rest := []) (wr := [(a2, .inl (G.2 0, 14, .inl g))]) S hw hl.1 lX2_29 (c_Law_put l G h0 a1 a2 a3 0 3 10001 (upd (upd (upd f 0 num) 1 10000) 2 20045) (by decide)) ⟨Nat.le_of_ble_eq_true rfl, Nat.le_of_ble_eq_true rfl⟩ ⟨Nat.le_of_ble_eq_true rfl, Nat.le_of_ble_eq_true rfl⟩ [1, 2] [0] (by decide) rfl rfl (by decide) (by decide) rfl rfl rfl rfl (Nat.le_of_ble_eq_true rfl) dX2_setNumberLess_25 (fun rr u H locs hp hw => ?_)
  obtain ⟨rfl, rfl⟩ := hp
  have hw : zz_w G A s [(a2, .inl (G.2 0, 14, .inl g)), (h0, .inr (2, [.ref a1, .ref a2, .ref a3, .int 0, .int 4])), (a1, .inl (G.2 0, 400, .inl (upd (upd (upd (upd f 0 num) 1 10000) 2 20045) 3 10001)))] H _ := hw
  refine W.eq (g2 := F0 m 28 ls []) rfl ?_
  refine lv_aload_n hx hb dX2_setNumberLess_28 rfl (lv_at hl 1 rfl) ?_
  refine lv_sipush (v := 20045) hx hb dX2_setNumberLess_29 (by decide) ?_
  refine zz_callV (qb := 1) (As := [.int 20045]) (rest := []) (wr := [(a2, .inl (G.2 0, 14, .inl g))]) S hw hl.1 lX2_29 (c_Law_put l G h0 a1 a2 a3 0 4 20045 (upd (upd (upd (upd f 0 num) 1 10000) 2 20045) 3 10001) (by decide)) ⟨Nat.le_of_ble_eq_true rfl, Nat.le_of_ble_eq_true rfl⟩ ⟨Nat.le_of_ble_eq_true rfl, Nat.le_of_ble_eq_true rfl⟩ [1, 2] [0] (by decide) rfl rfl (by decide) (by decide) rfl rfl rfl rfl (Nat.le_of_ble_eq_true rfl) dX2_setNumberLess_32 (fun rr u H locs hp hw => ?_)
  obtain ⟨rfl, rfl⟩ := hp
  have hw : zz_w G A s [(a2, .inl (G.2 0, 14, .inl g)), (h0, .inr (2, [.ref a1, .ref a2, .ref a3, .int 0, .int 5])), (a1, .inl (G.2 0, 400, .inl (upd (upd (upd (upd (upd f 0 num) 1 10000) 2 20045) 3 10001) 4 20045)))] H _ := hw
  refine W.eq (g2 := F0 m 35 ls []) rfl ?_
  refine lv_iinc (v := 2) (lv' := [(4, .int 2), (0, .ref h0), (1, .int num), (2, .int 0), (3, .int 2)]) hx hb dX2_setNumberLess_35 hl (k := 0) rfl (by decide) (by decide) rfl (fun ls hl => ?_)
  refine lv_goto (tgt := 12) hx hb dX2_setNumberLess_38 (by decide) ?_
  refine lv_iload hx hb dX2_setNumberLess_12 (lv_at hl 0 rfl) ?_
  refine lv_iload_n hx hb dX2_setNumberLess_14 rfl (lv_at hl 4 rfl) ?_
  refine lv_icmp_gt (tgt := 41) hx hb dX2_setNumberLess_15 (by decide) (fun cc => absurd cc (by decide)) (fun _ => ?_)
  refine lv_aload_n hx hb dX2_setNumberLess_18 rfl (lv_at hl 1 rfl) ?_
  refine lv_sipush (v := 10000) hx hb dX2_setNumberLess_19 (by decide) ?_
  refine lv_iload hx hb dX2_setNumberLess_22 (lv_at hl 0 rfl) ?_
  refine lv_iadd hx hb dX2_setNumberLess_24 ?_
  refine zz_topi (y := 10002) (by decide) ?_
  refine zz_callV (qb := 1) (As := [.int 10002]) (rest := []) (wr := [(a2, .inl (G.2 0, 14, .inl g))]) S hw hl.1 lX2_29 (c_Law_put l G h0 a1 a2 a3 0 5 10002 (upd (upd (upd (upd (upd f 0 num) 1 10000) 2 20045) 3 10001) 4 20045) (by decide)) ⟨Nat.le_of_ble_eq_true rfl, Nat.le_of_ble_eq_true rfl⟩ ⟨Nat.le_of_ble_eq_true rfl, Nat.le_of_ble_eq_true rfl⟩ [1, 2] [0] (by decide) rfl rfl (by decide) (by decide) rfl rfl rfl rfl (Nat.le_of_ble_eq_true rfl) dX2_setNumberLess_25 (fun rr u H locs hp hw => ?_)
  obtain ⟨rfl, rfl⟩ := hp
  have hw : zz_w G A s [(a2, .inl (G.2 0, 14, .inl g)), (h0, .inr (2, [.ref a1, .ref a2, .ref a3, .int 0, .int 6])), (a1, .inl (G.2 0, 400, .inl (upd (upd (upd (upd (upd (upd f 0 num) 1 10000) 2 20045) 3 10001) 4 20045) 5 10002)))] H _ := hw
  refine W.eq (g2 := F0 m 28 ls []) rfl ?_
  refine lv_aload_n hx hb dX2_setNumberLess_28 rfl (lv_at hl 1 rfl) ?_
  refine lv_sipush (v := 20045) hx hb dX2_setNumberLess_29 (by decide) ?_
  refine zz_callV (qb := 1) (As := [.int 20045]) (rest := []) (wr := [(a2, .inl (G.2 0, 14, .inl g))]) S hw hl.1 lX2_29 (c_Law_put l G h0 a1 a2 a3 0 6 20045 (upd (upd (upd (upd (upd (upd f 0 num) 1 10000) 2 20045) 3 10001) 4 20045) 5 10002) (by decide)) ⟨Nat.le_of_ble_eq_true rfl, Nat.le_of_ble_eq_true rfl⟩ ⟨Nat.le_of_ble_eq_true rfl, Nat.le_of_ble_eq_true rfl⟩ [1, 2] [0] (by decide) rfl rfl (by decide) (by decide) rfl rfl rfl rfl (Nat.le_of_ble_eq_true rfl) dX2_setNumberLess_32 (fun rr u H locs hp hw => ?_)
  obtain ⟨rfl, rfl⟩ := hp
  have hw : zz_w G A s [(a2, .inl (G.2 0, 14, .inl g)), (h0, .inr (2, [.ref a1, .ref a2, .ref a3, .int 0, .int 7])), (a1, .inl (G.2 0, 400, .inl (upd (upd (upd (upd (upd (upd (upd f 0 num) 1 10000) 2 20045) 3 10001) 4 20045) 5 10002) 6 20045)))] H _ := hw
  refine W.eq (g2 := F0 m 35 ls []) rfl ?_
  refine lv_iinc (v := 3) (lv' := [(4, .int 3), (0, .ref h0), (1, .int num), (2, .int 0), (3, .int 2)]) hx hb dX2_setNumberLess_35 hl (k := 0) rfl (by decide) (by decide) rfl (fun ls hl => ?_)
  refine lv_goto (tgt := 12) hx hb dX2_setNumberLess_38 (by decide) ?_
  refine lv_iload hx hb dX2_setNumberLess_12 (lv_at hl 0 rfl) ?_
  refine lv_iload_n hx hb dX2_setNumberLess_14 rfl (lv_at hl 4 rfl) ?_
  refine lv_icmp_gt (tgt := 41) hx hb dX2_setNumberLess_15 (by decide) (fun _ => ?_) (fun cc => absurd cc (by decide))
  refine lv_aload_n hx hb dX2_setNumberLess_41 rfl (lv_at hl 1 rfl) ?_
  refine zz_callV (qb := 1) (As := []) (rest := []) (wr := [(a1, .inl (G.2 0, 400, .inl (upd (upd (upd (upd (upd (upd (upd f 0 num) 1 10000) 2 20045) 3 10001) 4 20045) 5 10002) 6 20045)))]) S hw hl.1 lX2_33 (c_Law_endSum l G h0 a1 a2 a3 7 0 g (by decide)) ⟨Nat.le_of_ble_eq_true rfl, Nat.le_of_ble_eq_true rfl⟩ ⟨Nat.le_of_ble_eq_true rfl, Nat.le_of_ble_eq_true rfl⟩ [1, 0] [2] (by decide) rfl rfl (by decide) (by decide) rfl rfl rfl rfl (Nat.le_of_ble_eq_true rfl) dX2_setNumberLess_42 (fun rr u H locs hp hw => ?_)
  obtain ⟨rfl, rfl⟩ := hp
  have hw : zz_w G A s [(a1, .inl (G.2 0, 400, .inl (upd (upd (upd (upd (upd (upd (upd f 0 num) 1 10000) 2 20045) 3 10001) 4 20045) 5 10002) 6 20045))), (h0, .inr (2, [.ref a1, .ref a2, .ref a3, .int 1, .int 7])), (a2, .inl (G.2 0, 14, .inl (upd g (0 + 1) 7)))] H _ := hw
  refine W.eq (g2 := F0 m 45 ls []) rfl ?_
  exact hret _ _ _ _ _ ⟨(upd (upd (upd (upd (upd (upd (upd f 0 num) 1 10000) 2 20045) 3 10001) 4 20045) 5 10002) 6 20045), (upd g (0 + 1) 7), rfl, rfl⟩ (hw.sub [1, 0, 2] (by decide) rfl) dX2_setNumberLess_45
theorem dX7_init_0 : decode cX7_init 0 = .ok (.aload_n 0, 1) := by decide +kernel
theorem dX7_init_1 : decode cX7_init 1 = .ok (.invokespecial 1, 3) := by decide +kernel
theorem dX7_init_4 : decode cX7_init 4 = .ok (.aload_n 0, 1) := by decide +kernel
theorem dX7_init_5 : decode cX7_init 5 = .ok (.sipush 401, 3) := by decide +kernel
theorem dX7_init_8 : decode cX7_init 8 = .ok (.newarray .int, 2) := by decide +kernel
theorem dX7_init_10 : decode cX7_init 10 = .ok (.putfield 9, 3) := by decide +kernel
theorem dX7_init_13 : decode cX7_init 13 = .ok (.aload_n 0, 1) := by decide +kernel
theorem dX7_init_14 : decode cX7_init 14 = .ok (.sipush 401, 3) := by decide +kernel
theorem dX7_init_17 : decode cX7_init 17 = .ok (.newarray .int, 2) := by decide +kernel
theorem dX7_init_19 : decode cX7_init 19 = .ok (.putfield 13, 3) := by decide +kernel
theorem dX7_init_22 : decode cX7_init 22 = .ok (.aload_n 0, 1) := by decide +kernel
theorem dX7_init_23 : decode cX7_init 23 = .ok (.sipush 401, 3) := by decide +kernel
theorem dX7_init_26 : decode cX7_init 26 = .ok (.newarray .int, 2) := by decide +kernel
theorem dX7_init_28 : decode cX7_init 28 = .ok (.putfield 16, 3) := by decide +kernel
theorem dX7_init_31 : decode cX7_init 31 = .ok (.aload_n 0, 1) := by decide +kernel
theorem dX7_init_32 : decode cX7_init 32 = .ok (.sipush 401, 3) := by decide +kernel
theorem dX7_init_35 : decode cX7_init 35 = .ok (.newarray .long, 2) := by decide +kernel
theorem dX7_init_37 : decode cX7_init 37 = .ok (.putfield 19, 3) := by decide +kernel
theorem dX7_init_40 : decode cX7_init 40 = .ok (.return_, 1) := by decide +kernel
set_option maxHeartbeats 4000000 in
set_option maxRecDepth 100000 in
theorem c_Tokens_init (l : Launch) (G : zz_G) (h0 : Nat) : zz_M l G mX7_init 1 4 1604 [.ref h0] [(h0, .inr (7, [.null, .null, .null, .null]))] (fun rr u => ∃ (a1 : Nat), ∃ (a2 : Nat), ∃ (a3 : Nat), ∃ (a4 : Nat), rr = none ∧ u = [(h0, .inr (7, [.ref a1, .ref a2, .ref a3, .ref a4])), (a1, .inl (G.2 0, 401, .inl (fun _ => 0))), (a2, .inl (G.2 0, 401, .inl (fun _ => 0))), (a3, .inl (G.2 0, 401, .inl (fun _ => 0))), (a4, .inl (G.2 3, 401, .inr (.inl (fun _ => 0))))]) := by
  refine zz_enterv (by decide +kernel) (Nat.le_of_ble_eq_true rfl) ?_
  intro p e s m args below meth c A Q ls S hnm hret hw hl
  have hl : lv_has ls 1 [(0, .ref h0)] := hl
  have hx := S.1
  have hb := S.2.1
  refine lv_aload_n hx hb dX7_init_0 rfl (lv_at hl 0 rfl) ?_
  refine zz_obj S (zz_c1 39 rfl rfl) hl.1 dX7_init_1 (Nat.le_of_ble_eq_true rfl) (Nat.le_of_ble_eq_true rfl) ?_
  refine lv_aload_n hx hb dX7_init_4 rfl (lv_at hl 0 rfl) ?_
  refine lv_sipush (v := 401) hx hb dX7_init_5 (by decide) ?_
  refine zz_newa (at_ := .int) (a0 := (401, .inl (fun _ => 0))) 0 S hw zz_ar0 rfl rfl (fun _ _ h => h) (fun _ => rfl) (by decide) (nI_clamp (n := 401) (by decide)) (by decide) (Nat.le_of_ble_eq_true rfl) (Nat.le_of_ble_eq_true rfl) dX7_init_8 (fun q1 H hw => ?_)
  have hw : zz_w G A s [(h0, .inr (7, [.null, .null, .null, .null])), (q1, .inl (G.2 0, 401, .inl (fun _ => 0)))] H _ := hw
  refine zz_putF (ws' := [(h0, .inr (7, [.ref q1, .null, .null, .null])), (q1, .inl (G.2 0, 401, .inl (fun _ => 0)))]) (v := .ref q1) S hnm hw fpX7_9 0 rfl rfl rfl (Nat.le_of_ble_eq_true rfl) rfl dX7_init_10 (fun H locs hw => ?_)
  refine lv_aload_n hx hb dX7_init_13 rfl (lv_at hl 0 rfl) ?_
  refine lv_sipush (v := 401) hx hb dX7_init_14 (by decide) ?_
  refine zz_newa (at_ := .int) (a0 := (401, .inl (fun _ => 0))) 0 S hw zz_ar0 rfl rfl (fun _ _ h => h) (fun _ => rfl) (by decide) (nI_clamp (n := 401) (by decide)) (by decide) (Nat.le_of_ble_eq_true rfl) (Nat.le_of_ble_eq_true rfl) dX7_init_17 (fun q2 H hw => ?_)
  have hw : zz_w G A s [(h0, .inr (7, [.ref q1, .null, .null, .null])), (q1, .inl (G.2 0, 401, .inl (fun _ => 0))), (q2, .inl (G.2 0, 401, .inl (fun _ => 0)))] H _ := hw
  refine zz_putF (ws' := [(h0, .inr (7, [.ref q1, .ref q2, .null, .null])), (q1, .inl (G.2 0, 401, .inl (fun _ => 0))), (q2, .inl (G.2 0, 401, .inl (fun _ => 0)))]) (v := .ref q2) S hnm hw fpX7_13 0 rfl rfl rfl (Nat.le_of_ble_eq_true rfl) rfl dX7_init_19 (fun H locs hw => ?_)
  refine lv_aload_n hx hb dX7_init_22 rfl (lv_at hl 0 rfl) ?_
  refine lv_sipush (v := 401) hx hb dX7_init_23 (by decide) ?_
  refine zz_newa (at_ := .int) (a0 := (401, .inl (fun _ => 0))) 0 S hw zz_ar0 rfl rfl (fun _ _ h => h) (fun _ => rfl) (by decide) (nI_clamp (n := 401) (by decide)) (by decide) (Nat.le_of_ble_eq_true rfl) (Nat.le_of_ble_eq_true rfl) dX7_init_26 (fun q3 H hw => ?_)
  have hw : zz_w G A s [(h0, .inr (7, [.ref q1, .ref q2, .null, .null])), (q1, .inl (G.2 0, 401, .inl (fun _ => 0))), (q2, .inl (G.2 0, 401, .inl (fun _ => 0))), (q3, .inl (G.2 0, 401, .inl (fun _ => 0)))] H _ := hw
  refine zz_putF (ws' := [(h0, .inr (7, [.ref q1, .ref q2, .ref q3, .null])), (q1, .inl (G.2 0, 401, .inl (fun _ => 0))), (q2, .inl (G.2 0, 401, .inl (fun _ => 0))), (q3, .inl (G.2 0, 401, .inl (fun _ => 0)))]) (v := .ref q3) S hnm hw fpX7_16 0 rfl rfl rfl (Nat.le_of_ble_eq_true rfl) rfl dX7_init_28 (fun H locs hw => ?_)
  refine lv_aload_n hx hb dX7_init_31 rfl (lv_at hl 0 rfl) ?_
  refine lv_sipush (v := 401) hx hb dX7_init_32 (by decide) ?_
  refine zz_newa (at_ := .long) (a0 := (401, .inr (.inl (fun _ => 0)))) 3 S hw zz_ar3 rfl rfl (fun _ _ h => h) (fun _ => rfl) (by decide) (nI_clamp (n := 401) (by decide)) (by decide) (Nat.le_of_ble_eq_true rfl) (Nat.le_of_ble_eq_true rfl) dX7_init_35 (fun q4 H hw => ?_)
  have hw : zz_w G A s [(h0, .inr (7, [.ref q1, .ref q2, .ref q3, .null])), (q1, .inl (G.2 0, 401, .inl (fun _ => 0))), (q2, .inl (G.2 0, 401, .inl (fun _ => 0))), (q3, .inl (G.2 0, 401, .inl (fun _ => 0))), (q4, .inl (G.2 3, 401, .inr (.inl (fun _ => 0))))] H _ := hw
  refine zz_putF (ws' := [(h0, .inr (7, [.ref q1, .ref q2, .ref q3, .ref q4])), (q1, .inl (G.2 0, 401, .inl (fun _ => 0))), (q2, .inl (G.2 0, 401, .inl (fun _ => 0))), (q3, .inl (G.2 0, 401, .inl (fun _ => 0))), (q4, .inl (G.2 3, 401, .inr (.inl (fun _ => 0))))]) (v := .ref q4) S hnm hw fpX7_19 0 rfl rfl rfl (Nat.le_of_ble_eq_true rfl) rfl dX7_init_37 (fun H locs hw => ?_)
  refine W.widen (k := 4) (n := 1604) (by omega) (by omega) ?_
  exact hret _ _ _ _ _ ⟨q1, q2, q3, q4, rfl, rfl⟩ hw dX7_init_40
theorem dX4_init_0 : decode cX4_init 0 = .ok (.aload_n 0, 1) := by decide +kernel
theorem dX4_init_1 : decode cX4_init 1 = .ok (.invokespecial 5, 3) := by decide +kernel
theorem dX4_init_4 : decode cX4_init 4 = .ok (.aload_n 0, 1) := by decide +kernel
theorem dX4_init_5 : decode cX4_init 5 = .ok (.new 1, 3) := by decide +kernel
theorem dX4_init_8 : decode cX4_init 8 = .ok (.dup, 1) := by decide +kernel
theorem dX4_init_9 : decode cX4_init 9 = .ok (.invokespecial 11, 3) := by decide +kernel
theorem dX4_init_12 : decode cX4_init 12 = .ok (.putfield 12, 3) := by decide +kernel
theorem dX4_init_15 : decode cX4_init 15 = .ok (.aload_n 0, 1) := by decide +kernel
theorem dX4_init_16 : decode cX4_init 16 = .ok (.bipush 32, 2) := by decide +kernel
theorem dX4_init_18 : decode cX4_init 18 = .ok (.newarray .int, 2) := by decide +kernel
theorem dX4_init_20 : decode cX4_init 20 = .ok (.putfield 20, 3) := by decide +kernel
theorem dX4_init_23 : decode cX4_init 23 = .ok (.aload_n 0, 1) := by decide +kernel
theorem dX4_init_24 : decode cX4_init 24 = .ok (.iconst 0, 1) := by decide +kernel
theorem dX4_init_25 : decode cX4_init 25 = .ok (.putfield 24, 3) := by decide +kernel
theorem dX4_init_28 : decode cX4_init 28 = .ok (.aload_n 0, 1) := by decide +kernel
theorem dX4_init_29 : decode cX4_init 29 = .ok (.iconst 0, 1) := by decide +kernel
theorem dX4_init_30 : decode cX4_init 30 = .ok (.putfield 28, 3) := by decide +kernel
theorem dX4_init_33 : decode cX4_init 33 = .ok (.aload_n 0, 1) := by decide +kernel
theorem dX4_init_34 : decode cX4_init 34 = .ok (.iconst 0, 1) := by decide +kernel
theorem dX4_init_35 : decode cX4_init 35 = .ok (.putfield 31, 3) := by decide +kernel
theorem dX4_init_38 : decode cX4_init 38 = .ok (.aload_n 0, 1) := by decide +kernel
theorem dX4_init_39 : decode cX4_init 39 = .ok (.iconst (-1), 1) := by decide +kernel
theorem dX4_init_40 : decode cX4_init 40 = .ok (.putfield 34, 3) := by decide +kernel
theorem dX4_init_43 : decode cX4_init 43 = .ok (.aload_n 0, 1) := by decide +kernel
theorem dX4_init_44 : decode cX4_init 44 = .ok (.iconst 0, 1) := by decide +kernel
theorem dX4_init_45 : decode cX4_init 45 = .ok (.putfield 37, 3) := by decide +kernel
theorem dX4_init_48 : decode cX4_init 48 = .ok (.aload_n 0, 1) := by decide +kernel
theorem dX4_init_49 : decode cX4_init 49 = .ok (.iconst (-1), 1) := by decide +kernel
theorem dX4_init_50 : decode cX4_init 50 = .ok (.putfield 40, 3) := by decide +kernel
theorem dX4_init_53 : decode cX4_init 53 = .ok (.return_, 1) := by decide +kernel
set_option maxHeartbeats 4000000 in
set_option maxRecDepth 100000 in
theorem c_Reader_init (l : Launch) (G : zz_G) (h0 : Nat) : zz_M l G mX4_init 2 6 1640 [.ref h0] [(h0, .inr (4, [.null, .null, .int 0, .int 0, .int 0, .int 0, .int 0, .int 0]))] (fun rr u => ∃ (b1 : Nat), ∃ (b2 : Nat), ∃ (a1 : Nat), ∃ (a2 : Nat), ∃ (a3 : Nat), ∃ (a4 : Nat), rr = none ∧ u = [(h0, .inr (4, [.ref b1, .ref b2, .int 0, .int 0, .int 0, .int (-1), .int 0, .int (-1)])), (b1, .inr (7, [.ref a1, .ref a2, .ref a3, .ref a4])), (a1, .inl (G.2 0, 401, .inl (fun _ => 0))), (a2, .inl (G.2 0, 401, .inl (fun _ => 0))), (a3, .inl (G.2 0, 401, .inl (fun _ => 0))), (a4, .inl (G.2 3, 401, .inr (.inl (fun _ => 0)))), (b2, .inl (G.2 0, 32, .inl (fun _ => 0)))]) := by
  refine zz_enterv (by decide +kernel) (Nat.le_of_ble_eq_true rfl) ?_
  intro p e s m args below meth c A Q ls S hnm hret hw hl
  have hl : lv_has ls 1 [(0, .ref h0)] := hl
  have hx := S.1
  have hb := S.2.1
  refine lv_aload_n hx hb dX4_init_0 rfl (lv_at hl 0 rfl) ?_
  refine zz_obj S (zz_c1 33 rfl rfl) hl.1 dX4_init_1 (Nat.le_of_ble_eq_true rfl) (Nat.le_of_ble_eq_true rfl) ?_
  refine lv_aload_n hx hb dX4_init_4 rfl (lv_at hl 0 rfl) ?_
  refine zz_new (fs := zz_dX7) S hw kX7 tyX7 tyX7_ok (zz_c1 34 rfl rfl) (zz_c1 35 rfl rfl) (zz_c1 3 rfl rfl) dfX7 (Nat.le_of_ble_eq_true rfl) (Nat.le_of_ble_eq_true rfl) dX4_init_5 (fun q1 H hw => ?_)
  have hw : zz_w G A s [(h0, .inr (4, [.null, .null, .int 0, .int 0, .int 0, .int 0, .int 0, .int 0])), (q1, .inr (7, [.null, .null, .null, .null]))] H _ := hw
  refine lv_dup hx hb dX4_init_8 rfl ?_
  refine zz_callI (As := []) (rest := [.ref q1, .ref h0]) (wr := [(h0, .inr (4, [.null, .null, .int 0, .int 0, .int 0, .int 0, .int 0, .int 0]))]) S hw hl.1 lX4_11 (c_Tokens_init l G q1) ⟨Nat.le_of_ble_eq_true rfl, Nat.le_of_ble_eq_true rfl⟩ ⟨Nat.le_of_ble_eq_true rfl, Nat.le_of_ble_eq_true rfl⟩ [1] [0] (by decide) rfl rfl (by decide) (by decide) rfl rfl (Nat.le_of_ble_eq_true rfl) dX4_init_9 (fun rr u H locs hp hw => ?_)
  obtain ⟨a1_2, a2_3, a3_4, a4_5, rfl, rfl⟩ := hp
  have hw : zz_w G A s [(h0, .inr (4, [.null, .null, .int 0, .int 0, .int 0, .int 0, .int 0, .int 0])), (q1, .inr (7, [.ref a1_2, .ref a2_3, .ref a3_4, .ref a4_5])), (a1_2, .inl (G.2 0, 401, .inl (fun _ => 0))), (a2_3, .inl (G.2 0, 401, .inl (fun _ => 0))), (a3_4, .inl (G.2 0, 401, .inl (fun _ => 0))), (a4_5, .inl (G.2 3, 401, .inr (.inl (fun _ => 0))))] H _ := hw
  refine W.eq (g2 := F0 m 12 ls [.ref q1, .ref h0]) rfl ?_
  refine zz_putF (ws' := [(h0, .inr (4, [.ref q1, .null, .int 0, .int 0, .int 0, .int 0, .int 0, .int 0])), (q1, .inr (7, [.ref a1_2, .ref a2_3, .ref a3_4, .ref a4_5])), (a1_2, .inl (G.2 0, 401, .inl (fun _ => 0))), (a2_3, .inl (G.2 0, 401, .inl (fun _ => 0))), (a3_4, .inl (G.2 0, 401, .inl (fun _ => 0))), (a4_5, .inl (G.2 3, 401, .inr (.inl (fun _ => 0))))]) (v := .ref q1) S hnm hw fpX4_12 0 rfl rfl rfl (Nat.le_of_ble_eq_true rfl) rfl dX4_init_12 (fun H locs hw => ?_)
  refine lv_aload_n hx hb dX4_init_15 rfl (lv_at hl 0 rfl) ?_
  refine lv_bipush (v := 32) hx hb dX4_init_16 (by decide) ?_
  refine zz_newa (at_ := .int) (a0 := (32, .inl (fun _ => 0))) 0 S hw zz_ar0 rfl rfl (fun _ _ h => h) (fun _ => rfl) (by decide) (nI_clamp (n := 32) (by decide)) (by decide) (Nat.le_of_ble_eq_true rfl) (Nat.le_of_ble_eq_true rfl) dX4_init_18 (fun q6 H hw => ?_)
  have hw : zz_w G A s [(h0, .inr (4, [.ref q1, .null, .int 0, .int 0, .int 0, .int 0, .int 0, .int 0])), (q1, .inr (7, [.ref a1_2, .ref a2_3, .ref a3_4, .ref a4_5])), (a1_2, .inl (G.2 0, 401, .inl (fun _ => 0))), (a2_3, .inl (G.2 0, 401, .inl (fun _ => 0))), (a3_4, .inl (G.2 0, 401, .inl (fun _ => 0))), (a4_5, .inl (G.2 3, 401, .inr (.inl (fun _ => 0)))), (q6, .inl (G.2 0, 32, .inl (fun _ => 0)))] H _ := hw
  refine zz_putF (ws' := [(h0, .inr (4, [.ref q1, .ref q6, .int 0, .int 0, .int 0, .int 0, .int 0, .int 0])), (q1, .inr (7, [.ref a1_2, .ref a2_3, .ref a3_4, .ref a4_5])), (a1_2, .inl (G.2 0, 401, .inl (fun _ => 0))), (a2_3, .inl (G.2 0, 401, .inl (fun _ => 0))), (a3_4, .inl (G.2 0, 401, .inl (fun _ => 0))), (a4_5, .inl (G.2 3, 401, .inr (.inl (fun _ => 0)))), (q6, .inl (G.2 0, 32, .inl (fun _ => 0)))]) (v := .ref q6) S hnm hw fpX4_20 0 rfl rfl rfl (Nat.le_of_ble_eq_true rfl) rfl dX4_init_20 (fun H locs hw => ?_)
  refine lv_aload_n hx hb dX4_init_23 rfl (lv_at hl 0 rfl) ?_
  refine lv_iconst (v := 0) hx hb dX4_init_24 (by decide) ?_
  refine zz_put (ws' := [(h0, .inr (4, [.ref q1, .ref q6, .int 0, .int 0, .int 0, .int 0, .int 0, .int 0])), (q1, .inr (7, [.ref a1_2, .ref a2_3, .ref a3_4, .ref a4_5])), (a1_2, .inl (G.2 0, 401, .inl (fun _ => 0))), (a2_3, .inl (G.2 0, 401, .inl (fun _ => 0))), (a3_4, .inl (G.2 0, 401, .inl (fun _ => 0))), (a4_5, .inl (G.2 3, 401, .inr (.inl (fun _ => 0)))), (q6, .inl (G.2 0, 32, .inl (fun _ => 0)))]) (v := .int 0) S hw fpX4_24 0 rfl rfl rfl (Nat.le_of_ble_eq_true rfl) rfl dX4_init_25 (fun H locs hw => ?_)
  refine lv_aload_n hx hb dX4_init_28 rfl (lv_at hl 0 rfl) ?_
  refine lv_iconst (v := 0) hx hb dX4_init_29 (by decide) ?_
  refine zz_put (ws' := [(h0, .inr (4, [.ref q1, .ref q6, .int 0, .int 0, .int 0, .int 0, .int 0, .int 0])), (q1, .inr (7, [.ref a1_2, .ref a2_3, .ref a3_4, .ref a4_5])), (a1_2, .inl (G.2 0, 401, .inl (fun _ => 0))), (a2_3, .inl (G.2 0, 401, .inl (fun _ => 0))), (a3_4, .inl (G.2 0, 401, .inl (fun _ => 0))), (a4_5, .inl (G.2 3, 401, .inr (.inl (fun _ => 0)))), (q6, .inl (G.2 0, 32, .inl (fun _ => 0)))]) (v := .int 0) S hw fpX4_28 0 rfl rfl rfl (Nat.le_of_ble_eq_true rfl) rfl dX4_init_30 (fun H locs hw => ?_)
  refine lv_aload_n hx hb dX4_init_33 rfl (lv_at hl 0 rfl) ?_
  refine lv_iconst (v := 0) hx hb dX4_init_34 (by decide) ?_
  refine zz_put (ws' := [(h0, .inr (4, [.ref q1, .ref q6, .int 0, .int 0, .int 0, .int 0, .int 0, .int 0])), (q1, .inr (7, [.ref a1_2, .ref a2_3, .ref a3_4, .ref a4_5])), (a1_2, .inl (G.2 0, 401, .inl (fun _ => 0))), (a2_3, .inl (G.2 0, 401, .inl (fun _ => 0))), (a3_4, .inl (G.2 0, 401, .inl (fun _ => 0))), (a4_5, .inl (G.2 3, 401, .inr (.inl (fun _ => 0)))), (q6, .inl (G.2 0, 32, .inl (fun _ => 0)))]) (v := .int 0) S hw fpX4_31 0 rfl rfl rfl (Nat.le_of_ble_eq_true rfl) rfl dX4_init_35 (fun H locs hw => ?_)
  refine lv_aload_n hx hb dX4_init_38 rfl (lv_at hl 0 rfl) ?_
  refine lv_iconst (v := (-1)) hx hb dX4_init_39 (by decide) ?_
  refine zz_put (ws' := [(h0, .inr (4, [.ref q1, .ref q6, .int 0, .int 0, .int 0, .int (-1), .int 0, .int 0])), (q1, .inr (7, [.ref a1_2, .ref a2_3, .ref a3_4, .ref a4_5])), (a1_2, .inl (G.2 0, 401, .inl (fun _ => 0))), (a2_3, .inl (G.2 0, 401, .inl (fun _ => 0))), (a3_4, .inl (G.2 0, 401, .inl (fun _ => 0))), (a4_5, .inl (G.2 3, 401, .inr (.inl (fun _ => 0)))), (q6, .inl (G.2 0, 32, .inl (fun _ => 0)))]) (v := .int (-1)) S hw fpX4_34 0 rfl rfl rfl (Nat.le_of_ble_eq_true rfl) rfl dX4_init_40 (fun H locs hw => ?_)
  refine lv_aload_n hx hb dX4_init_43 rfl (lv_at hl 0 rfl) ?_
  refine lv_iconst (v := 0) hx hb dX4_init_44 (by decide) ?_
  refine zz_put (ws' := [(h0, .inr (4, [.ref q1, .ref q6, .int 0, .int 0, .int 0, .int (-1), .int 0, .int 0])), (q1, .inr (7, [.ref a1_2, .ref a2_3, .ref a3_4, .ref a4_5])), (a1_2, .inl (G.2 0, 401, .inl (fun _ => 0))), (a2_3, .inl (G.2 0, 401, .inl (fun _ => 0))), (a3_4, .inl (G.2 0, 401, .inl (fun _ => 0))), (a4_5, .inl (G.2 3, 401, .inr (.inl (fun _ => 0)))), (q6, .inl (G.2 0, 32, .inl (fun _ => 0)))]) (v := .int 0) S hw fpX4_37 0 rfl rfl rfl (Nat.le_of_ble_eq_true rfl) rfl dX4_init_45 (fun H locs hw => ?_)
  refine lv_aload_n hx hb dX4_init_48 rfl (lv_at hl 0 rfl) ?_
  refine lv_iconst (v := (-1)) hx hb dX4_init_49 (by decide) ?_
  refine zz_put (ws' := [(h0, .inr (4, [.ref q1, .ref q6, .int 0, .int 0, .int 0, .int (-1), .int 0, .int (-1)])), (q1, .inr (7, [.ref a1_2, .ref a2_3, .ref a3_4, .ref a4_5])), (a1_2, .inl (G.2 0, 401, .inl (fun _ => 0))), (a2_3, .inl (G.2 0, 401, .inl (fun _ => 0))), (a3_4, .inl (G.2 0, 401, .inl (fun _ => 0))), (a4_5, .inl (G.2 3, 401, .inr (.inl (fun _ => 0)))), (q6, .inl (G.2 0, 32, .inl (fun _ => 0)))]) (v := .int (-1)) S hw fpX4_40 0 rfl rfl rfl (Nat.le_of_ble_eq_true rfl) rfl dX4_init_50 (fun H locs hw => ?_)
  refine W.widen (k := 6) (n := 1640) (by omega) (by omega) ?_
  exact hret _ _ _ _ _ ⟨q1, q6, a1_2, a2_3, a3_4, a4_5, rfl, rfl⟩ hw dX4_init_53
theorem dX5_clear_0 : decode cX5_clear 0 = .ok (.aload_n 0, 1) := by decide +kernel
theorem dX5_clear_1 : decode cX5_clear 1 = .ok (.iconst 0, 1) := by decide +kernel
theorem dX5_clear_2 : decode cX5_clear 2 = .ok (.putfield 43, 3) := by decide +kernel
theorem dX5_clear_5 : decode cX5_clear 5 = .ok (.aload_n 0, 1) := by decide +kernel
theorem dX5_clear_6 : decode cX5_clear 6 = .ok (.iconst 0, 1) := by decide +kernel
theorem dX5_clear_7 : decode cX5_clear 7 = .ok (.putfield 47, 3) := by decide +kernel
theorem dX5_clear_10 : decode cX5_clear 10 = .ok (.aload_n 0, 1) := by decide +kernel
theorem dX5_clear_11 : decode cX5_clear 11 = .ok (.iconst 1, 1) := by decide +kernel
theorem dX5_clear_12 : decode cX5_clear 12 = .ok (.putfield 50, 3) := by decide +kernel
theorem dX5_clear_15 : decode cX5_clear 15 = .ok (.aload_n 0, 1) := by decide +kernel
theorem dX5_clear_16 : decode cX5_clear 16 = .ok (.iconst 0, 1) := by decide +kernel
theorem dX5_clear_17 : decode cX5_clear 17 = .ok (.putfield 53, 3) := by decide +kernel
theorem dX5_clear_20 : decode cX5_clear 20 = .ok (.aload_n 0, 1) := by decide +kernel
theorem dX5_clear_21 : decode cX5_clear 21 = .ok (.getfield 36, 3) := by decide +kernel
theorem dX5_clear_24 : decode cX5_clear 24 = .ok (.iconst 0, 1) := by decide +kernel
theorem dX5_clear_25 : decode cX5_clear 25 = .ok (.aaload, 1) := by decide +kernel
theorem dX5_clear_26 : decode cX5_clear 26 = .ok (.bipush 10, 2) := by decide +kernel
theorem dX5_clear_28 : decode cX5_clear 28 = .ok (.iconst 0, 1) := by decide +kernel
theorem dX5_clear_29 : decode cX5_clear 29 = .ok (.iconst 2, 1) := by decide +kernel
theorem dX5_clear_30 : decode cX5_clear 30 = .ok (.invokevirtual 60, 3) := by decide +kernel
theorem dX5_clear_33 : decode cX5_clear 33 = .ok (.aload_n 0, 1) := by decide +kernel
theorem dX5_clear_34 : decode cX5_clear 34 = .ok (.getfield 36, 3) := by decide +kernel
theorem dX5_clear_37 : decode cX5_clear 37 = .ok (.iconst 1, 1) := by decide +kernel
theorem dX5_clear_38 : decode cX5_clear 38 = .ok (.aaload, 1) := by decide +kernel
theorem dX5_clear_39 : decode cX5_clear 39 = .ok (.iconst 0, 1) := by decide +kernel
theorem dX5_clear_40 : decode cX5_clear 40 = .ok (.invokevirtual 64, 3) := by decide +kernel
theorem dX5_clear_43 : decode cX5_clear 43 = .ok (.aload_n 0, 1) := by decide +kernel
theorem dX5_clear_44 : decode cX5_clear 44 = .ok (.getfield 36, 3) := by decide +kernel
theorem dX5_clear_47 : decode cX5_clear 47 = .ok (.iconst 2, 1) := by decide +kernel
theorem dX5_clear_48 : decode cX5_clear 48 = .ok (.aaload, 1) := by decide +kernel
theorem dX5_clear_49 : decode cX5_clear 49 = .ok (.iconst 1, 1) := by decide +kernel
theorem dX5_clear_50 : decode cX5_clear 50 = .ok (.invokevirtual 64, 3) := by decide +kernel
theorem dX5_clear_53 : decode cX5_clear 53 = .ok (.aload_n 0, 1) := by decide +kernel
theorem dX5_clear_54 : decode cX5_clear 54 = .ok (.getfield 36, 3) := by decide +kernel
theorem dX5_clear_57 : decode cX5_clear 57 = .ok (.iconst 3, 1) := by decide +kernel
theorem dX5_clear_58 : decode cX5_clear 58 = .ok (.aaload, 1) := by decide +kernel
theorem dX5_clear_59 : decode cX5_clear 59 = .ok (.iconst 0, 1) := by decide +kernel
theorem dX5_clear_60 : decode cX5_clear 60 = .ok (.invokevirtual 64, 3) := by decide +kernel
theorem dX5_clear_63 : decode cX5_clear 63 = .ok (.return_, 1) := by decide +kernel
set_option maxHeartbeats 4000000 in
set_option maxRecDepth 100000 in
theorem c_Script_clear (l : Launch) (G : zz_G) (h0 : Nat) (s1 : Nat) (s2 : Nat) (s3 : Nat) (s4 : Nat) (s5 : Nat) (s6 : Nat) (s7 : Nat) (s8 : Nat) (s9 : Nat) (w0 : Nat) (w1 : Nat) (w2 : Nat) (w3 : Nat) (x0 : Nat) (x1 : Nat) (x2 : Nat) (x3 : Nat) (x4 : Nat) (x5 : Nat) (x6 : Nat) (x7 : Nat) (x8 : Nat) (x9 : Nat) (x10 : Nat) (x11 : Nat) (i1 : Int32) (i2 : Int32) (i3 : Int32) (i4 : Int32) (f0 : Nat → Int32) (g0 : Nat → Int32) (f1 : Nat → Int32) (g1 : Nat → Int32) (f2 : Nat → Int32) (g2 : Nat → Int32) (f3 : Nat → Int32) (g3 : Nat → Int32) (p0 : Int32) (u0 : Int32) (p1 : Int32) (u1 : Int32) (p2 : Int32) (u2 : Int32) (p3 : Int32) (u3 : Int32) : zz_M l G mX5_clear 2 0 0 [.ref h0] [(h0, .inr (5, [.ref s1, .ref s2, .ref s3, .ref s4, .ref s5, .ref s6, .ref s7, .ref s8, .ref s9, .int i1, .int i2, .int i3, .int i4])), (s8, .inl (G.2 4, 4, .inr (.inr (.inr (.inr (va_up (va_up (va_up (va_up (fun _ => none) 0 (some w0)) 1 (some w1)) 2 (some w2)) 3 (some w3))))))), (w0, .inr (2, [.ref x0, .ref x1, .ref x2, .int p0, .int u0])), (x0, .inl (G.2 0, 400, .inl f0)), (x1, .inl (G.2 0, 14, .inl g0)), (w1, .inr (2, [.ref x3, .ref x4, .ref x5, .int p1, .int u1])), (x3, .inl (G.2 0, 400, .inl f1)), (x4, .inl (G.2 0, 14, .inl g1)), (w2, .inr (2, [.ref x6, .ref x7, .ref x8, .int p2, .int u2])), (x6, .inl (G.2 0, 400, .inl f2)), (x7, .inl (G.2 0, 14, .inl g2)), (w3, .inr (2, [.ref x9, .ref x10, .ref x11, .int p3, .int u3])), (x9, .inl (G.2 0, 400, .inl f3)), (x10, .inl (G.2 0, 14, .inl g3))] (fun rr u => ∃ (ff0 : Nat → Int32), ∃ (gg0 : Nat → Int32), ∃ (ff1 : Nat → Int32), ∃ (gg1 : Nat → Int32), ∃ (ff2 : Nat → Int32), ∃ (gg2 : Nat → Int32), ∃ (ff3 : Nat → Int32), ∃ (gg3 : Nat → Int32), rr = none ∧ u = [(h0, .inr (5, [.ref s1, .ref s2, .ref s3, .ref s4, .ref s5, .ref s6, .ref s7, .ref s8, .ref s9, .int 0, .int 0, .int 1, .int 0])), (s8, .inl (G.2 4, 4, .inr (.inr (.inr (.inr (va_up (va_up (va_up (va_up (fun _ => none) 0 (some w0)) 1 (some w1)) 2 (some w2)) 3 (some w3))))))), (w0, .inr (2, [.ref x0, .ref x1, .ref x2, .int 1, .int 7])), (x0, .inl (G.2 0, 400, .inl ff0)), (x1, .inl (G.2 0, 14, .inl gg0)), (w1, .inr (2, [.ref x3, .ref x4, .ref x5, .int 1, .int 1])), (x3, .inl (G.2 0, 400, .inl ff1)), (x4, .inl (G.2 0, 14, .inl gg1)), (w2, .inr (2, [.ref x6, .ref x7, .ref x8, .int 1, .int 1])), (x6, .inl (G.2 0, 400, .inl ff2)), (x7, .inl (G.2 0, 14, .inl gg2)), (w3, .inr (2, [.ref x9, .ref x10, .ref x11, .int 1, .int 1])), (x9, .inl (G.2 0, 400, .inl ff3)), (x10, .inl (G.2 0, 14, .inl gg3))]) := by
  refine zz_enterv (by decide +kernel) (Nat.le_of_ble_eq_true rfl) ?_
  intro p e s m args below meth c A Q ls S hnm hret hw hl
  have hl : lv_has ls 1 [(0, .ref h0)] := hl
  have hx := S.1
  have hb := S.2.1
  refine lv_aload_n hx hb dX5_clear_0 rfl (lv_at hl 0 rfl) ?_
  refine lv_iconst (v := 0) hx hb dX5_clear_1 (by decide) ?_
  refine zz_put (ws' := [(h0, .inr (5, [.ref s1, .ref s2, .ref s3, .ref s4, .ref s5, .ref s6, .ref s7, .ref s8, .ref s9, .int 0, .int i2, .int i3, .int i4])), (s8, .inl (G.2 4, 4, .inr (.inr (.inr (.inr (va_up (va_up (va_up (va_up (fun _ => none) 0 (some w0)) 1 (some w1)) 2 (some w2)) 3 (some w3))))))), (w0, .inr (2, [.ref x0, .ref x1, .ref x2, .int p0, .int u0])), (x0, .inl (G.2 0, 400, .inl f0)), (x1, .inl (G.2 0, 14, .inl g0)), (w1, .inr (2, [.ref x3, .ref x4, .ref x5, .int p1, .int u1])), (x3, .inl (G.2 0, 400, .inl f1)), (x4, .inl (G.2 0, 14, .inl g1)), (w2, .inr (2, [.ref x6, .ref x7, .ref x8, .int p2, .int u2])), (x6, .inl (G.2 0, 400, .inl f2)), (x7, .inl (G.2 0, 14, .inl g2)), (w3, .inr (2, [.ref x9, .ref x10, .ref x11, .int p3, .int u3])), (x9, .inl (G.2 0, 400, .inl f3)), (x10, .inl (G.2 0, 14, .inl g3))]) (v := .int 0) S hw fpX5_43 0 rfl rfl rfl (Nat.le_of_ble_eq_true rfl) rfl dX5_clear_2 (fun H locs hw => ?_)
  refine lv_aload_n hx hb dX5_clear_5 rfl (lv_at hl 0 rfl) ?_
  refine lv_iconst (v := 0) hx hb dX5_clear_6 (by decide) ?_
  refine zz_put (ws' := [(h0, .inr (5, [.ref s1, .ref s2, .ref s3, .ref s4, .ref s5, .ref s6, .ref s7, .ref s8, .ref s9, .int 0, .int 0, .int i3, .int i4])), (s8, .inl (G.2 4, 4, .inr (.inr (.inr (.inr (va_up (va_up (va_up (va_up (fun _ => none) 0 (some w0)) 1 (some w1)) 2 (some w2)) 3 (some w3))))))), (w0, .inr (2, [.ref x0, .ref x1, .ref x2, .int p0, .int u0])), (x0, .inl (G.2 0, 400, .inl f0)), (x1, .inl (G.2 0, 14, .inl g0)), (w1, .inr (2, [.ref x3, .ref x4, .ref x5, .int p1, .int u1])), (x3, .inl (G.2 0, 400, .inl f1)), (x4, .inl (G.2 0, 14, .inl g1)), (w2, .inr (2, [.ref x6, .ref x7, .ref x8, .int p2, .int u2])), (x6, .inl (G.2 0, 400, .inl f2)), (x7, .inl (G.2 0, 14, .inl g2)), (w3, .inr (2, [.ref x9, .ref x10, .ref x11, .int p3, .int u3])), (x9, .inl (G.2 0, 400, .inl f3)), (x10, .inl (G.2 0, 14, .inl g3))]) (v := .int 0) S hw fpX5_47 0 rfl rfl rfl (Nat.le_of_ble_eq_true rfl) rfl dX5_clear_7 (fun H locs hw => ?_)
  refine lv_aload_n hx hb dX5_clear_10 rfl (lv_at hl 0 rfl) ?_
  refine lv_iconst (v := 1) hx hb dX5_clear_11 (by decide) ?_
  refine zz_put (ws' := [(h0, .inr (5, [.ref s1, .ref s2, .ref s3, .ref s4, .ref s5, .ref s6, .ref s7, .ref s8, .ref s9, .int 0, .int 0, .int 1, .int i4])), (s8, .inl (G.2 4, 4, .inr (.inr (.inr (.inr (va_up (va_up (va_up (va_up (fun _ => none) 0 (some w0)) 1 (some w1)) 2 (some w2)) 3 (some w3))))))), (w0, .inr (2, [.ref x0, .ref x1, .ref x2, .int p0, .int u0])), (x0, .inl (G.2 0, 400, .inl f0)), (x1, .inl (G.2 0, 14, .inl g0)), (w1, .inr (2, [.ref x3, .ref x4, .ref x5, .int p1, .int u1])), (x3, .inl (G.2 0, 400, .inl f1)), (x4, .inl (G.2 0, 14, .inl g1)), (w2, .inr (2, [.ref x6, .ref x7, .ref x8, .int p2, .int u2])), (x6, .inl (G.2 0, 400, .inl f2)), (x7, .inl (G.2 0, 14, .inl g2)), (w3, .inr (2, [.ref x9, .ref x10, .ref x11, .int p3, .int u3])), (x9, .inl (G.2 0, 400, .inl f3)), (x10, .inl (G.2 0, 14, .inl g3))]) (v := .int 1) S hw fpX5_50 0 rfl rfl rfl (Nat.le_of_ble_eq_true rfl) rfl dX5_clear_12 (fun H locs hw => ?_)
  refine lv_aload_n hx hb dX5_clear_15 rfl (lv_at hl 0 rfl) ?_
  refine lv_iconst (v := 0) hx hb dX5_clear_16 (by decide) ?_
  refine zz_put (ws' := [(h0, .inr (5, [.ref s1, .ref s2, .ref s3, .ref s4, .ref s5, .ref s6, .ref s7, .ref s8, .ref s9, .int 0, .int 0, .int 1, .int 0])), (s8, .inl (G.2 4, 4, .inr (.inr (.inr (.inr (va_up (va_up (va_up (va_up (fun _ => none) 0 (some w0)) 1 (some w1)) 2 (some w2)) 3 (some w3))))))), (w0, .inr (2, [.ref x0, .ref x1, .ref x2, .int p0, .int u0])), (x0, .inl (G.2 0, 400, .inl f0)), (x1, .inl (G.2 0, 14, .inl g0)), (w1, .inr (2, [.ref x3, .ref x4, .ref x5, .int p1, .int u1])), (x3, .inl (G.2 0, 400, .inl f1)), (x4, .inl (G.2 0, 14, .inl g1)), (w2, .inr (2, [.ref x6, .ref x7, .ref x8, .int p2, .int u2])), (x6, .inl (G.2 0, 400, .inl f2)), (x7, .inl (G.2 0, 14, .inl g2)), (w3, .inr (2, [.ref x9, .ref x10, .ref x11, .int p3, .int u3])), (x9, .inl (G.2 0, 400, .inl f3)), (x10, .inl (G.2 0, 14, .inl g3))]) (v := .int 0) S hw fpX5_53 0 rfl rfl rfl (Nat.le_of_ble_eq_true rfl) rfl dX5_clear_17 (fun H locs hw => ?_)
  refine lv_aload_n hx hb dX5_clear_20 rfl (lv_at hl 0 rfl) ?_
  refine zz_get (v := .ref s8) S hw fgX5_36 0 rfl rfl dX5_clear_21 ?_
  refine lv_iconst (v := 0) hx hb dX5_clear_24 (by decide) ?_
  refine zz_aldL (v := w0) S hw 1 rfl (vp_in_nI (n := 0) (by decide) (by decide)) (by rw [show (0 : Int32).toNatClampNeg = 0 from nI_clamp (n := 0) (by decide)]; rfl) dX5_clear_25 ?_
  refine lv_bipush (v := 10) hx hb dX5_clear_26 (by decide) ?_
  refine lv_iconst (v := 0) hx hb dX5_clear_28 (by decide) ?_
  refine lv_iconst (v := 2) hx hb dX5_clear_29 (by decide) ?_
  refine zz_callV (qb := 2) (As := [.int 10, .int 0, .int 2]) (rest := []) (wr := [(h0, .inr (5, [.ref s1, .ref s2, .ref s3, .ref s4, .ref s5, .ref s6, .ref s7, .ref s8, .ref s9, .int 0, .int 0, .int 1, .int 0])), (s8, .inl (G.2 4, 4, .inr (.inr (.inr (.inr (va_up (va_up (va_up (va_up (fun _ => none) 0 (some w0)) 1 (some w1)) 2 (some w2)) 3 (some w3))))))), (w1, .inr (2, [.ref x3, .ref x4, .ref x5, .int p1, .int u1])), (x3, .inl (G.2 0, 400, .inl f1)), (x4, .inl (G.2 0, 14, .inl g1)), (w2, .inr (2, [.ref x6, .ref x7, .ref x8, .int p2, .int u2])), (x6, .inl (G.2 0, 400, .inl f2)), (x7, .inl (G.2 0, 14, .inl g2)), (w3, .inr (2, [.ref x9, .ref x10, .ref x11, .int p3, .int u3])), (x9, .inl (G.2 0, 400, .inl f3)), (x10, .inl (G.2 0, 14, .inl g3))]) S hw hl.1 lX5_60 (c_Law_setNumberLess l G w0 x0 x1 x2 p0 u0 10 f0 g0) ⟨Nat.le_of_ble_eq_true rfl, Nat.le_of_ble_eq_true rfl⟩ ⟨Nat.le_of_ble_eq_true rfl, Nat.le_of_ble_eq_true rfl⟩ [2, 3, 4] [0, 1, 5, 6, 7, 8, 9, 10, 11, 12, 13] (by decide) rfl rfl (by decide) (by decide) rfl rfl rfl rfl (Nat.le_of_ble_eq_true rfl) dX5_clear_30 (fun rr u H locs hp hw => ?_)
  obtain ⟨ff_1, gg_2, rfl, rfl⟩ := hp
  have hw : zz_w G A s [(h0, .inr (5, [.ref s1, .ref s2, .ref s3, .ref s4, .ref s5, .ref s6, .ref s7, .ref s8, .ref s9, .int 0, .int 0, .int 1, .int 0])), (s8, .inl (G.2 4, 4, .inr (.inr (.inr (.inr (va_up (va_up (va_up (va_up (fun _ => none) 0 (some w0)) 1 (some w1)) 2 (some w2)) 3 (some w3))))))), (w1, .inr (2, [.ref x3, .ref x4, .ref x5, .int p1, .int u1])), (x3, .inl (G.2 0, 400, .inl f1)), (x4, .inl (G.2 0, 14, .inl g1)), (w2, .inr (2, [.ref x6, .ref x7, .ref x8, .int p2, .int u2])), (x6, .inl (G.2 0, 400, .inl f2)), (x7, .inl (G.2 0, 14, .inl g2)), (w3, .inr (2, [.ref x9, .ref x10, .ref x11, .int p3, .int u3])), (x9, .inl (G.2 0, 400, .inl f3)), (x10, .inl (G.2 0, 14, .inl g3)), (w0, .inr (2, [.ref x0, .ref x1, .ref x2, .int 1, .int 7])), (x0, .inl (G.2 0, 400, .inl ff_1)), (x1, .inl (G.2 0, 14, .inl gg_2))] H _ := hw
  refine W.eq (g2 := F0 m 33 ls []) rfl ?_
  refine lv_aload_n hx hb dX5_clear_33 rfl (lv_at hl 0 rfl) ?_
  refine zz_get (v := .ref s8) S hw fgX5_36 0 rfl rfl dX5_clear_34 ?_
  refine lv_iconst (v := 1) hx hb dX5_clear_37 (by decide) ?_
  refine zz_aldL (v := w1) S hw 1 rfl (vp_in_nI (n := 1) (by decide) (by decide)) (by rw [show (1 : Int32).toNatClampNeg = 1 from nI_clamp (n := 1) (by decide)]; rfl) dX5_clear_38 ?_
  refine lv_iconst (v := 0) hx hb dX5_clear_39 (by decide) ?_
  refine zz_callV (qb := 2) (As := [.int 0]) (rest := []) (wr := [(h0, .inr (5, [.ref s1, .ref s2, .ref s3, .ref s4, .ref s5, .ref s6, .ref s7, .ref s8, .ref s9, .int 0, .int 0, .int 1, .int 0])), (s8, .inl (G.2 4, 4, .inr (.inr (.inr (.inr (va_up (va_up (va_up (va_up (fun _ => none) 0 (some w0)) 1 (some w1)) 2 (some w2)) 3 (some w3))))))), (w2, .inr (2, [.ref x6, .ref x7, .ref x8, .int p2, .int u2])), (x6, .inl (G.2 0, 400, .inl f2)), (x7, .inl (G.2 0, 14, .inl g2)), (w3, .inr (2, [.ref x9, .ref x10, .ref x11, .int p3, .int u3])), (x9, .inl (G.2 0, 400, .inl f3)), (x10, .inl (G.2 0, 14, .inl g3)), (w0, .inr (2, [.ref x0, .ref x1, .ref x2, .int 1, .int 7])), (x0, .inl (G.2 0, 400, .inl ff_1)), (x1, .inl (G.2 0, 14, .inl gg_2))]) S hw hl.1 lX5_64 (c_Law_setNumber l G w1 x3 x4 x5 p1 u1 0 f1 g1) ⟨Nat.le_of_ble_eq_true rfl, Nat.le_of_ble_eq_true rfl⟩ ⟨Nat.le_of_ble_eq_true rfl, Nat.le_of_ble_eq_true rfl⟩ [2, 3, 4] [0, 1, 5, 6, 7, 8, 9, 10, 11, 12, 13] (by decide) rfl rfl (by decide) (by decide) rfl rfl rfl rfl (Nat.le_of_ble_eq_true rfl) dX5_clear_40 (fun rr u H locs hp hw => ?_)
  obtain ⟨ff_3, gg_4, rfl, rfl⟩ := hp
  have hw : zz_w G A s [(h0, .inr (5, [.ref s1, .ref s2, .ref s3, .ref s4, .ref s5, .ref s6, .ref s7, .ref s8, .ref s9, .int 0, .int 0, .int 1, .int 0])), (s8, .inl (G.2 4, 4, .inr (.inr (.inr (.inr (va_up (va_up (va_up (va_up (fun _ => none) 0 (some w0)) 1 (some w1)) 2 (some w2)) 3 (some w3))))))), (w2, .inr (2, [.ref x6, .ref x7, .ref x8, .int p2, .int u2])), (x6, .inl (G.2 0, 400, .inl f2)), (x7, .inl (G.2 0, 14, .inl g2)), (w3, .inr (2, [.ref x9, .ref x10, .ref x11, .int p3, .int u3])), (x9, .inl (G.2 0, 400, .inl f3)), (x10, .inl (G.2 0, 14, .inl g3)), (w0, .inr (2, [.ref x0, .ref x1, .ref x2, .int 1, .int 7])), (x0, .inl (G.2 0, 400, .inl ff_1)), (x1, .inl (G.2 0, 14, .inl gg_2)), (w1, .inr (2, [.ref x3, .ref x4, .ref x5, .int 1, .int 1])), (x3, .inl (G.2 0, 400, .inl ff_3)), (x4, .inl (G.2 0, 14, .inl gg_4))] H _ := hw
  refine W.eq (g2 := F0 m 43 ls []) rfl ?_
  refine lv_aload_n hx hb dX5_clear_43 rfl (lv_at hl 0 rfl) ?_
  refine zz_get (v := .ref s8) S hw fgX5_36 0 rfl rfl dX5_clear_44 ?_
  refine lv_iconst (v := 2) hx hb dX5_clear_47 (by decide) ?_
  refine zz_aldL (v := w2) S hw 1 rfl (vp_in_nI (n := 2) (by decide) (by decide)) (by rw [show (2 : Int32).toNatClampNeg = 2 from nI_clamp (n := 2) (by decide)]; rfl) dX5_clear_48 ?_
  refine lv_iconst (v := 1) hx hb dX5_clear_49 (by decide) ?_
  refine zz_callV (qb := 2) (As := [.int 1]) (rest := []) (wr := [(h0, .inr (5, [.ref s1, .ref s2, .ref s3, .ref s4, .ref s5, .ref s6, .ref s7, .ref s8, .ref s9, .int 0, .int 0, .int 1, .int 0])), (s8, .inl (G.2 4, 4, .inr (.inr (.inr (.inr (va_up (va_up (va_up (va_up (fun _ => none) 0 (some w0)) 1 (some w1)) 2 (some w2)) 3 (some w3))))))), (w3, .inr (2, [.ref x9, .ref x10, .ref x11, .int p3, .int u3])), (x9, .inl (G.2 0, 400, .inl f3)), (x10, .inl (G.2 0, 14, .inl g3)), (w0, .inr (2, [.ref x0, .ref x1, .ref x2, .int 1, .int 7])), (x0, .inl (G.2 0, 400, .inl ff_1)), (x1, .inl (G.2 0, 14, .inl gg_2)), (w1, .inr (2, [.ref x3, .ref x4, .ref x5, .int 1, .int 1])), (x3, .inl (G.2 0, 400, .inl ff_3)), (x4, .inl (G.2 0, 14, .inl gg_4))]) S hw hl.1 lX5_64 (c_Law_setNumber l G w2 x6 x7 x8 p2 u2 1 f2 g2) ⟨Nat.le_of_ble_eq_true rfl, Nat.le_of_ble_eq_true rfl⟩ ⟨Nat.le_of_ble_eq_true rfl, Nat.le_of_ble_eq_true rfl⟩ [2, 3, 4] [0, 1, 5, 6, 7, 8, 9, 10, 11, 12, 13] (by decide) rfl rfl (by decide) (by decide) rfl rfl rfl rfl (Nat.le_of_ble_eq_true rfl) dX5_clear_50 (fun rr u H locs hp hw => ?_)
  obtain ⟨ff_5, gg_6, rfl, rfl⟩ := hp
  have hw : zz_w G A s [(h0, .inr (5, [.ref s1, .ref s2, .ref s3, .ref s4, .ref s5, .ref s6, .ref s7, .ref s8, .ref s9, .int 0, .int 0, .int 1, .int 0])), (s8, .inl (G.2 4, 4, .inr (.inr (.inr (.inr (va_up (va_up (va_up (va_up (fun _ => none) 0 (some w0)) 1 (some w1)) 2 (some w2)) 3 (some w3))))))), (w3, .inr (2, [.ref x9, .ref x10, .ref x11, .int p3, .int u3])), (x9, .inl (G.2 0, 400, .inl f3)), (x10, .inl (G.2 0, 14, .inl g3)), (w0, .inr (2, [.ref x0, .ref x1, .ref x2, .int 1, .int 7])), (x0, .inl (G.2 0, 400, .inl ff_1)), (x1, .inl (G.2 0, 14, .inl gg_2)), (w1, .inr (2, [.ref x3, .ref x4, .ref x5, .int 1, .int 1])), (x3, .inl (G.2 0, 400, .inl ff_3)), (x4, .inl (G.2 0, 14, .inl gg_4)), (w2, .inr (2, [.ref x6, .ref x7, .ref x8, .int 1, .int 1])), (x6, .inl (G.2 0, 400, .inl ff_5)), (x7, .inl (G.2 0, 14, .inl gg_6))] H _ := hw
  refine W.eq (g2 := F0 m 53 ls []) rfl ?_
  refine lv_aload_n hx hb dX5_clear_53 rfl (lv_at hl 0 rfl) ?_
  refine zz_get (v := .ref s8) S hw fgX5_36 0 rfl rfl dX5_clear_54 ?_
  refine lv_iconst (v := 3) hx hb dX5_clear_57 (by decide) ?_
  refine zz_aldL (v := w3) S hw 1 rfl (vp_in_nI (n := 3) (by decide) (by decide)) (by rw [show (3 : Int32).toNatClampNeg = 3 from nI_clamp (n := 3) (by decide)]; rfl) dX5_clear_58 ?_
  refine lv_iconst (v := 0) hx hb dX5_clear_59 (by decide) ?_
  refine zz_callV (qb := 2) (As := [.int 0]) (rest := []) (wr := [(h0, .inr (5, [.ref s1, .ref s2, .ref s3, .ref s4, .ref s5, .ref s6, .ref s7, .ref s8, .ref s9, .int 0, .int 0, .int 1, .int 0])), (s8, .inl (G.2 4, 4, .inr (.inr (.inr (.inr (va_up (va_up (va_up (va_up (fun _ => none) 0 (some w0)) 1 (some w1)) 2 (some w2)) 3 (some w3))))))), (w0, .inr (2, [.ref x0, .ref x1, .ref x2, .int 1, .int 7])), (x0, .inl (G.2 0, 400, .inl ff_1)), (x1, .inl (G.2 0, 14, .inl gg_2)), (w1, .inr (2, [.ref x3, .ref x4, .ref x5, .int 1, .int 1])), (x3, .inl (G.2 0, 400, .inl ff_3)), (x4, .inl (G.2 0, 14, .inl gg_4)), (w2, .inr (2, [.ref x6, .ref x7, .ref x8, .int 1, .int 1])), (x6, .inl (G.2 0, 400, .inl ff_5)), (x7, .inl (G.2 0, 14, .inl gg_6))]) S hw hl.1 lX5_64 (c_Law_setNumber l G w3 x9 x10 x11 p3 u3 0 f3 g3) ⟨Nat.le_of_ble_eq_true rfl, Nat.le_of_ble_eq_true rfl⟩ ⟨Nat.le_of_ble_eq_true rfl, Nat.le_of_ble_eq_true rfl⟩ [2, 3, 4] [0, 1, 5, 6, 7, 8, 9, 10, 11, 12, 13] (by decide) rfl rfl (by decide) (by decide) rfl rfl rfl rfl (Nat.le_of_ble_eq_true rfl) dX5_clear_60 (fun rr u H locs hp hw => ?_)
  obtain ⟨ff_7, gg_8, rfl, rfl⟩ := hp
  have hw : zz_w G A s [(h0, .inr (5, [.ref s1, .ref s2, .ref s3, .ref s4, .ref s5, .ref s6, .ref s7, .ref s8, .ref s9, .int 0, .int 0, .int 1, .int 0])), (s8, .inl (G.2 4, 4, .inr (.inr (.inr (.inr (va_up (va_up (va_up (va_up (fun _ => none) 0 (some w0)) 1 (some w1)) 2 (some w2)) 3 (some w3))))))), (w0, .inr (2, [.ref x0, .ref x1, .ref x2, .int 1, .int 7])), (x0, .inl (G.2 0, 400, .inl ff_1)), (x1, .inl (G.2 0, 14, .inl gg_2)), (w1, .inr (2, [.ref x3, .ref x4, .ref x5, .int 1, .int 1])), (x3, .inl (G.2 0, 400, .inl ff_3)), (x4, .inl (G.2 0, 14, .inl gg_4)), (w2, .inr (2, [.ref x6, .ref x7, .ref x8, .int 1, .int 1])), (x6, .inl (G.2 0, 400, .inl ff_5)), (x7, .inl (G.2 0, 14, .inl gg_6)), (w3, .inr (2, [.ref x9, .ref x10, .ref x11, .int 1, .int 1])), (x9, .inl (G.2 0, 400, .inl ff_7)), (x10, .inl (G.2 0, 14, .inl gg_8))] H _ := hw
  refine W.eq (g2 := F0 m 63 ls []) rfl ?_
  exact hret _ _ _ _ _ ⟨ff_1, gg_2, ff_3, gg_4, ff_5, gg_6, ff_7, gg_8, rfl, rfl⟩ hw dX5_clear_63
theorem dX5_init_0 : decode cX5_init 0 = .ok (.aload_n 0, 1) := by decide +kernel
theorem dX5_init_1 : decode cX5_init 1 = .ok (.invokespecial 3, 3) := by decide +kernel
theorem dX5_init_4 : decode cX5_init 4 = .ok (.aload_n 0, 1) := by decide +kernel
theorem dX5_init_5 : decode cX5_init 5 = .ok (.bipush 13, 2) := by decide +kernel
theorem dX5_init_7 : decode cX5_init 7 = .ok (.newarray .long, 2) := by decide +kernel
theorem dX5_init_9 : decode cX5_init 9 = .ok (.putfield 9, 3) := by decide +kernel
theorem dX5_init_12 : decode cX5_init 12 = .ok (.aload_n 0, 1) := by decide +kernel
theorem dX5_init_13 : decode cX5_init 13 = .ok (.bipush 7, 2) := by decide +kernel
theorem dX5_init_15 : decode cX5_init 15 = .ok (.newarray .int, 2) := by decide +kernel
theorem dX5_init_17 : decode cX5_init 17 = .ok (.putfield 15, 3) := by decide +kernel
theorem dX5_init_20 : decode cX5_init 20 = .ok (.aload_n 0, 1) := by decide +kernel
theorem dX5_init_21 : decode cX5_init 21 = .ok (.bipush 7, 2) := by decide +kernel
theorem dX5_init_23 : decode cX5_init 23 = .ok (.newarray .int, 2) := by decide +kernel
theorem dX5_init_25 : decode cX5_init 25 = .ok (.putfield 19, 3) := by decide +kernel
theorem dX5_init_28 : decode cX5_init 28 = .ok (.aload_n 0, 1) := by decide +kernel
theorem dX5_init_29 : decode cX5_init 29 = .ok (.bipush 7, 2) := by decide +kernel
theorem dX5_init_31 : decode cX5_init 31 = .ok (.newarray .int, 2) := by decide +kernel
theorem dX5_init_33 : decode cX5_init 33 = .ok (.putfield 22, 3) := by decide +kernel
theorem dX5_init_36 : decode cX5_init 36 = .ok (.aload_n 0, 1) := by decide +kernel
theorem dX5_init_37 : decode cX5_init 37 = .ok (.bipush 6, 2) := by decide +kernel
theorem dX5_init_39 : decode cX5_init 39 = .ok (.newarray .int, 2) := by decide +kernel
theorem dX5_init_41 : decode cX5_init 41 = .ok (.putfield 25, 3) := by decide +kernel
theorem dX5_init_44 : decode cX5_init 44 = .ok (.aload_n 0, 1) := by decide +kernel
theorem dX5_init_45 : decode cX5_init 45 = .ok (.bipush 6, 2) := by decide +kernel
theorem dX5_init_47 : decode cX5_init 47 = .ok (.newarray .int, 2) := by decide +kernel
theorem dX5_init_49 : decode cX5_init 49 = .ok (.putfield 28, 3) := by decide +kernel
theorem dX5_init_52 : decode cX5_init 52 = .ok (.aload_n 0, 1) := by decide +kernel
theorem dX5_init_53 : decode cX5_init 53 = .ok (.bipush 6, 2) := by decide +kernel
theorem dX5_init_55 : decode cX5_init 55 = .ok (.newarray .int, 2) := by decide +kernel
theorem dX5_init_57 : decode cX5_init 57 = .ok (.putfield 31, 3) := by decide +kernel
theorem dX5_init_60 : decode cX5_init 60 = .ok (.aload_n 0, 1) := by decide +kernel
theorem dX5_init_61 : decode cX5_init 61 = .ok (.iconst 4, 1) := by decide +kernel
theorem dX5_init_62 : decode cX5_init 62 = .ok (.anewarray 34, 3) := by decide +kernel
theorem dX5_init_65 : decode cX5_init 65 = .ok (.putfield 36, 3) := by decide +kernel
theorem dX5_init_68 : decode cX5_init 68 = .ok (.aload_n 0, 1) := by decide +kernel
theorem dX5_init_69 : decode cX5_init 69 = .ok (.bipush 9, 2) := by decide +kernel
theorem dX5_init_71 : decode cX5_init 71 = .ok (.newarray .int, 2) := by decide +kernel
theorem dX5_init_73 : decode cX5_init 73 = .ok (.putfield 40, 3) := by decide +kernel
theorem dX5_init_76 : decode cX5_init 76 = .ok (.aload_n 0, 1) := by decide +kernel
theorem dX5_init_77 : decode cX5_init 77 = .ok (.iconst 0, 1) := by decide +kernel
theorem dX5_init_78 : decode cX5_init 78 = .ok (.putfield 43, 3) := by decide +kernel
theorem dX5_init_81 : decode cX5_init 81 = .ok (.aload_n 0, 1) := by decide +kernel
theorem dX5_init_82 : decode cX5_init 82 = .ok (.iconst 0, 1) := by decide +kernel
theorem dX5_init_83 : decode cX5_init 83 = .ok (.putfield 47, 3) := by decide +kernel
theorem dX5_init_86 : decode cX5_init 86 = .ok (.aload_n 0, 1) := by decide +kernel
theorem dX5_init_87 : decode cX5_init 87 = .ok (.iconst 1, 1) := by decide +kernel
theorem dX5_init_88 : decode cX5_init 88 = .ok (.putfield 50, 3) := by decide +kernel
theorem dX5_init_91 : decode cX5_init 91 = .ok (.aload_n 0, 1) := by decide +kernel
theorem dX5_init_92 : decode cX5_init 92 = .ok (.iconst 0, 1) := by decide +kernel
theorem dX5_init_93 : decode cX5_init 93 = .ok (.putfield 53, 3) := by decide +kernel
theorem dX5_init_96 : decode cX5_init 96 = .ok (.iconst 0, 1) := by decide +kernel
theorem dX5_init_97 : decode cX5_init 97 = .ok (.istore_n 1, 1) := by decide +kernel
theorem dX5_init_98 : decode cX5_init 98 = .ok (.iload_n 1, 1) := by decide +kernel
theorem dX5_init_99 : decode cX5_init 99 = .ok (.iconst 4, 1) := by decide +kernel
theorem dX5_init_100 : decode cX5_init 100 = .ok (.if_icmp .ge 22, 3) := by decide +kernel
theorem dX5_init_103 : decode cX5_init 103 = .ok (.aload_n 0, 1) := by decide +kernel
theorem dX5_init_104 : decode cX5_init 104 = .ok (.getfield 36, 3) := by decide +kernel
theorem dX5_init_107 : decode cX5_init 107 = .ok (.iload_n 1, 1) := by decide +kernel
theorem dX5_init_108 : decode cX5_init 108 = .ok (.new 34, 3) := by decide +kernel
theorem dX5_init_111 : decode cX5_init 111 = .ok (.dup, 1) := by decide +kernel
theorem dX5_init_112 : decode cX5_init 112 = .ok (.invokespecial 56, 3) := by decide +kernel
theorem dX5_init_115 : decode cX5_init 115 = .ok (.aastore, 1) := by decide +kernel
theorem dX5_init_116 : decode cX5_init 116 = .ok (.iinc 1 1, 3) := by decide +kernel
theorem dX5_init_119 : decode cX5_init 119 = .ok (.goto (-21), 3) := by decide +kernel
theorem dX5_init_122 : decode cX5_init 122 = .ok (.aload_n 0, 1) := by decide +kernel
theorem dX5_init_123 : decode cX5_init 123 = .ok (.invokevirtual 57, 3) := by decide +kernel
theorem dX5_init_126 : decode cX5_init 126 = .ok (.return_, 1) := by decide +kernel
set_option maxHeartbeats 4000000 in
set_option maxRecDepth 100000 in
theorem c_Script_init (l : Launch) (G : zz_G) (h0 : Nat) : zz_M l G mX5_init 3 25 1869 [.ref h0] [(h0, .inr (5, [.null, .null, .null, .null, .null, .null, .null, .null, .null, .int 0, .int 0, .int 0, .int 0]))] (fun rr u => ∃ (s1 : Nat), ∃ (s2 : Nat), ∃ (s3 : Nat), ∃ (s4 : Nat), ∃ (s5 : Nat), ∃ (s6 : Nat), ∃ (s7 : Nat), ∃ (s8 : Nat), ∃ (s9 : Nat), ∃ (w0 : Nat), ∃ (w1 : Nat), ∃ (w2 : Nat), ∃ (w3 : Nat), ∃ (x0 : Nat), ∃ (x1 : Nat), ∃ (x2 : Nat), ∃ (x3 : Nat), ∃ (x4 : Nat), ∃ (x5 : Nat), ∃ (x6 : Nat), ∃ (x7 : Nat), ∃ (x8 : Nat), ∃ (x9 : Nat), ∃ (x10 : Nat), ∃ (x11 : Nat), ∃ (ff0 : Nat → Int32), ∃ (gg0 : Nat → Int32), ∃ (ff1 : Nat → Int32), ∃ (gg1 : Nat → Int32), ∃ (ff2 : Nat → Int32), ∃ (gg2 : Nat → Int32), ∃ (ff3 : Nat → Int32), ∃ (gg3 : Nat → Int32), rr = none ∧ u = [(h0, .inr (5, [.ref s1, .ref s2, .ref s3, .ref s4, .ref s5, .ref s6, .ref s7, .ref s8, .ref s9, .int 0, .int 0, .int 1, .int 0])), (s1, .inl (G.2 3, 13, .inr (.inl (fun _ => 0)))), (s2, .inl (G.2 0, 7, .inl (fun _ => 0))), (s3, .inl (G.2 0, 7, .inl (fun _ => 0))), (s4, .inl (G.2 0, 7, .inl (fun _ => 0))), (s5, .inl (G.2 0, 6, .inl (fun _ => 0))), (s6, .inl (G.2 0, 6, .inl (fun _ => 0))), (s7, .inl (G.2 0, 6, .inl (fun _ => 0))), (s9, .inl (G.2 0, 9, .inl (fun _ => 0))), (s8, .inl (G.2 4, 4, .inr (.inr (.inr (.inr (va_up (va_up (va_up (va_up (fun _ => none) 0 (some w0)) 1 (some w1)) 2 (some w2)) 3 (some w3))))))), (w0, .inr (2, [.ref x0, .ref x1, .ref x2, .int 1, .int 7])), (x0, .inl (G.2 0, 400, .inl ff0)), (x1, .inl (G.2 0, 14, .inl gg0)), (x2, .inl (G.2 0, 32, .inl (fun _ => 0))), (w1, .inr (2, [.ref x3, .ref x4, .ref x5, .int 1, .int 1])), (x3, .inl (G.2 0, 400, .inl ff1)), (x4, .inl (G.2 0, 14, .inl gg1)), (x5, .inl (G.2 0, 32, .inl (fun _ => 0))), (w2, .inr (2, [.ref x6, .ref x7, .ref x8, .int 1, .int 1])), (x6, .inl (G.2 0, 400, .inl ff2)), (x7, .inl (G.2 0, 14, .inl gg2)), (x8, .inl (G.2 0, 32, .inl (fun _ => 0))), (w3, .inr (2, [.ref x9, .ref x10, .ref x11, .int 1, .int 1])), (x9, .inl (G.2 0, 400, .inl ff3)), (x10, .inl (G.2 0, 14, .inl gg3)), (x11, .inl (G.2 0, 32, .inl (fun _ => 0)))]) := by
  refine zz_enterv (by decide +kernel) (Nat.le_of_ble_eq_true rfl) ?_
  intro p e s m args below meth c A Q ls S hnm hret hw hl
  have hl : lv_has ls 2 [(0, .ref h0)] := hl
  have hx := S.1
  have hb := S.2.1
  refine lv_aload_n hx hb dX5_init_0 rfl (lv_at hl 0 rfl) ?_
  refine zz_obj S (zz_c1 91 rfl rfl) hl.1 dX5_init_1 (Nat.le_of_ble_eq_true rfl) (Nat.le_of_ble_eq_true rfl) ?_
  refine lv_aload_n hx hb dX5_init_4 rfl (lv_at hl 0 rfl) ?_
  refine lv_bipush (v := 13) hx hb dX5_init_5 (by decide) ?_
  refine zz_newa (at_ := .long) (a0 := (13, .inr (.inl (fun _ => 0)))) 3 S hw zz_ar3 rfl rfl (fun _ _ h => h) (fun _ => rfl) (by decide) (nI_clamp (n := 13) (by decide)) (by decide) (Nat.le_of_ble_eq_true rfl) (Nat.le_of_ble_eq_true rfl) dX5_init_7 (fun q1 H hw => ?_)
  have hw : zz_w G A s [(h0, .inr (5, [.null, .null, .null, .null, .null, .null, .null, .null, .null, .int 0, .int 0, .int 0, .int 0])), (q1, .inl (G.2 3, 13, .inr (.inl (fun _ => 0))))] H _ := hw
  refine zz_putF (ws' := [(h0, .inr (5, [.ref q1, .null, .null, .null, .null, .null, .null, .null, .null, .int 0, .int 0, .int 0, .int 0])), (q1, .inl (G.2 3, 13, .inr (.inl (fun _ => 0))))]) (v := .ref q1) S hnm hw fpX5_9 0 rfl rfl rfl (Nat.le_of_ble_eq_true rfl) rfl dX5_init_9 (fun H locs hw => ?_)
  refine lv_aload_n hx hb dX5_init_12 rfl (lv_at hl 0 rfl) ?_
  refine lv_bipush (v := 7) hx hb dX5_init_13 (by decide) ?_
  refine zz_newa (at_ := .int) (a0 := (7, .inl (fun _ => 0))) 0 S hw zz_ar0 rfl rfl (fun _ _ h => h) (fun _ => rfl) (by decide) (nI_clamp (n := 7) (by decide)) (by decide) (Nat.le_of_ble_eq_true rfl) (Nat.le_of_ble_eq_true rfl) dX5_init_15 (fun q2 H hw => ?_)
  have hw : zz_w G A s [(h0, .inr (5, [.ref q1, .null, .null, .null, .null, .null, .null, .null, .null, .int 0, .int 0, .int 0, .int 0])), (q1, .inl (G.2 3, 13, .inr (.inl (fun _ => 0)))), (q2, .inl (G.2 0, 7, .inl (fun _ => 0)))] H _ := hw
  refine zz_putF (ws' := [(h0, .inr (5, [.ref q1, .ref q2, .null, .null, .null, .null, .null, .null, .null, .int 0, .int 0, .int 0, .int 0])), (q1, .inl (G.2 3, 13, .inr (.inl (fun _ => 0)))), (q2, .inl (G.2 0, 7, .inl (fun _ => 0)))]) (v := .ref q2) S hnm hw fpX5_15 0 rfl rfl rfl (Nat.le_of_ble_eq_true rfl) rfl dX5_init_17 (fun H locs hw => ?_)
  refine lv_aload_n hx hb dX5_init_20 rfl (lv_at hl 0 rfl) ?_
  refine lv_bipush (v := 7) hx hb dX5_init_21 (by decide) ?_
  refine zz_newa (at_ := .int) (a0 := (7, .inl (fun _ => 0))) 0 S hw zz_ar0 rfl rfl (fun _ _ h => h) (fun _ => rfl) (by decide) (nI_clamp (n := 7) (by decide)) (by decide) (Nat.le_of_ble_eq_true rfl) (Nat.le_of_ble_eq_true rfl) dX5_init_23 (fun q3 H hw => ?_)
  have hw : zz_w G A s [(h0, .inr (5, [.ref q1, .ref q2, .null, .null, .null, .null, .null, .null, .null, .int 0, .int 0, .int 0, .int 0])), (q1, .inl (G.2 3, 13, .inr (.inl (fun _ => 0)))), (q2, .inl (G.2 0, 7, .inl (fun _ => 0))), (q3, .inl (G.2 0, 7, .inl (fun _ => 0)))] H _ := hw
  refine zz_putF (ws' := [(h0, .inr (5, [.ref q1, .ref q2, .ref q3, .null, .null, .null, .null, .null, .null, .int 0, .int 0, .int 0, .int 0])), (q1, .inl (G.2 3, 13, .inr (.inl (fun _ => 0)))), (q2, .inl (G.2 0, 7, .inl (fun _ => 0))), (q3, .inl (G.2 0, 7, .inl (fun _ => 0)))]) (v := .ref q3) S hnm hw fpX5_19 0 rfl rfl rfl (Nat.le_of_ble_eq_true rfl) rfl dX5_init_25 (fun H locs hw => ?_)
  refine lv_aload_n hx hb dX5_init_28 rfl (lv_at hl 0 rfl) ?_
  refine lv_bipush (v := 7) hx hb dX5_init_29 (by decide) ?_
  refine zz_newa (at_ := .int) (a0 := (7, .inl (fun _ => 0))) 0 S hw zz_ar0 rfl rfl (fun _ _ h => h) (fun _ => rfl) (by decide) (nI_clamp (n := 7) (by decide)) (by decide) (Nat.le_of_ble_eq_true rfl) (Nat.le_of_ble_eq_true rfl) dX5_init_31 (fun q4 H hw => ?_)
  have hw : zz_w G A s [(h0, .inr (5, [.ref q1, .ref q2, .ref q3, .null, .null, .null, .null, .null, .null, .int 0, .int 0, .int 0, .int 0])), (q1, .inl (G.2 3, 13, .inr (.inl (fun _ => 0)))), (q2, .inl (G.2 0, 7, .inl (fun _ => 0))), (q3, .inl (G.2 0, 7, .inl (fun _ => 0))), (q4, .inl (G.2 0, 7, .inl (fun _ => 0)))] H _ := hw
  refine zz_putF (ws' := [(h0, .inr (5, [.ref q1, .ref q2, .ref q3, .ref q4, .null, .null, .null, .null, .null, .int 0, .int 0, .int 0, .int 0])), (q1, .inl (G.2 3, 13, .inr (.inl (fun _ => 0)))), (q2, .inl (G.2 0, 7, .inl (fun _ => 0))), (q3, .inl (G.2 0, 7, .inl (fun _ => 0))), (q4, .inl (G.2 0, 7, .inl (fun _ => 0)))]) (v := .ref q4) S hnm hw fpX5_22 0 rfl rfl rfl (Nat.le_of_ble_eq_true rfl) rfl dX5_init_33 (fun H locs hw => ?_)
  refine lv_aload_n hx hb dX5_init_36 rfl (lv_at hl 0 rfl) ?_
  refine lv_bipush (v := 6) hx hb dX5_init_37 (by decide) ?_
  refine zz_newa (at_ := .int) (a0 := (6, .inl (fun _ => 0))) 0 S hw zz_ar0 rfl rfl (fun _ _ h => h) (fun _ => rfl) (by decide) (nI_clamp (n := 6) (by decide)) (by decide) (Nat.le_of_ble_eq_true rfl) (Nat.le_of_ble_eq_true rfl) dX5_init_39 (fun q5 H hw => ?_)
  have hw : zz_w G A s [(h0, .inr (5, [.ref q1, .ref q2, .ref q3, .ref q4, .null, .null, .null, .null, .null, .int 0, .int 0, .int 0, .int 0])), (q1, .inl (G.2 3, 13, .inr (.inl (fun _ => 0)))), (q2, .inl (G.2 0, 7, .inl (fun _ => 0))), (q3, .inl (G.2 0, 7, .inl (fun _ => 0))), (q4, .inl (G.2 0, 7, .inl (fun _ => 0))), (q5, .inl (G.2 0, 6, .inl (fun _ => 0)))] H _ := hw
  refine zz_putF (ws' := [(h0, .inr (5, [.ref q1, .ref q2, .ref q3, .ref q4, .ref q5, .null, .null, .null, .null, .int 0, .int 0, .int 0, .int 0])), (q1, .inl (G.2 3, 13, .inr (.inl (fun _ => 0)))), (q2, .inl (G.2 0, 7, .inl (fun _ => 0))), (q3, .inl (G.2 0, 7, .inl (fun _ => 0))), (q4, .inl (G.2 0, 7, .inl (fun _ => 0))), (q5, .inl (G.2 0, 6, .inl (fun _ => 0)))]) (v := .ref q5) S hnm hw fpX5_25 0 rfl rfl rfl (Nat.le_of_ble_eq_true rfl) rfl dX5_init_41 (fun H locs hw => ?_)
  refine lv_aload_n hx hb dX5_init_44 rfl (lv_at hl 0 rfl) ?_
  refine lv_bipush (v := 6) hx hb dX5_init_45 (by decide) ?_
  refine zz_newa (at_ := .int) (a0 := (6, .inl (fun _ => 0))) 0 S hw zz_ar0 rfl rfl (fun _ _ h => h) (fun _ => rfl) (by decide) (nI_clamp (n := 6) (by decide)) (by decide) (Nat.le_of_ble_eq_true rfl) (Nat.le_of_ble_eq_true rfl) dX5_init_47 (fun q6 H hw => ?_)
  have hw : zz_w G A s [(h0, .inr (5, [.ref q1, .ref q2, .ref q3, .ref q4, .ref q5, .null, .null, .null, .null, .int 0, .int 0, .int 0, .int 0])), (q1, .inl (G.2 3, 13, .inr (.inl (fun _ => 0)))), (q2, .inl (G.2 0, 7, .inl (fun _ => 0))), (q3, .inl (G.2 0, 7, .inl (fun _ => 0))), (q4, .inl (G.2 0, 7, .inl (fun _ => 0))), (q5, .inl (G.2 0, 6, .inl (fun _ => 0))), (q6, .inl (G.2 0, 6, .inl (fun _ => 0)))] H _ := hw
  refine zz_putF (ws' := [(h0, .inr (5, [.ref q1, .ref q2, .ref q3, .ref q4, .ref q5, .ref q6, .null, .null, .null, .int 0, .int 0, .int 0, .int 0])), (q1, .inl (G.2 3, 13, .inr (.inl (fun _ => 0)))), (q2, .inl (G.2 0, 7, .inl (fun _ => 0))), (q3, .inl (G.2 0, 7, .inl (fun _ => 0))), (q4, .inl (G.2 0, 7, .inl (fun _ => 0))), (q5, .inl (G.2 0, 6, .inl (fun _ => 0))), (q6, .inl (G.2 0, 6, .inl (fun _ => 0)))]) (v := .ref q6) S hnm hw fpX5_28 0 rfl rfl rfl (Nat.le_of_ble_eq_true rfl) rfl dX5_init_49 (fun H locs hw => ?_)
  refine lv_aload_n hx hb dX5_init_52 rfl (lv_at hl 0 rfl) ?_
  refine lv_bipush (v := 6) hx hb dX5_init_53 (by decide) ?_
  refine zz_newa (at_ := .int) (a0 := (6, .inl (fun _ => 0))) 0 S hw zz_ar0 rfl rfl (fun _ _ h => h) (fun _ => rfl) (by decide) (nI_clamp (n := 6) (by decide)) (by decide) (Nat.le_of_ble_eq_true rfl) (Nat.le_of_ble_eq_true rfl) dX5_init_55 (fun q7 H hw => ?_)
  have hw : zz_w G A s [(h0, .inr (5, [.ref q1, .ref q2, .ref q3, .ref q4, .ref q5, .ref q6, .null, .null, .null, .int 0, .int 0, .int 0, .int 0])), (q1, .inl (G.2 3, 13, .inr (.inl (fun _ => 0)))), (q2, .inl (G.2 0, 7, .inl (fun _ => 0))), (q3, .inl (G.2 0, 7, .inl (fun _ => 0))), (q4, .inl (G.2 0, 7, .inl (fun _ => 0))), (q5, .inl (G.2 0, 6, .inl (fun _ => 0))), (q6, .inl (G.2 0, 6, .inl (fun _ => 0))), (q7, .inl (G.2 0, 6, .inl (fun _ => 0)))] H _ := hw
  refine zz_putF (ws' := [(h0, .inr (5, [.ref q1, .ref q2, .ref q3, .ref q4, .ref q5, .ref q6, .ref q7, .null, .null, .int 0, .int 0, .int 0, .int 0])), (q1, .inl (G.2 3, 13, .inr (.inl (fun _ => 0)))), (q2, .inl (G.2 0, 7, .inl (fun _ => 0))), (q3, .inl (G.2 0, 7, .inl (fun _ => 0))), (q4, .inl (G.2 0, 7, .inl (fun _ => 0))), (q5, .inl (G.2 0, 6, .inl (fun _ => 0))), (q6, .inl (G.2 0, 6, .inl (fun _ => 0))), (q7, .inl (G.2 0, 6, .inl (fun _ => 0)))]) (v := .ref q7) S hnm hw fpX5_31 0 rfl rfl rfl (Nat.le_of_ble_eq_true rfl) rfl dX5_init_57 (fun H locs hw => ?_)
  refine lv_aload_n hx hb dX5_init_60 rfl (lv_at hl 0 rfl) ?_
  refine lv_iconst (v := 4) hx hb dX5_init_61 (by decide) ?_
  refine zz_newq 4 S hw (zz_c1 92 rfl rfl) hw.2.2.2.2.2.2.1 rfl (by decide) (nI_clamp (n := 4) (by decide)) (by decide) (Nat.le_of_ble_eq_true rfl) (Nat.le_of_ble_eq_true rfl) dX5_init_62 (fun q8 H hw => ?_)
  have hw : zz_w G A s [(h0, .inr (5, [.ref q1, .ref q2, .ref q3, .ref q4, .ref q5, .ref q6, .ref q7, .null, .null, .int 0, .int 0, .int 0, .int 0])), (q1, .inl (G.2 3, 13, .inr (.inl (fun _ => 0)))), (q2, .inl (G.2 0, 7, .inl (fun _ => 0))), (q3, .inl (G.2 0, 7, .inl (fun _ => 0))), (q4, .inl (G.2 0, 7, .inl (fun _ => 0))), (q5, .inl (G.2 0, 6, .inl (fun _ => 0))), (q6, .inl (G.2 0, 6, .inl (fun _ => 0))), (q7, .inl (G.2 0, 6, .inl (fun _ => 0))), (q8, .inl (G.2 4, 4, .inr (.inr (.inr (.inr (fun _ => none))))))] H _ := hw
  refine zz_putF (ws' := [(h0, .inr (5, [.ref q1, .ref q2, .ref q3, .ref q4, .ref q5, .ref q6, .ref q7, .ref q8, .null, .int 0, .int 0, .int 0, .int 0])), (q1, .inl (G.2 3, 13, .inr (.inl (fun _ => 0)))), (q2, .inl (G.2 0, 7, .inl (fun _ => 0))), (q3, .inl (G.2 0, 7, .inl (fun _ => 0))), (q4, .inl (G.2 0, 7, .inl (fun _ => 0))), (q5, .inl (G.2 0, 6, .inl (fun _ => 0))), (q6, .inl (G.2 0, 6, .inl (fun _ => 0))), (q7, .inl (G.2 0, 6, .inl (fun _ => 0))), (q8, .inl (G.2 4, 4, .inr (.inr (.inr (.inr (fun _ => none))))))]) (v := .ref q8) S hnm hw fpX5_36 0 rfl rfl rfl (Nat.le_of_ble_eq_true rfl) rfl dX5_init_65 (fun H locs hw => ?_)
  refine lv_aload_n hx hb dX5_init_68 rfl (lv_at hl 0 rfl) ?_
  refine lv_bipush (v := 9) hx hb dX5_init_69 (by decide) ?_
  refine zz_newa (at_ := .int) (a0 := (9, .inl (fun _ => 0))) 0 S hw zz_ar0 rfl rfl (fun _ _ h => h) (fun _ => rfl) (by decide) (nI_clamp (n := 9) (by decide)) (by decide) (Nat.le_of_ble_eq_true rfl) (Nat.le_of_ble_eq_true rfl) dX5_init_71 (fun q9 H hw => ?_)
  have hw : zz_w G A s [(h0, .inr (5, [.ref q1, .ref q2, .ref q3, .ref q4, .ref q5, .ref q6, .ref q7, .ref q8, .null, .int 0, .int 0, .int 0, .int 0])), (q1, .inl (G.2 3, 13, .inr (.inl (fun _ => 0)))), (q2, .inl (G.2 0, 7, .inl (fun _ => 0))), (q3, .inl (G.2 0, 7, .inl (fun _ => 0))), (q4, .inl (G.2 0, 7, .inl (fun _ => 0))), (q5, .inl (G.2 0, 6, .inl (fun _ => 0))), (q6, .inl (G.2 0, 6, .inl (fun _ => 0))), (q7, .inl (G.2 0, 6, .inl (fun _ => 0))), (q8, .inl (G.2 4, 4, .inr (.inr (.inr (.inr (fun _ => none)))))), (q9, .inl (G.2 0, 9, .inl (fun _ => 0)))] H _ := hw
  refine zz_putF (ws' := [(h0, .inr (5, [.ref q1, .ref q2, .ref q3, .ref q4, .ref q5, .ref q6, .ref q7, .ref q8, .ref q9, .int 0, .int 0, .int 0, .int 0])), (q1, .inl (G.2 3, 13, .inr (.inl (fun _ => 0)))), (q2, .inl (G.2 0, 7, .inl (fun _ => 0))), (q3, .inl (G.2 0, 7, .inl (fun _ => 0))), (q4, .inl (G.2 0, 7, .inl (fun _ => 0))), (q5, .inl (G.2 0, 6, .inl (fun _ => 0))), (q6, .inl (G.2 0, 6, .inl (fun _ => 0))), (q7, .inl (G.2 0, 6, .inl (fun _ => 0))), (q8, .inl (G.2 4, 4, .inr (.inr (.inr (.inr (fun _ => none)))))), (q9, .inl (G.2 0, 9, .inl (fun _ => 0)))]) (v := .ref q9) S hnm hw fpX5_40 0 rfl rfl rfl (Nat.le_of_ble_eq_true rfl) rfl dX5_init_73 (fun H locs hw => ?_)
  refine lv_aload_n hx hb dX5_init_76 rfl (lv_at hl 0 rfl) ?_
  refine lv_iconst (v := 0) hx hb dX5_init_77 (by decide) ?_
  refine zz_put (ws' := [(h0, .inr (5, [.ref q1, .ref q2, .ref q3, .ref q4, .ref q5, .ref q6, .ref q7, .ref q8, .ref q9, .int 0, .int 0, .int 0, .int 0])), (q1, .inl (G.2 3, 13, .inr (.inl (fun _ => 0)))), (q2, .inl (G.2 0, 7, .inl (fun _ => 0))), (q3, .inl (G.2 0, 7, .inl (fun _ => 0))), (q4, .inl (G.2 0, 7, .inl (fun _ => 0))), (q5, .inl (G.2 0, 6, .inl (fun _ => 0))), (q6, .inl (G.2 0, 6, .inl (fun _ => 0))), (q7, .inl (G.2 0, 6, .inl (fun _ => 0))), (q8, .inl (G.2 4, 4, .inr (.inr (.inr (.inr (fun _ => none)))))), (q9, .inl (G.2 0, 9, .inl (fun _ => 0)))]) (v := .int 0) S hw fpX5_43 0 rfl rfl rfl (Nat.le_of_ble_eq_true rfl) rfl dX5_init_78 (fun H locs hw => ?_)
  refine lv_aload_n hx hb dX5_init_81 rfl (lv_at hl 0 rfl) ?_
  refine lv_iconst (v := 0) hx hb dX5_init_82 (by decide) ?_
  refine zz_put (ws' := [(h0, .inr (5, [.ref q1, .ref q2, .ref q3, .ref q4, .ref q5, .ref q6, .ref q7, .ref q8, .ref q9, .int 0, .int 0, .int 0, .int 0])), (q1, .inl (G.2 3, 13, .inr (.inl (fun _ => 0)))), (q2, .inl (G.2 0, 7, .inl (fun _ => 0))), (q3, .inl (G.2 0, 7, .inl (fun _ => 0))), (q4, .inl (G.2 0, 7, .inl (fun _ => 0))), (q5, .inl (G.2 0, 6, .inl (fun _ => 0))), (q6, .inl (G.2 0, 6, .inl (fun _ => 0))), (q7, .inl (G.2 0, 6, .inl (fun _ => 0))), (q8, .inl (G.2 4, 4, .inr (.inr (.inr (.inr (fun _ => none)))))), (q9, .inl (G.2 0, 9, .inl (fun _ => 0)))]) (v := .int 0) S hw fpX5_47 0 rfl rfl rfl (Nat.le_of_ble_eq_true rfl) rfl dX5_init_83 (fun H locs hw => ?_)
  refine lv_aload_n hx hb dX5_init_86 rfl (lv_at hl 0 rfl) ?_
  refine lv_iconst (v := 1) hx hb dX5_init_87 (by decide) ?_
  refine zz_put (ws' := [(h0, .inr (5, [.ref q1, .ref q2, .ref q3, .ref q4, .ref q5, .ref q6, .ref q7, .ref q8, .ref q9, .int 0, .int 0, .int 1, .int 0])), (q1, .inl (G.2 3, 13, .inr (.inl (fun _ => 0)))), (q2, .inl (G.2 0, 7, .inl (fun _ => 0))), (q3, .inl (G.2 0, 7, .inl (fun _ => 0))), (q4, .inl (G.2 0, 7, .inl (fun _ => 0))), (q5, .inl (G.2 0, 6, .inl (fun _ => 0))), (q6, .inl (G.2 0, 6, .inl (fun _ => 0))), (q7, .inl (G.2 0, 6, .inl (fun _ => 0))), (q8, .inl (G.2 4, 4, .inr (.inr (.inr (.inr (fun _ => none)))))), (q9, .inl (G.2 0, 9, .inl (fun _ => 0)))]) (v := .int 1) S hw fpX5_50 0 rfl rfl rfl (Nat.le_of_ble_eq_true rfl) rfl dX5_init_88 (fun H locs hw => ?_)
  refine lv_aload_n hx hb dX5_init_91 rfl (lv_at hl 0 rfl) ?_
  refine lv_iconst (v := 0) hx hb dX5_init_92 (by decide) ?_
  refine zz_put (ws' := [(h0, .inr (5, [.ref q1, .ref q2, .ref q3, .ref q4, .ref q5, .ref q6, .ref q7, .ref q8, .ref q9, .int 0, .int 0, .int 1, .int 0])), (q1, .inl (G.2 3, 13, .inr (.inl (fun _ => 0)))), (q2, .inl (G.2 0, 7, .inl (fun _ => 0))), (q3, .inl (G.2 0, 7, .inl (fun _ => 0))), (q4, .inl (G.2 0, 7, .inl (fun _ => 0))), (q5, .inl (G.2 0, 6, .inl (fun _ => 0))), (q6, .inl (G.2 0, 6, .inl (fun _ => 0))), (q7, .inl (G.2 0, 6, .inl (fun _ => 0))), (q8, .inl (G.2 4, 4, .inr (.inr (.inr (.inr (fun _ => none)))))), (q9, .inl (G.2 0, 9, .inl (fun _ => 0)))]) (v := .int 0) S hw fpX5_53 0 rfl rfl rfl (Nat.le_of_ble_eq_true rfl) rfl dX5_init_93 (fun H locs hw => ?_)
  refine lv_iconst (v := 0) hx hb dX5_init_96 (by decide) ?_
  refine lv_istore_n (lv' := [(1, .int 0), (0, .ref h0)]) hx hb dX5_init_97 rfl hl (by decide) rfl (fun ls hl => ?_)
  refine lv_iload_n hx hb dX5_init_98 rfl (lv_at hl 0 rfl) ?_
  refine lv_iconst (v := 4) hx hb dX5_init_99 (by decide) ?_
  refine lv_icmp_ge (tgt := 122) hx hb dX5_init_100 (by decide) (fun cc => absurd cc (by decide)) (fun _ => ?_)
  refine lv_aload_n hx hb dX5_init_103 rfl (lv_at hl 1 rfl) ?_
  refine zz_get (v := .ref q8) S hw fgX5_36 0 rfl rfl dX5_init_104 ?_
  refine lv_iload_n hx hb dX5_init_107 rfl (lv_at hl 0 rfl) ?_
  refine zz_new (fs := zz_dX2) S hw kX2 tyX2 tyX2_ok (zz_c1 92 rfl rfl) (zz_c1 94 rfl rfl) (zz_c1 5 rfl rfl) dfX2 (Nat.le_of_ble_eq_true rfl) (Nat.le_of_ble_eq_true rfl) dX5_init_108 (fun q10 H hw => ?_)
  have hw : zz_w G A s [(h0, .inr (5, [.ref q1, .ref q2, .ref q3, .ref q4, .ref q5, .ref q6, .ref q7, .ref q8, .ref q9, .int 0, .int 0, .int 1, .int 0])), (q1, .inl (G.2 3, 13, .inr (.inl (fun _ => 0)))), (q2, .inl (G.2 0, 7, .inl (fun _ => 0))), (q3, .inl (G.2 0, 7, .inl (fun _ => 0))), (q4, .inl (G.2 0, 7, .inl (fun _ => 0))), (q5, .inl (G.2 0, 6, .inl (fun _ => 0))), (q6, .inl (G.2 0, 6, .inl (fun _ => 0))), (q7, .inl (G.2 0, 6, .inl (fun _ => 0))), (q8, .inl (G.2 4, 4, .inr (.inr (.inr (.inr (fun _ => none)))))), (q9, .inl (G.2 0, 9, .inl (fun _ => 0))), (q10, .inr (2, [.null, .null, .null, .int 0, .int 0]))] H _ := hw
  refine lv_dup hx hb dX5_init_111 rfl ?_
  refine zz_callI (As := []) (rest := [.ref q10, .int 0, .ref q8]) (wr := [(h0, .inr (5, [.ref q1, .ref q2, .ref q3, .ref q4, .ref q5, .ref q6, .ref q7, .ref q8, .ref q9, .int 0, .int 0, .int 1, .int 0])), (q1, .inl (G.2 3, 13, .inr (.inl (fun _ => 0)))), (q2, .inl (G.2 0, 7, .inl (fun _ => 0))), (q3, .inl (G.2 0, 7, .inl (fun _ => 0))), (q4, .inl (G.2 0, 7, .inl (fun _ => 0))), (q5, .inl (G.2 0, 6, .inl (fun _ => 0))), (q6, .inl (G.2 0, 6, .inl (fun _ => 0))), (q7, .inl (G.2 0, 6, .inl (fun _ => 0))), (q8, .inl (G.2 4, 4, .inr (.inr (.inr (.inr (fun _ => none)))))), (q9, .inl (G.2 0, 9, .inl (fun _ => 0)))]) S hw hl.1 lX5_56 (c_Law_init l G q10) ⟨Nat.le_of_ble_eq_true rfl, Nat.le_of_ble_eq_true rfl⟩ ⟨Nat.le_of_ble_eq_true rfl, Nat.le_of_ble_eq_true rfl⟩ [10] [0, 1, 2, 3, 4, 5, 6, 7, 8, 9] (by decide) rfl rfl (by decide) (by decide) rfl rfl (Nat.le_of_ble_eq_true rfl) dX5_init_112 (fun rr u H locs hp hw => ?_)
  obtain ⟨a1_11, a2_12, a3_13, rfl, rfl⟩ := hp
  have hw : zz_w G A s [(h0, .inr (5, [.ref q1, .ref q2, .ref q3, .ref q4, .ref q5, .ref q6, .ref q7, .ref q8, .ref q9, .int 0, .int 0, .int 1, .int 0])), (q1, .inl (G.2 3, 13, .inr (.inl (fun _ => 0)))), (q2, .inl (G.2 0, 7, .inl (fun _ => 0))), (q3, .inl (G.2 0, 7, .inl (fun _ => 0))), (q4, .inl (G.2 0, 7, .inl (fun _ => 0))), (q5, .inl (G.2 0, 6, .inl (fun _ => 0))), (q6, .inl (G.2 0, 6, .inl (fun _ => 0))), (q7, .inl (G.2 0, 6, .inl (fun _ => 0))), (q8, .inl (G.2 4, 4, .inr (.inr (.inr (.inr (fun _ => none)))))), (q9, .inl (G.2 0, 9, .inl (fun _ => 0))), (q10, .inr (2, [.ref a1_11, .ref a2_12, .ref a3_13, .int 0, .int 0])), (a1_11, .inl (G.2 0, 400, .inl (fun _ => 0))), (a2_12, .inl (G.2 0, 14, .inl (fun _ => 0))), (a3_13, .inl (G.2 0, 32, .inl (fun _ => 0)))] H _ := hw
  refine W.eq (g2 := F0 m 115 ls [.ref q10, .int 0, .ref q8]) rfl ?_
  refine zz_astL (ws' := [(h0, .inr (5, [.ref q1, .ref q2, .ref q3, .ref q4, .ref q5, .ref q6, .ref q7, .ref q8, .ref q9, .int 0, .int 0, .int 1, .int 0])), (q1, .inl (G.2 3, 13, .inr (.inl (fun _ => 0)))), (q2, .inl (G.2 0, 7, .inl (fun _ => 0))), (q3, .inl (G.2 0, 7, .inl (fun _ => 0))), (q4, .inl (G.2 0, 7, .inl (fun _ => 0))), (q5, .inl (G.2 0, 6, .inl (fun _ => 0))), (q6, .inl (G.2 0, 6, .inl (fun _ => 0))), (q7, .inl (G.2 0, 6, .inl (fun _ => 0))), (q8, .inl (G.2 4, 4, .inr (.inr (.inr (.inr (va_up (fun _ => none) 0 (some q10))))))), (q9, .inl (G.2 0, 9, .inl (fun _ => 0))), (q10, .inr (2, [.ref a1_11, .ref a2_12, .ref a3_13, .int 0, .int 0])), (a1_11, .inl (G.2 0, 400, .inl (fun _ => 0))), (a2_12, .inl (G.2 0, 14, .inl (fun _ => 0))), (a3_13, .inl (G.2 0, 32, .inl (fun _ => 0)))]) (g := (va_up (fun _ => none) 0 (some q10))) S hw 8 10 rfl rfl (vp_in_nI (n := 0) (by decide) (by decide)) (zz_vun (n := 0) (by decide)) rfl dX5_init_115 (fun H locs hw => ?_)
  refine lv_iinc (v := 1) (lv' := [(1, .int 1), (0, .ref h0)]) hx hb dX5_init_116 hl (k := 0) rfl (by decide) (by decide) rfl (fun ls hl => ?_)
  refine lv_goto (tgt := 98) hx hb dX5_init_119 (by decide) ?_
  refine lv_iload_n hx hb dX5_init_98 rfl (lv_at hl 0 rfl) ?_
  refine lv_iconst (v := 4) hx hb dX5_init_99 (by decide) ?_
  refine lv_icmp_ge (tgt := 122) hx hb dX5_init_100 (by decide) (fun cc => absurd cc (by decide)) (fun _ => ?_)
  refine lv_aload_n hx hb dX5_init_103 rfl (lv_at hl 1 rfl) ?_
  refine zz_get (v := .ref q8) S hw fgX5_36 0 rfl rfl dX5_init_104 ?_
  refine lv_iload_n hx hb dX5_init_107 rfl (lv_at hl 0 rfl) ?_
  refine zz_new (fs := zz_dX2) S hw kX2 tyX2 tyX2_ok (zz_c1 92 rfl rfl) (zz_c1 94 rfl rfl) (zz_c1 5 rfl rfl) dfX2 (Nat.le_of_ble_eq_true rfl) (Nat.le_of_ble_eq_true rfl) dX5_init_108 (fun q14 H hw => ?_)
  have hw : zz_w G A s [(h0, .inr (5, [.ref q1, .ref q2, .ref q3, .ref q4, .ref q5, .ref q6, .ref q7, .ref q8, .ref q9, .int 0, .int 0, .int 1, .int 0])), (q1, .inl (G.2 3, 13, .inr (.inl (fun _ => 0)))), (q2, .inl (G.2 0, 7, .inl (fun _ => 0))), (q3, .inl (G.2 0, 7, .inl (fun _ => 0))), (q4, .inl (G.2 0, 7, .inl (fun _ => 0))), (q5, .inl (G.2 0, 6, .inl (fun _ => 0))), (q6, .inl (G.2 0, 6, .inl (fun _ => 0))), (q7, .inl (G.2 0, 6, .inl (fun _ => 0))), (q8, .inl (G.2 4, 4, .inr (.inr (.inr (.inr (va_up (fun _ => none) 0 (some q10))))))), (q9, .inl (G.2 0, 9, .inl (fun _ => 0))), (q10, .inr (2, [.ref a1_11, .ref a2_12, .ref a3_13, .int 0, .int 0])), (a1_11, .inl (G.2 0, 400, .inl (fun _ => 0))), (a2_12, .inl (G.2 0, 14, .inl (fun _ => 0))), (a3_13, .inl (G.2 0, 32, .inl (fun _ => 0))), (q14, .inr (2, [.null, .null, .null, .int 0, .int 0]))] H _ := hw
  refine lv_dup hx hb dX5_init_111 rfl ?_
  refine zz_callI (As := []) (rest := [.ref q14, .int 1, .ref q8]) (wr := [(h0, .inr (5, [.ref q1, .ref q2, .ref q3, .ref q4, .ref q5, .ref q6, .ref q7, .ref q8, .ref q9, .int 0, .int 0, .int 1, .int 0])), (q1, .inl (G.2 3, 13, .inr (.inl (fun _ => 0)))), (q2, .inl (G.2 0, 7, .inl (fun _ => 0))), (q3, .inl (G.2 0, 7, .inl (fun _ => 0))), (q4, .inl (G.2 0, 7, .inl (fun _ => 0))), (q5, .inl (G.2 0, 6, .inl (fun _ => 0))), (q6, .inl (G.2 0, 6, .inl (fun _ => 0))), (q7, .inl (G.2 0, 6, .inl (fun _ => 0))), (q8, .inl (G.2 4, 4, .inr (.inr (.inr (.inr (va_up (fun _ => none) 0 (some q10))))))), (q9, .inl (G.2 0, 9, .inl (fun _ => 0))), (q10, .inr (2, [.ref a1_11, .ref a2_12, .ref a3_13, .int 0, .int 0])), (a1_11, .inl (G.2 0, 400, .inl (fun _ => 0))), (a2_12, .inl (G.2 0, 14, .inl (fun _ => 0))), (a3_13, .inl (G.2 0, 32, .inl (fun _ => 0)))]) S hw hl.1 lX5_56 (c_Law_init l G q14) ⟨Nat.le_of_ble_eq_true rfl, Nat.le_of_ble_eq_true rfl⟩ ⟨Nat.le_of_ble_eq_true rfl, Nat.le_of_ble_eq_true rfl⟩ [14] [0, 1, 2, 3, 4, 5, 6, 7, 8, 9, 10, 11, 12, 13] (by decide) rfl rfl (by decide) (by decide) rfl rfl (Nat.le_of_ble_eq_true rfl) dX5_init_112 (fun rr u H locs hp hw => ?_)
  obtain ⟨a1_15, a2_16, a3_17, rfl, rfl⟩ := hp
  have hw : zz_w G A s [(h0, .inr (5, [.ref q1, .ref q2, .ref q3, .ref q4, .ref q5, .ref q6, .ref q7, .ref q8, .ref q9, .int 0, .int 0, .int 1, .int 0])), (q1, .inl (G.2 3, 13, .inr (.inl (fun _ => 0)))), (q2, .inl (G.2 0, 7, .inl (fun _ => 0))), (q3, .inl (G.2 0, 7, .inl (fun _ => 0))), (q4, .inl (G.2 0, 7, .inl (fun _ => 0))), (q5, .inl (G.2 0, 6, .inl (fun _ => 0))), (q6, .inl (G.2 0, 6, .inl (fun _ => 0))), (q7, .inl (G.2 0, 6, .inl (fun _ => 0))), (q8, .inl (G.2 4, 4, .inr (.inr (.inr (.inr (va_up (fun _ => none) 0 (some q10))))))), (q9, .inl (G.2 0, 9, .inl (fun _ => 0))), (q10, .inr (2, [.ref a1_11, .ref a2_12, .ref a3_13, .int 0, .int 0])), (a1_11, .inl (G.2 0, 400, .inl (fun _ => 0))), (a2_12, .inl (G.2 0, 14, .inl (fun _ => 0))), (a3_13, .inl (G.2 0, 32, .inl (fun _ => 0))), (q14, .inr (2, [.ref a1_15, .ref a2_16, .ref a3_17, .int 0, .int 0])), (a1_15, .inl (G.2 0, 400, .inl (fun _ => 0))), (a2_16, .inl (G.2 0, 14, .inl (fun _ => 0))), (a3_17, .inl (G.2 0, 32, .inl (fun _ => 0)))] H _ := hw
  refine W.eq (g2 := F0 m 115 ls [.ref q14, .int 1, .ref q8]) rfl ?_
  refine zz_astL (ws' := [(h0, .inr (5, [.ref q1, .ref q2, .ref q3, .ref q4, .ref q5, .ref q6, .ref q7, .ref q8, .ref q9, .int 0, .int 0, .int 1, .int 0])), (q1, .inl (G.2 3, 13, .inr (.inl (fun _ => 0)))), (q2, .inl (G.2 0, 7, .inl (fun _ => 0))), (q3, .inl (G.2 0, 7, .inl (fun _ => 0))), (q4, .inl (G.2 0, 7, .inl (fun _ => 0))), (q5, .inl (G.2 0, 6, .inl (fun _ => 0))), (q6, .inl (G.2 0, 6, .inl (fun _ => 0))), (q7, .inl (G.2 0, 6, .inl (fun _ => 0))), (q8, .inl (G.2 4, 4, .inr (.inr (.inr (.inr (va_up (va_up (fun _ => none) 0 (some q10)) 1 (some q14))))))), (q9, .inl (G.2 0, 9, .inl (fun _ => 0))), (q10, .inr (2, [.ref a1_11, .ref a2_12, .ref a3_13, .int 0, .int 0])), (a1_11, .inl (G.2 0, 400, .inl (fun _ => 0))), (a2_12, .inl (G.2 0, 14, .inl (fun _ => 0))), (a3_13, .inl (G.2 0, 32, .inl (fun _ => 0))), (q14, .inr (2, [.ref a1_15, .ref a2_16, .ref a3_17, .int 0, .int 0])), (a1_15, .inl (G.2 0, 400, .inl (fun _ => 0))), (a2_16, .inl (G.2 0, 14, .inl (fun _ => 0))), (a3_17, .inl (G.2 0, 32, .inl (fun _ => 0)))]) (g := (va_up (va_up (fun _ => none) 0 (some q10)) 1 (some q14))) S hw 8 14 rfl rfl (vp_in_nI (n := 1) (by decide) (by decide)) (zz_vun (n := 1) (by decide)) rfl dX5_init_115 (fun H locs hw => ?_)
  refine lv_iinc (v := 2) (lv' := [(1, .int 2), (0, .ref h0)]) hx hb dX5_init_116 hl (k := 0) rfl (by decide) (by decide) rfl (fun ls hl => ?_)
  refine lv_goto (tgt := 98) hx hb dX5_init_119 (by decide) ?_
  refine lv_iload_n hx hb dX5_init_98 rfl (lv_at hl 0 rfl) ?_
  refine lv_iconst (v := 4) hx hb dX5_init_99 (by decide) ?_
  refine lv_icmp_ge (tgt := 122) hx hb dX5_init_100 (by decide) (fun cc => absurd cc (by decide)) (fun _ => ?_)
  refine lv_aload_n hx hb dX5_init_103 rfl (lv_at hl 1 rfl) ?_
  refine zz_get (v := .ref q8) S hw fgX5_36 0 rfl rfl dX5_init_104 ?_
  refine lv_iload_n hx hb dX5_init_107 rfl (lv_at hl 0 rfl) ?_
  refine zz_new (fs := zz_dX2) S hw kX2 tyX2 tyX2_ok (zz_c1 92 rfl rfl) (zz_c1 94 rfl rfl) (zz_c1 5 rfl rfl) dfX2 (Nat.le_of_ble_eq_true rfl) (Nat.le_of_ble_eq_true rfl) dX5_init_108 (fun q18 H hw => ?_)
  have hw : zz_w G A s [(h0, .inr (5, [.ref q1, .ref q2, .ref q3, .ref q4, .ref q5, .ref q6, .ref q7, .ref q8, .ref q9, .int 0, .int 0, .int 1, .int 0])), (q1, .inl (G.2 3, 13, .inr (.inl (fun _ => 0)))), (q2, .inl (G.2 0, 7, .inl (fun _ => 0))), (q3, .inl (G.2 0, 7, .inl (fun _ => 0))), (q4, .inl (G.2 0, 7, .inl (fun _ => 0))), (q5, .inl (G.2 0, 6, .inl (fun _ => 0))), (q6, .inl (G.2 0, 6, .inl (fun _ => 0))), (q7, .inl (G.2 0, 6, .inl (fun _ => 0))), (q8, .inl (G.2 4, 4, .inr (.inr (.inr (.inr (va_up (va_up (fun _ => none) 0 (some q10)) 1 (some q14))))))), (q9, .inl (G.2 0, 9, .inl (fun _ => 0))), (q10, .inr (2, [.ref a1_11, .ref a2_12, .ref a3_13, .int 0, .int 0])), (a1_11, .inl (G.2 0, 400, .inl (fun _ => 0))), (a2_12, .inl (G.2 0, 14, .inl (fun _ => 0))), (a3_13, .inl (G.2 0, 32, .inl (fun _ => 0))), (q14, .inr (2, [.ref a1_15, .ref a2_16, .ref a3_17, .int 0, .int 0])), (a1_15, .inl (G.2 0, 400, .inl (fun _ => 0))), (a2_16, .inl (G.2 0, 14, .inl (fun _ => 0))), (a3_17, .inl (G.2 0, 32, .inl (fun _ => 0))), (q18, .inr (2, [.null, .null, .null, .int 0, .int 0]))] H _ := hw
  refine lv_dup hx hb dX5_init_111 rfl ?_
  refine zz_callI (As := []) (rest := [.ref q18, .int 2, .ref q8]) (wr := [(h0, .inr (5, [.ref q1, .ref q2, .ref q3, .ref q4, .ref q5, .ref q6, .ref q7, .ref q8, .ref q9, .int 0, .int 0, .int 1, .int 0])), (q1, .inl (G.2 3, 13, .inr (.inl (fun _ => 0)))), (q2, .inl (G.2 0, 7, .inl (fun _ => 0))), (q3, .inl (G.2 0, 7, .inl (fun _ => 0))), (q4, .inl (G.2 0, 7, .inl (fun _ => 0))), (q5, .inl (G.2 0, 6, .inl (fun _ => 0))), (q6, .inl (G.2 0, 6, .inl (fun _ => 0))), (q7, .inl (G.2 0, 6, .inl (fun _ => 0))), (q8, .inl (G.2 4, 4, .inr (.inr (.inr (.inr (va_up (va_up (fun _ => none) 0 (some q10)) 1 (some q14))))))), (q9, .inl (G.2 0, 9, .inl (fun _ => 0))), (q10, .inr (2, [.ref a1_11, .ref a2_12, .ref a3_13, .int 0, .int 0])), (a1_11, .inl (G.2 0, 400, .inl (fun _ => 0))), (a2_12, .inl (G.2 0, 14, .inl (fun _ => 0))), (a3_13, .inl (G.2 0, 32, .inl (fun _ => 0))), (q14, .inr (2, [.ref a1_15, .ref a2_16, .ref a3_17, .int 0, .int 0])), (a1_15, .inl (G.2 0, 400, .inl (fun _ => 0))), (a2_16, .inl (G.2 0, 14, .inl (fun _ => 0))), (a3_17, .inl (G.2 0, 32, .inl (fun _ => 0)))]) S hw hl.1 lX5_56 (c_Law_init l G q18) ⟨Nat.le_of_ble_eq_true rfl, Nat.le_of_ble_eq_true rfl⟩ ⟨Nat.le_of_ble_eq_true rfl, Nat.le_of_ble_eq_true rfl⟩ [18] [0, 1, 2, 3, 4, 5, 6, 7, 8, 9, 10, 11, 12, 13, 14, 15, 16, 17] (by decide) rfl rfl (by decide) (by decide) rfl rfl (Nat.le_of_ble_eq_true rfl) dX5_init_112 (fun rr u H locs hp hw => ?_)
  obtain ⟨a1_19, a2_20, a3_21, rfl, rfl⟩ := hp
  have hw : zz_w G A s [(h0, .inr (5, [.ref q1, .ref q2, .ref q3, .ref q4, .ref q5, .ref q6, .ref q7, .ref q8, .ref q9, .int 0, .int 0, .int 1, .int 0])), (q1, .inl (G.2 3, 13, .inr (.inl (fun _ => 0)))), (q2, .inl (G.2 0, 7, .inl (fun _ => 0))), (q3, .inl (G.2 0, 7, .inl (fun _ => 0))), (q4, .inl (G.2 0, 7, .inl (fun _ => 0))), (q5, .inl (G.2 0, 6, .inl (fun _ => 0))), (q6, .inl (G.2 0, 6, .inl (fun _ => 0))), (q7, .inl (G.2 0, 6, .inl (fun _ => 0))), (q8, .inl (G.2 4, 4, .inr (.inr (.inr (.inr (va_up (va_up (fun _ => none) 0 (some q10)) 1 (some q14))))))), (q9, .inl (G.2 0, 9, .inl (fun _ => 0))), (q10, .inr (2, [.ref a1_11, .ref a2_12, .ref a3_13, .int 0, .int 0])), (a1_11, .inl (G.2 0, 400, .inl (fun _ => 0))), (a2_12, .inl (G.2 0, 14, .inl (fun _ => 0))), (a3_13, .inl (G.2 0, 32, .inl (fun _ => 0))), (q14, .inr (2, [.ref a1_15, .ref a2_16, .ref a3_17, .int 0, .int 0])), (a1_15, .inl (G.2 0, 400, .inl (fun _ => 0))), (a2_16, .inl (G.2 0, 14, .inl (fun _ => 0))), (a3_17, .inl (G.2 0, 32, .inl (fun _ => 0))), (q18, .inr (2, [.ref a1_19, .ref a2_20, .ref a3_21, .int 0, .int 0])), (a1_19, .inl (G.2 0, 400, .inl (fun _ => 0))), (a2_20, .inl (G.2 0, 14, .inl (fun _ => 0))), (a3_21, .inl (G.2 0, 32, .inl (fun _ => 0)))] H _ := hw
  refine W.eq (g2 := F0 m 115 ls [.ref q18, .int 2, .ref q8]) rfl ?_
  refine zz_astL (ws' := [(h0, .inr (5, [.ref q1, .ref q2, .ref q3, .ref q4, .ref q5, .ref q6, .ref q7, .ref q8, .ref q9, .int 0, .int 0, .int 1, .int 0])), (q1, .inl (G.2 3, 13, .inr (.inl (fun _ => 0)))), (q2, .inl (G.2 0, 7, .inl (fun _ => 0))), (q3, .inl (G.2 0, 7, .inl (fun _ => 0))), (q4, .inl (G.2 0, 7, .inl (fun _ => 0))), (q5, .inl (G.2 0, 6, .inl (fun _ => 0))), (q6, .inl (G.2 0, 6, .inl (fun _ => 0))), (q7, .inl (G.2 0, 6, .inl (fun _ => 0))), (q8, .inl (G.2 4, 4, .inr (.inr (.inr (.inr (va_up (va_up (va_up (fun _ => none) 0 (some q10)) 1 (some q14)) 2 (some q18))))))), (q9, .inl (G.2 0, 9, .inl (fun _ => 0))), (q10, .inr (2, [.ref a1_11, .ref a2_12, .ref a3_13, .int 0, .int 0])), (a1_11, .inl (G.2 0, 400, .inl (fun _ => 0))), (a2_12, .inl (G.2 0, 14, .inl (fun _ => 0))), (a3_13, .inl (G.2 0, 32, .inl (fun _ => 0))), (q14, .inr (2, [.ref a1_15, .ref a2_16, .ref a3_17, .int 0, .int 0])), (a1_15, .inl (G.2 0, 400, .inl (fun _ => 0))), (a2_16, .inl (G.2 0, 14, .inl (fun _ => 0))), (a3_17, .inl (G.2 0, 32, .inl (fun _ => 0))), (q18, .inr (2, [.ref a1_19, .ref a2_20, .ref a3_21, .int 0, .int 0])), (a1_19, .inl (G.2 0, 400, .inl (fun _ => 0))), (a2_20, .inl (G.2 0, 14, .inl (fun _ => 0))), (a3_21, .inl (G.2 0, 32, .inl (fun _ => 0)))]) (g := (va_up (va_up (va_up (fun _ => none) 0 (some q10)) 1 (some q14)) 2 (some q18))) S hw 8 18 rfl rfl (vp_in_nI (n := 2) (by decide) (by decide)) (zz_vun (n := 2) (by decide)) rfl dX5_init_115 (fun H locs hw => ?_)
  refine lv_iinc (v := 3) (lv' := [(1, .int 3), (0, .ref h0)]) hx hb dX5_init_116 hl (k := 0) rfl (by decide) (by decide) rfl (fun ls hl => ?_)
  refine lv_goto (tgt := 98) hx hb dX5_init_119 (by decide) ?_
  refine lv_iload_n hx hb dX5_init_98 rfl (lv_at hl 0 rfl) ?_
  refine lv_iconst (v := 4) hx hb dX5_init_99 (by decide) ?_
  refine lv_icmp_ge (tgt := 122) hx hb dX5_init_100 (by decide) (fun cc => absurd cc (by decide)) (fun _ => ?_)
  refine lv_aload_n hx hb dX5_init_103 rfl (lv_at hl 1 rfl) ?_
  refine zz_get (v := .ref q8) S hw fgX5_36 0 rfl rfl dX5_init_104 ?_
  refine lv_iload_n hx hb dX5_init_107 rfl (lv_at hl 0 rfl) ?_
  refine zz_new (fs := zz_dX2) S hw kX2 tyX2 tyX2_ok (zz_c1 92 rfl rfl) (zz_c1 94 rfl rfl) (zz_c1 5 rfl rfl) dfX2 (Nat.le_of_ble_eq_true rfl) (Nat.le_of_ble_eq_true rfl) dX5_init_108 (fun q22 H hw => ?_)
  have hw : zz_w G A s [(h0, .inr (5, [.ref q1, .ref q2, .ref q3, .ref q4, .ref q5, .ref q6, .ref q7, .ref q8, .ref q9, .int 0, .int 0, .int 1, .int 0])), (q1, .inl (G.2 3, 13, .inr (.inl (fun _ => 0)))), (q2, .inl (G.2 0, 7, .inl (fun _ => 0))), (q3, .inl (G.2 0, 7, .inl (fun _ => 0))), (q4, .inl (G.2 0, 7, .inl (fun _ => 0))), (q5, .inl (G.2 0, 6, .inl (fun _ => 0))), (q6, .inl (G.2 0, 6, .inl (fun _ => 0))), (q7, .inl (G.2 0, 6, .inl (fun _ => 0))), (q8, .inl (G.2 4, 4, .inr (.inr (.inr (.inr (va_up (va_up (va_up (fun _ => none) 0 (some q10)) 1 (some q14)) 2 (some q18))))))), (q9, .inl (G.2 0, 9, .inl (fun _ => 0))), (q10, .inr (2, [.ref a1_11, .ref a2_12, .ref a3_13, .int 0, .int 0])), (a1_11, .inl (G.2 0, 400, .inl (fun _ => 0))), (a2_12, .inl (G.2 0, 14, .inl (fun _ => 0))), (a3_13, .inl (G.2 0, 32, .inl (fun _ => 0))), (q14, .inr (2, [.ref a1_15, .ref a2_16, .ref a3_17, .int 0, .int 0])), (a1_15, .inl (G.2 0, 400, .inl (fun _ => 0))), (a2_16, .inl (G.2 0, 14, .inl (fun _ => 0))), (a3_17, .inl (G.2 0, 32, .inl (fun _ => 0))), (q18, .inr (2, [.ref a1_19, .ref a2_20, .ref a3_21, .int 0, .int 0])), (a1_19, .inl (G.2 0, 400, .inl (fun _ => 0))), (a2_20, .inl (G.2 0, 14, .inl (fun _ => 0))), (a3_21, .inl (G.2 0, 32, .inl (fun _ => 0))), (q22, .inr (2, [.null, .null, .null, .int 0, .int 0]))] H _ := hw
  refine lv_dup hx hb dX5_init_111 rfl ?_
  refine zz_callI (As := []) (rest := [.ref q22, .int 3, .ref q8]) (wr := [(h0, .inr (5, [.ref q1, .ref q2, .ref q3, .ref q4, .ref q5, .ref q6, .ref q7, .ref q8, .ref q9, .int 0, .int 0, .int 1, .int 0])), (q1, .inl (G.2 3, 13, .inr (.inl (fun _ => 0)))), (q2, .inl (G.2 0, 7, .inl (fun _ => 0))), (q3, .inl (G.2 0, 7, .inl (fun _ => 0))), (q4, .inl (G.2 0, 7, .inl (fun _ => 0))), (q5, .inl (G.2 0, 6, .inl (fun _ => 0))), (q6, .inl (G.2 0, 6, .inl (fun _ => 0))), (q7, .inl (G.2 0, 6, .inl (fun _ => 0))), (q8, .inl (G.2 4, 4, .inr (.inr (.inr (.inr (va_up (va_up (va_up (fun _ => none) 0 (some q10)) 1 (some q14)) 2 (some q18))))))), (q9, .inl (G.2 0, 9, .inl (fun _ => 0))), (q10, .inr (2, [.ref a1_11, .ref a2_12, .ref a3_13, .int 0, .int 0])), (a1_11, .inl (G.2 0, 400, .inl (fun _ => 0))), (a2_12, .inl (G.2 0, 14, .inl (fun _ => 0))), (a3_13, .inl (G.2 0, 32, .inl (fun _ => 0))), (q14, .inr (2, [.ref a1_15, .ref a2_16, .ref a3_17, .int 0, .int 0])), (a1_15, .inl (G.2 0, 400, .inl (fun _ => 0))), (a2_16, .inl (G.2 0, 14, .inl (fun _ => 0))), (a3_17, .inl (G.2 0, 32, .inl (fun _ => 0))), (q18, .inr (2, [.ref a1_19, .ref a2_20, .ref a3_21, .int 0, .int 0])), (a1_19, .inl (G.2 0, 400, .inl (fun _ => 0))), (a2_20, .inl (G.2 0, 14, .inl (fun _ => 0))), (a3_21, .inl (G.2 0, 32, .inl (fun _ => 0)))]) S hw hl.1 lX5_56 (c_Law_init l G q22) ⟨Nat.le_of_ble_eq_true rfl, Nat.le_of_ble_eq_true rfl⟩ ⟨Nat.le_of_ble_eq_true rfl, Nat.le_of_ble_eq_true rfl⟩ [22] [0, 1, 2, 3, 4, 5, 6, 7, 8, 9, 10, 11, 12, 13, 14, 15, 16, 17, 18, 19, 20, 21] (by decide) rfl rfl (by decide) (by decide) rfl rfl (Nat.le_of_ble_eq_true rfl) dX5_init_112 (fun rr u H locs hp hw => ?_)
  obtain ⟨a1_23, a2_24, a3_25, rfl, rfl⟩ := hp
  have hw : zz_w G A s [(h0, .inr (5, [.ref q1, .ref q2, .ref q3, .ref q4, .ref q5, .ref q6, .ref q7, .ref q8, .ref q9, .int 0, .int 0, .int 1, .int 0])), (q1, .inl (G.2 3, 13, .inr (.inl (fun _ => 0)))), (q2, .inl (G.2 0, 7, .inl (fun _ => 0))), (q3, .inl (G.2 0, 7, .inl (fun _ => 0))), (q4, .inl (G.2 0, 7, .inl (fun _ => 0))), (q5, .inl (G.2 0, 6, .inl (fun _ => 0))), (q6, .inl (G.2 0, 6, .inl (fun _ => 0))), (q7, .inl (G.2 0, 6, .inl (fun _ => 0))), (q8, .inl (G.2 4, 4, .inr (.inr (.inr (.inr (va_up (va_up (va_up (fun _ => none) 0 (some q10)) 1 (some q14)) 2 (some q18))))))), (q9, .inl (G.2 0, 9, .inl (fun _ => 0))), (q10, .inr (2, [.ref a1_11, .ref a2_12, .ref a3_13, .int 0, .int 0])), (a1_11, .inl (G.2 0, 400, .inl (fun _ => 0))), (a2_12, .inl (G.2 0, 14, .inl (fun _ => 0))), (a3_13, .inl (G.2 0, 32, .inl (fun _ => 0))), (q14, .inr (2, [.ref a1_15, .ref a2_16, .ref a3_17, .int 0, .int 0])), (a1_15, .inl (G.2 0, 400, .inl (fun _ => 0))), (a2_16, .inl (G.2 0, 14, .inl (fun _ => 0))), (a3_17, .inl (G.2 0, 32, .inl (fun _ => 0))), (q18, .inr (2, [.ref a1_19, .ref a2_20, .ref a3_21, .int 0, .int 0])), (a1_19, .inl (G.2 0, 400, .inl (fun _ => 0))), (a2_20, .inl (G.2 0, 14, .inl (fun _ => 0))), (a3_21, .inl (G.2 0, 32, .inl (fun _ => 0))), (q22, .inr (2, [.ref a1_23, .ref a2_24, .ref a3_25, .int 0, .int 0])), (a1_23, .inl (G.2 0, 400, .inl (fun _ => 0))), (a2_24, .inl (G.2 0, 14, .inl (fun _ => 0))), (a3_25, .inl (G.2 0, 32, .inl (fun _ => 0)))] H _ := hw
  refine W.eq (g2 := F0 m 115 ls [.ref q22, .int 3, .ref q8]) rfl ?_
  refine zz_astL (ws' := [(h0, .inr (5, [.ref q1, .ref q2, .ref q3, .ref q4, .ref q5, .ref q6, .ref q7, .ref q8, .ref q9, .int 0, .int 0, .int 1, .int 0])), (q1, .inl (G.2 3, 13, .inr (.inl (fun _ => 0)))), (q2, .inl (G.2 0, 7, .inl (fun _ => 0))), (q3, .inl (G.2 0, 7, .inl (fun _ => 0))), (q4, .inl (G.2 0, 7, .inl (fun _ => 0))), (q5, .inl (G.2 0, 6, .inl (fun _ => 0))), (q6, .inl (G.2 0, 6, .inl (fun _ => 0))), (q7, .inl (G.2 0, 6, .inl (fun _ => 0))), (q8, .inl (G.2 4, 4, .inr (.inr (.inr (.inr (va_up (va_up (va_up (va_up (fun _ => none) 0 (some q10)) 1 (some q14)) 2 (some q18)) 3 (some q22))))))), (q9, .inl (G.2 0, 9, .inl (fun _ => 0))), (q10, .inr (2, [.ref a1_11, .ref a2_12, .ref a3_13, .int 0, .int 0])), (a1_11, .inl (G.2 0, 400, .inl (fun _ => 0))), (a2_12, .inl (G.2 0, 14, .inl (fun _ => 0))), (a3_13, .inl (G.2 0, 32, .inl (fun _ => 0))), (q14, .inr (2, [.ref a1_15, .ref a2_16, .ref a3_17, .int 0, .int 0])), (a1_15, .inl (G.2 0, 400, .inl (fun _ => 0))), (a2_16, .inl (G.2 0, 14, .inl (fun _ => 0))), (a3_17, .inl (G.2 0, 32, .inl (fun _ => 0))), (q18, .inr (2, [.ref a1_19, .ref a2_20, .ref a3_21, .int 0, .int 0])), (a1_19, .inl (G.2 0, 400, .inl (fun _ => 0))), (a2_20, .inl (G.2 0, 14, .inl (fun _ => 0))), (a3_21, .inl (G.2 0, 32, .inl (fun _ => 0))), (q22, .inr (2, [.ref a1_23, .ref a2_24, .ref a3_25, .int 0, .int 0])), (a1_23, .inl (G.2 0, 400, .inl (fun _ => 0))), (a2_24, .inl (G.2 0, 14, .inl (fun _ => 0))), (a3_25, .inl (G.2 0, 32, .inl (fun _ => 0)))]) (g := (va_up (va_up (va_up (va_up (fun _ => none) 0 (some q10)) 1 (some q14)) 2 (some q18)) 3 (some q22))) S hw 8 22 rfl rfl (vp_in_nI (n := 3) (by decide) (by decide)) (zz_vun (n := 3) (by decide)) rfl dX5_init_115 (fun H locs hw => ?_)
  refine lv_iinc (v := 4) (lv' := [(1, .int 4), (0, .ref h0)]) hx hb dX5_init_116 hl (k := 0) rfl (by decide) (by decide) rfl (fun ls hl => ?_)
  refine lv_goto (tgt := 98) hx hb dX5_init_119 (by decide) ?_
  refine lv_iload_n hx hb dX5_init_98 rfl (lv_at hl 0 rfl) ?_
  refine lv_iconst (v := 4) hx hb dX5_init_99 (by decide) ?_
  refine lv_icmp_ge (tgt := 122) hx hb dX5_init_100 (by decide) (fun _ => ?_) (fun cc => absurd cc (by decide))
  refine lv_aload_n hx hb dX5_init_122 rfl (lv_at hl 1 rfl) ?_
  refine zz_callV (qb := 0) (As := []) (rest := []) (wr := [(q1, .inl (G.2 3, 13, .inr (.inl (fun _ => 0)))), (q2, .inl (G.2 0, 7, .inl (fun _ => 0))), (q3, .inl (G.2 0, 7, .inl (fun _ => 0))), (q4, .inl (G.2 0, 7, .inl (fun _ => 0))), (q5, .inl (G.2 0, 6, .inl (fun _ => 0))), (q6, .inl (G.2 0, 6, .inl (fun _ => 0))), (q7, .inl (G.2 0, 6, .inl (fun _ => 0))), (q9, .inl (G.2 0, 9, .inl (fun _ => 0))), (a3_13, .inl (G.2 0, 32, .inl (fun _ => 0))), (a3_17, .inl (G.2 0, 32, .inl (fun _ => 0))), (a3_21, .inl (G.2 0, 32, .inl (fun _ => 0))), (a3_25, .inl (G.2 0, 32, .inl (fun _ => 0)))]) S hw hl.1 lX5_57 (c_Script_clear l G h0 q1 q2 q3 q4 q5 q6 q7 q8 q9 q10 q14 q18 q22 a1_11 a2_12 a3_13 a1_15 a2_16 a3_17 a1_19 a2_20 a3_21 a1_23 a2_24 a3_25 0 0 1 0 (fun _ => 0) (fun _ => 0) (fun _ => 0) (fun _ => 0) (fun _ => 0) (fun _ => 0) (fun _ => 0) (fun _ => 0) 0 0 0 0 0 0 0 0) ⟨Nat.le_of_ble_eq_true rfl, Nat.le_of_ble_eq_true rfl⟩ ⟨Nat.le_of_ble_eq_true rfl, Nat.le_of_ble_eq_true rfl⟩ [0, 8, 10, 11, 12, 14, 15, 16, 18, 19, 20, 22, 23, 24] [1, 2, 3, 4, 5, 6, 7, 9, 13, 17, 21, 25] (by decide) rfl rfl (by decide) (by decide) rfl rfl rfl rfl (Nat.le_of_ble_eq_true rfl) dX5_init_123 (fun rr u H locs hp hw => ?_)
  obtain ⟨ff0_26, gg0_27, ff1_28, gg1_29, ff2_30, gg2_31, ff3_32, gg3_33, rfl, rfl⟩ := hp
  have hw : zz_w G A s [(q1, .inl (G.2 3, 13, .inr (.inl (fun _ => 0)))), (q2, .inl (G.2 0, 7, .inl (fun _ => 0))), (q3, .inl (G.2 0, 7, .inl (fun _ => 0))), (q4, .inl (G.2 0, 7, .inl (fun _ => 0))), (q5, .inl (G.2 0, 6, .inl (fun _ => 0))), (q6, .inl (G.2 0, 6, .inl (fun _ => 0))), (q7, .inl (G.2 0, 6, .inl (fun _ => 0))), (q9, .inl (G.2 0, 9, .inl (fun _ => 0))), (a3_13, .inl (G.2 0, 32, .inl (fun _ => 0))), (a3_17, .inl (G.2 0, 32, .inl (fun _ => 0))), (a3_21, .inl (G.2 0, 32, .inl (fun _ => 0))), (a3_25, .inl (G.2 0, 32, .inl (fun _ => 0))), (h0, .inr (5, [.ref q1, .ref q2, .ref q3, .ref q4, .ref q5, .ref q6, .ref q7, .ref q8, .ref q9, .int 0, .int 0, .int 1, .int 0])), (q8, .inl (G.2 4, 4, .inr (.inr (.inr (.inr (va_up (va_up (va_up (va_up (fun _ => none) 0 (some q10)) 1 (some q14)) 2 (some q18)) 3 (some q22))))))), (q10, .inr (2, [.ref a1_11, .ref a2_12, .ref a3_13, .int 1, .int 7])), (a1_11, .inl (G.2 0, 400, .inl ff0_26)), (a2_12, .inl (G.2 0, 14, .inl gg0_27)), (q14, .inr (2, [.ref a1_15, .ref a2_16, .ref a3_17, .int 1, .int 1])), (a1_15, .inl (G.2 0, 400, .inl ff1_28)), (a2_16, .inl (G.2 0, 14, .inl gg1_29)), (q18, .inr (2, [.ref a1_19, .ref a2_20, .ref a3_21, .int 1, .int 1])), (a1_19, .inl (G.2 0, 400, .inl ff2_30)), (a2_20, .inl (G.2 0, 14, .inl gg2_31)), (q22, .inr (2, [.ref a1_23, .ref a2_24, .ref a3_25, .int 1, .int 1])), (a1_23, .inl (G.2 0, 400, .inl ff3_32)), (a2_24, .inl (G.2 0, 14, .inl gg3_33))] H _ := hw
  refine W.eq (g2 := F0 m 126 ls []) rfl ?_
  refine W.widen (k := 25) (n := 1869) (by omega) (by omega) ?_
  exact hret _ _ _ _ _ ⟨q1, q2, q3, q4, q5, q6, q7, q8, q9, q10, q14, q18, q22, a1_11, a2_12, a3_13, a1_15, a2_16, a3_17, a1_19, a2_20, a3_21, a1_23, a2_24, a3_25, ff0_26, gg0_27, ff1_28, gg1_29, ff2_30, gg2_31, ff3_32, gg3_33, rfl, rfl⟩ (hw.sub [12, 0, 1, 2, 3, 4, 5, 6, 7, 13, 14, 15, 16, 8, 17, 18, 19, 9, 20, 21, 22, 10, 23, 24, 25, 11] (by decide) rfl) dX5_init_126
theorem dX0_init_0 : decode cX0_init 0 = .ok (.aload_n 0, 1) := by decide +kernel
theorem dX0_init_1 : decode cX0_init 1 = .ok (.invokespecial 3, 3) := by decide +kernel
theorem dX0_init_4 : decode cX0_init 4 = .ok (.aload_n 0, 1) := by decide +kernel
theorem dX0_init_5 : decode cX0_init 5 = .ok (.bipush 6, 2) := by decide +kernel
theorem dX0_init_7 : decode cX0_init 7 = .ok (.newarray .int, 2) := by decide +kernel
theorem dX0_init_9 : decode cX0_init 9 = .ok (.putfield 9, 3) := by decide +kernel
theorem dX0_init_12 : decode cX0_init 12 = .ok (.aload_n 0, 1) := by decide +kernel
theorem dX0_init_13 : decode cX0_init 13 = .ok (.bipush 7, 2) := by decide +kernel
theorem dX0_init_15 : decode cX0_init 15 = .ok (.newarray .int, 2) := by decide +kernel
theorem dX0_init_17 : decode cX0_init 17 = .ok (.putfield 15, 3) := by decide +kernel
theorem dX0_init_20 : decode cX0_init 20 = .ok (.aload_n 0, 1) := by decide +kernel
theorem dX0_init_21 : decode cX0_init 21 = .ok (.iconst 0, 1) := by decide +kernel
theorem dX0_init_22 : decode cX0_init 22 = .ok (.putfield 18, 3) := by decide +kernel
theorem dX0_init_25 : decode cX0_init 25 = .ok (.aload_n 0, 1) := by decide +kernel
theorem dX0_init_26 : decode cX0_init 26 = .ok (.iconst 0, 1) := by decide +kernel
theorem dX0_init_27 : decode cX0_init 27 = .ok (.putfield 22, 3) := by decide +kernel
theorem dX0_init_30 : decode cX0_init 30 = .ok (.return_, 1) := by decide +kernel
set_option maxHeartbeats 4000000 in
set_option maxRecDepth 100000 in
theorem c_Cast_init (l : Launch) (G : zz_G) (h0 : Nat) : zz_M l G mX0_init 1 2 13 [.ref h0] [(h0, .inr (0, [.null, .null, .int 0, .int 0]))] (fun rr u => ∃ (a1 : Nat), ∃ (a2 : Nat), rr = none ∧ u = [(h0, .inr (0, [.ref a1, .ref a2, .int 0, .int 0])), (a1, .inl (G.2 0, 6, .inl (fun _ => 0))), (a2, .inl (G.2 0, 7, .inl (fun _ => 0)))]) := by
  refine zz_enterv (by decide +kernel) (Nat.le_of_ble_eq_true rfl) ?_
  intro p e s m args below meth c A Q ls S hnm hret hw hl
  have hl : lv_has ls 1 [(0, .ref h0)] := hl
  have hx := S.1
  have hb := S.2.1
  refine lv_aload_n hx hb dX0_init_0 rfl (lv_at hl 0 rfl) ?_
  refine zz_obj S (zz_c2 7 rfl rfl) hl.1 dX0_init_1 (Nat.le_of_ble_eq_true rfl) (Nat.le_of_ble_eq_true rfl) ?_
  refine lv_aload_n hx hb dX0_init_4 rfl (lv_at hl 0 rfl) ?_
  refine lv_bipush (v := 6) hx hb dX0_init_5 (by decide) ?_
  refine zz_newa (at_ := .int) (a0 := (6, .inl (fun _ => 0))) 0 S hw zz_ar0 rfl rfl (fun _ _ h => h) (fun _ => rfl) (by decide) (nI_clamp (n := 6) (by decide)) (by decide) (Nat.le_of_ble_eq_true rfl) (Nat.le_of_ble_eq_true rfl) dX0_init_7 (fun q1 H hw => ?_)
  have hw : zz_w G A s [(h0, .inr (0, [.null, .null, .int 0, .int 0])), (q1, .inl (G.2 0, 6, .inl (fun _ => 0)))] H _ := hw
  refine zz_putF (ws' := [(h0, .inr (0, [.ref q1, .null, .int 0, .int 0])), (q1, .inl (G.2 0, 6, .inl (fun _ => 0)))]) (v := .ref q1) S hnm hw fpX0_9 0 rfl rfl rfl (Nat.le_of_ble_eq_true rfl) rfl dX0_init_9 (fun H locs hw => ?_)
  refine lv_aload_n hx hb dX0_init_12 rfl (lv_at hl 0 rfl) ?_
  refine lv_bipush (v := 7) hx hb dX0_init_13 (by decide) ?_
  refine zz_newa (at_ := .int) (a0 := (7, .inl (fun _ => 0))) 0 S hw zz_ar0 rfl rfl (fun _ _ h => h) (fun _ => rfl) (by decide) (nI_clamp (n := 7) (by decide)) (by decide) (Nat.le_of_ble_eq_true rfl) (Nat.le_of_ble_eq_true rfl) dX0_init_15 (fun q2 H hw => ?_)
  have hw : zz_w G A s [(h0, .inr (0, [.ref q1, .null, .int 0, .int 0])), (q1, .inl (G.2 0, 6, .inl (fun _ => 0))), (q2, .inl (G.2 0, 7, .inl (fun _ => 0)))] H _ := hw
  refine zz_putF (ws' := [(h0, .inr (0, [.ref q1, .ref q2, .int 0, .int 0])), (q1, .inl (G.2 0, 6, .inl (fun _ => 0))), (q2, .inl (G.2 0, 7, .inl (fun _ => 0)))]) (v := .ref q2) S hnm hw fpX0_15 0 rfl rfl rfl (Nat.le_of_ble_eq_true rfl) rfl dX0_init_17 (fun H locs hw => ?_)
  refine lv_aload_n hx hb dX0_init_20 rfl (lv_at hl 0 rfl) ?_
  refine lv_iconst (v := 0) hx hb dX0_init_21 (by decide) ?_
  refine zz_put (ws' := [(h0, .inr (0, [.ref q1, .ref q2, .int 0, .int 0])), (q1, .inl (G.2 0, 6, .inl (fun _ => 0))), (q2, .inl (G.2 0, 7, .inl (fun _ => 0)))]) (v := .int 0) S hw fpX0_18 0 rfl rfl rfl (Nat.le_of_ble_eq_true rfl) rfl dX0_init_22 (fun H locs hw => ?_)
  refine lv_aload_n hx hb dX0_init_25 rfl (lv_at hl 0 rfl) ?_
  refine lv_iconst (v := 0) hx hb dX0_init_26 (by decide) ?_
  refine zz_put (ws' := [(h0, .inr (0, [.ref q1, .ref q2, .int 0, .int 0])), (q1, .inl (G.2 0, 6, .inl (fun _ => 0))), (q2, .inl (G.2 0, 7, .inl (fun _ => 0)))]) (v := .int 0) S hw fpX0_22 0 rfl rfl rfl (Nat.le_of_ble_eq_true rfl) rfl dX0_init_27 (fun H locs hw => ?_)
  refine W.widen (k := 2) (n := 13) (by omega) (by omega) ?_
  exact hret _ _ _ _ _ ⟨q1, q2, rfl, rfl⟩ hw dX0_init_30
theorem dX1_init_0 : decode cX1_init 0 = .ok (.aload_n 0, 1) := by decide +kernel
theorem dX1_init_1 : decode cX1_init 1 = .ok (.invokespecial 3, 3) := by decide +kernel
theorem dX1_init_4 : decode cX1_init 4 = .ok (.aload_n 0, 1) := by decide +kernel
theorem dX1_init_5 : decode cX1_init 5 = .ok (.bipush 42, 2) := by decide +kernel
theorem dX1_init_7 : decode cX1_init 7 = .ok (.newarray .int, 2) := by decide +kernel
theorem dX1_init_9 : decode cX1_init 9 = .ok (.putfield 9, 3) := by decide +kernel
theorem dX1_init_12 : decode cX1_init 12 = .ok (.aload_n 0, 1) := by decide +kernel
theorem dX1_init_13 : decode cX1_init 13 = .ok (.sipush 128, 3) := by decide +kernel
theorem dX1_init_16 : decode cX1_init 16 = .ok (.newarray .int, 2) := by decide +kernel
theorem dX1_init_18 : decode cX1_init 18 = .ok (.putfield 15, 3) := by decide +kernel
theorem dX1_init_21 : decode cX1_init 21 = .ok (.aload_n 0, 1) := by decide +kernel
theorem dX1_init_22 : decode cX1_init 22 = .ok (.sipush 896, 3) := by decide +kernel
theorem dX1_init_25 : decode cX1_init 25 = .ok (.newarray .int, 2) := by decide +kernel
theorem dX1_init_27 : decode cX1_init 27 = .ok (.putfield 18, 3) := by decide +kernel
theorem dX1_init_30 : decode cX1_init 30 = .ok (.aload_n 0, 1) := by decide +kernel
theorem dX1_init_31 : decode cX1_init 31 = .ok (.iconst 0, 1) := by decide +kernel
theorem dX1_init_32 : decode cX1_init 32 = .ok (.putfield 21, 3) := by decide +kernel
theorem dX1_init_35 : decode cX1_init 35 = .ok (.aload_n 0, 1) := by decide +kernel
theorem dX1_init_36 : decode cX1_init 36 = .ok (.iconst 0, 1) := by decide +kernel
theorem dX1_init_37 : decode cX1_init 37 = .ok (.putfield 25, 3) := by decide +kernel
theorem dX1_init_40 : decode cX1_init 40 = .ok (.return_, 1) := by decide +kernel
set_option maxHeartbeats 4000000 in
set_option maxRecDepth 100000 in
theorem c_Giving_init (l : Launch) (G : zz_G) (h0 : Nat) : zz_M l G mX1_init 1 3 1066 [.ref h0] [(h0, .inr (1, [.null, .null, .null, .int 0, .int 0]))] (fun rr u => ∃ (a1 : Nat), ∃ (a2 : Nat), ∃ (a3 : Nat), rr = none ∧ u = [(h0, .inr (1, [.ref a1, .ref a2, .ref a3, .int 0, .int 0])), (a1, .inl (G.2 0, 42, .inl (fun _ => 0))), (a2, .inl (G.2 0, 128, .inl (fun _ => 0))), (a3, .inl (G.2 0, 896, .inl (fun _ => 0)))]) := by
  refine zz_enterv (by decide +kernel) (Nat.le_of_ble_eq_true rfl) ?_
  intro p e s m args below meth c A Q ls S hnm hret hw hl
  have hl : lv_has ls 1 [(0, .ref h0)] := hl
  have hx := S.1
  have hb := S.2.1
  refine lv_aload_n hx hb dX1_init_0 rfl (lv_at hl 0 rfl) ?_
  refine zz_obj S (zz_c2 30 rfl rfl) hl.1 dX1_init_1 (Nat.le_of_ble_eq_true rfl) (Nat.le_of_ble_eq_true rfl) ?_
  refine lv_aload_n hx hb dX1_init_4 rfl (lv_at hl 0 rfl) ?_
  refine lv_bipush (v := 42) hx hb dX1_init_5 (by decide) ?_
  refine zz_newa (at_ := .int) (a0 := (42, .inl (fun _ => 0))) 0 S hw zz_ar0 rfl rfl (fun _ _ h => h) (fun _ => rfl) (by decide) (nI_clamp (n := 42) (by decide)) (by decide) (Nat.le_of_ble_eq_true rfl) (Nat.le_of_ble_eq_true rfl) dX1_init_7 (fun q1 H hw => ?_)
  have hw : zz_w G A s [(h0, .inr (1, [.null, .null, .null, .int 0, .int 0])), (q1, .inl (G.2 0, 42, .inl (fun _ => 0)))] H _ := hw
  refine zz_putF (ws' := [(h0, .inr (1, [.ref q1, .null, .null, .int 0, .int 0])), (q1, .inl (G.2 0, 42, .inl (fun _ => 0)))]) (v := .ref q1) S hnm hw fpX1_9 0 rfl rfl rfl (Nat.le_of_ble_eq_true rfl) rfl dX1_init_9 (fun H locs hw => ?_)
  refine lv_aload_n hx hb dX1_init_12 rfl (lv_at hl 0 rfl) ?_
  refine lv_sipush (v := 128) hx hb dX1_init_13 (by decide) ?_
  refine zz_newa (at_ := .int) (a0 := (128, .inl (fun _ => 0))) 0 S hw zz_ar0 rfl rfl (fun _ _ h => h) (fun _ => rfl) (by decide) (nI_clamp (n := 128) (by decide)) (by decide) (Nat.le_of_ble_eq_true rfl) (Nat.le_of_ble_eq_true rfl) dX1_init_16 (fun q2 H hw => ?_)
  have hw : zz_w G A s [(h0, .inr (1, [.ref q1, .null, .null, .int 0, .int 0])), (q1, .inl (G.2 0, 42, .inl (fun _ => 0))), (q2, .inl (G.2 0, 128, .inl (fun _ => 0)))] H _ := hw
  refine zz_putF (ws' := [(h0, .inr (1, [.ref q1, .ref q2, .null, .int 0, .int 0])), (q1, .inl (G.2 0, 42, .inl (fun _ => 0))), (q2, .inl (G.2 0, 128, .inl (fun _ => 0)))]) (v := .ref q2) S hnm hw fpX1_15 0 rfl rfl rfl (Nat.le_of_ble_eq_true rfl) rfl dX1_init_18 (fun H locs hw => ?_)
  refine lv_aload_n hx hb dX1_init_21 rfl (lv_at hl 0 rfl) ?_
  refine lv_sipush (v := 896) hx hb dX1_init_22 (by decide) ?_
  refine zz_newa (at_ := .int) (a0 := (896, .inl (fun _ => 0))) 0 S hw zz_ar0 rfl rfl (fun _ _ h => h) (fun _ => rfl) (by decide) (nI_clamp (n := 896) (by decide)) (by decide) (Nat.le_of_ble_eq_true rfl) (Nat.le_of_ble_eq_true rfl) dX1_init_25 (fun q3 H hw => ?_)
  have hw : zz_w G A s [(h0, .inr (1, [.ref q1, .ref q2, .null, .int 0, .int 0])), (q1, .inl (G.2 0, 42, .inl (fun _ => 0))), (q2, .inl (G.2 0, 128, .inl (fun _ => 0))), (q3, .inl (G.2 0, 896, .inl (fun _ => 0)))] H _ := hw
  refine zz_putF (ws' := [(h0, .inr (1, [.ref q1, .ref q2, .ref q3, .int 0, .int 0])), (q1, .inl (G.2 0, 42, .inl (fun _ => 0))), (q2, .inl (G.2 0, 128, .inl (fun _ => 0))), (q3, .inl (G.2 0, 896, .inl (fun _ => 0)))]) (v := .ref q3) S hnm hw fpX1_18 0 rfl rfl rfl (Nat.le_of_ble_eq_true rfl) rfl dX1_init_27 (fun H locs hw => ?_)
  refine lv_aload_n hx hb dX1_init_30 rfl (lv_at hl 0 rfl) ?_
  refine lv_iconst (v := 0) hx hb dX1_init_31 (by decide) ?_
  refine zz_put (ws' := [(h0, .inr (1, [.ref q1, .ref q2, .ref q3, .int 0, .int 0])), (q1, .inl (G.2 0, 42, .inl (fun _ => 0))), (q2, .inl (G.2 0, 128, .inl (fun _ => 0))), (q3, .inl (G.2 0, 896, .inl (fun _ => 0)))]) (v := .int 0) S hw fpX1_21 0 rfl rfl rfl (Nat.le_of_ble_eq_true rfl) rfl dX1_init_32 (fun H locs hw => ?_)
  refine lv_aload_n hx hb dX1_init_35 rfl (lv_at hl 0 rfl) ?_
  refine lv_iconst (v := 0) hx hb dX1_init_36 (by decide) ?_
  refine zz_put (ws' := [(h0, .inr (1, [.ref q1, .ref q2, .ref q3, .int 0, .int 0])), (q1, .inl (G.2 0, 42, .inl (fun _ => 0))), (q2, .inl (G.2 0, 128, .inl (fun _ => 0))), (q3, .inl (G.2 0, 896, .inl (fun _ => 0)))]) (v := .int 0) S hw fpX1_25 0 rfl rfl rfl (Nat.le_of_ble_eq_true rfl) rfl dX1_init_37 (fun H locs hw => ?_)
  refine W.widen (k := 3) (n := 1066) (by omega) (by omega) ?_
  exact hret _ _ _ _ _ ⟨q1, q2, q3, rfl, rfl⟩ hw dX1_init_40
theorem dX8_init_0 : decode cX8_init 0 = .ok (.aload_n 0, 1) := by decide +kernel
theorem dX8_init_1 : decode cX8_init 1 = .ok (.invokespecial 3, 3) := by decide +kernel
theorem dX8_init_4 : decode cX8_init 4 = .ok (.aload_n 0, 1) := by decide +kernel
theorem dX8_init_5 : decode cX8_init 5 = .ok (.bipush 20, 2) := by decide +kernel
theorem dX8_init_7 : decode cX8_init 7 = .ok (.newarray .int, 2) := by decide +kernel
theorem dX8_init_9 : decode cX8_init 9 = .ok (.putfield 11, 3) := by decide +kernel
theorem dX8_init_12 : decode cX8_init 12 = .ok (.aload_n 0, 1) := by decide +kernel
theorem dX8_init_13 : decode cX8_init 13 = .ok (.bipush 20, 2) := by decide +kernel
theorem dX8_init_15 : decode cX8_init 15 = .ok (.newarray .int, 2) := by decide +kernel
theorem dX8_init_17 : decode cX8_init 17 = .ok (.putfield 15, 3) := by decide +kernel
theorem dX8_init_20 : decode cX8_init 20 = .ok (.aload_n 0, 1) := by decide +kernel
theorem dX8_init_21 : decode cX8_init 21 = .ok (.bipush 20, 2) := by decide +kernel
theorem dX8_init_23 : decode cX8_init 23 = .ok (.newarray .boolean, 2) := by decide +kernel
theorem dX8_init_25 : decode cX8_init 25 = .ok (.putfield 18, 3) := by decide +kernel
theorem dX8_init_28 : decode cX8_init 28 = .ok (.aload_n 0, 1) := by decide +kernel
theorem dX8_init_29 : decode cX8_init 29 = .ok (.iconst 0, 1) := by decide +kernel
theorem dX8_init_30 : decode cX8_init 30 = .ok (.putfield 22, 3) := by decide +kernel
theorem dX8_init_33 : decode cX8_init 33 = .ok (.return_, 1) := by decide +kernel
set_option maxHeartbeats 4000000 in
set_option maxRecDepth 100000 in
theorem c_Told_init (l : Launch) (G : zz_G) (h0 : Nat) : zz_M l G mX8_init 1 3 60 [.ref h0] [(h0, .inr (8, [.null, .null, .null, .int 0]))] (fun rr u => ∃ (a1 : Nat), ∃ (a2 : Nat), ∃ (a3 : Nat), rr = none ∧ u = [(h0, .inr (8, [.ref a1, .ref a2, .ref a3, .int 0])), (a1, .inl (G.2 0, 20, .inl (fun _ => 0))), (a2, .inl (G.2 0, 20, .inl (fun _ => 0))), (a3, .inl (G.2 2, 20, .inl (fun _ => 0)))]) := by
  refine zz_enterv (by decide +kernel) (Nat.le_of_ble_eq_true rfl) ?_
  intro p e s m args below meth c A Q ls S hnm hret hw hl
  have hl : lv_has ls 1 [(0, .ref h0)] := hl
  have hx := S.1
  have hb := S.2.1
  refine lv_aload_n hx hb dX8_init_0 rfl (lv_at hl 0 rfl) ?_
  refine zz_obj S (zz_c2 72 rfl rfl) hl.1 dX8_init_1 (Nat.le_of_ble_eq_true rfl) (Nat.le_of_ble_eq_true rfl) ?_
  refine lv_aload_n hx hb dX8_init_4 rfl (lv_at hl 0 rfl) ?_
  refine lv_bipush (v := 20) hx hb dX8_init_5 (by decide) ?_
  refine zz_newa (at_ := .int) (a0 := (20, .inl (fun _ => 0))) 0 S hw zz_ar0 rfl rfl (fun _ _ h => h) (fun _ => rfl) (by decide) (nI_clamp (n := 20) (by decide)) (by decide) (Nat.le_of_ble_eq_true rfl) (Nat.le_of_ble_eq_true rfl) dX8_init_7 (fun q1 H hw => ?_)
  have hw : zz_w G A s [(h0, .inr (8, [.null, .null, .null, .int 0])), (q1, .inl (G.2 0, 20, .inl (fun _ => 0)))] H _ := hw
  refine zz_putF (ws' := [(h0, .inr (8, [.ref q1, .null, .null, .int 0])), (q1, .inl (G.2 0, 20, .inl (fun _ => 0)))]) (v := .ref q1) S hnm hw fpX8_11 0 rfl rfl rfl (Nat.le_of_ble_eq_true rfl) rfl dX8_init_9 (fun H locs hw => ?_)
  refine lv_aload_n hx hb dX8_init_12 rfl (lv_at hl 0 rfl) ?_
  refine lv_bipush (v := 20) hx hb dX8_init_13 (by decide) ?_
  refine zz_newa (at_ := .int) (a0 := (20, .inl (fun _ => 0))) 0 S hw zz_ar0 rfl rfl (fun _ _ h => h) (fun _ => rfl) (by decide) (nI_clamp (n := 20) (by decide)) (by decide) (Nat.le_of_ble_eq_true rfl) (Nat.le_of_ble_eq_true rfl) dX8_init_15 (fun q2 H hw => ?_)
  have hw : zz_w G A s [(h0, .inr (8, [.ref q1, .null, .null, .int 0])), (q1, .inl (G.2 0, 20, .inl (fun _ => 0))), (q2, .inl (G.2 0, 20, .inl (fun _ => 0)))] H _ := hw
  refine zz_putF (ws' := [(h0, .inr (8, [.ref q1, .ref q2, .null, .int 0])), (q1, .inl (G.2 0, 20, .inl (fun _ => 0))), (q2, .inl (G.2 0, 20, .inl (fun _ => 0)))]) (v := .ref q2) S hnm hw fpX8_15 0 rfl rfl rfl (Nat.le_of_ble_eq_true rfl) rfl dX8_init_17 (fun H locs hw => ?_)
  refine lv_aload_n hx hb dX8_init_20 rfl (lv_at hl 0 rfl) ?_
  refine lv_bipush (v := 20) hx hb dX8_init_21 (by decide) ?_
  refine zz_newa (at_ := .boolean) (a0 := (20, .inl (fun _ => 0))) 2 S hw zz_ar2 rfl rfl (fun _ _ h => h) (fun _ => rfl) (by decide) (nI_clamp (n := 20) (by decide)) (by decide) (Nat.le_of_ble_eq_true rfl) (Nat.le_of_ble_eq_true rfl) dX8_init_23 (fun q3 H hw => ?_)
  have hw : zz_w G A s [(h0, .inr (8, [.ref q1, .ref q2, .null, .int 0])), (q1, .inl (G.2 0, 20, .inl (fun _ => 0))), (q2, .inl (G.2 0, 20, .inl (fun _ => 0))), (q3, .inl (G.2 2, 20, .inl (fun _ => 0)))] H _ := hw
  refine zz_putF (ws' := [(h0, .inr (8, [.ref q1, .ref q2, .ref q3, .int 0])), (q1, .inl (G.2 0, 20, .inl (fun _ => 0))), (q2, .inl (G.2 0, 20, .inl (fun _ => 0))), (q3, .inl (G.2 2, 20, .inl (fun _ => 0)))]) (v := .ref q3) S hnm hw fpX8_18 0 rfl rfl rfl (Nat.le_of_ble_eq_true rfl) rfl dX8_init_25 (fun H locs hw => ?_)
  refine lv_aload_n hx hb dX8_init_28 rfl (lv_at hl 0 rfl) ?_
  refine lv_iconst (v := 0) hx hb dX8_init_29 (by decide) ?_
  refine zz_put (ws' := [(h0, .inr (8, [.ref q1, .ref q2, .ref q3, .int 0])), (q1, .inl (G.2 0, 20, .inl (fun _ => 0))), (q2, .inl (G.2 0, 20, .inl (fun _ => 0))), (q3, .inl (G.2 2, 20, .inl (fun _ => 0)))]) (v := .int 0) S hw fpX8_22 0 rfl rfl rfl (Nat.le_of_ble_eq_true rfl) rfl dX8_init_30 (fun H locs hw => ?_)
  refine W.widen (k := 3) (n := 60) (by omega) (by omega) ?_
  exact hret _ _ _ _ _ ⟨q1, q2, q3, rfl, rfl⟩ hw dX8_init_33
theorem dX3_init_0 : decode cX3_init 0 = .ok (.aload_n 0, 1) := by decide +kernel
theorem dX3_init_1 : decode cX3_init 1 = .ok (.invokespecial 1, 3) := by decide +kernel
theorem dX3_init_4 : decode cX3_init 4 = .ok (.aload_n 0, 1) := by decide +kernel
theorem dX3_init_5 : decode cX3_init 5 = .ok (.bipush 40, 2) := by decide +kernel
theorem dX3_init_7 : decode cX3_init 7 = .ok (.anewarray 9, 3) := by decide +kernel
theorem dX3_init_10 : decode cX3_init 10 = .ok (.putfield 11, 3) := by decide +kernel
theorem dX3_init_13 : decode cX3_init 13 = .ok (.aload_n 0, 1) := by decide +kernel
theorem dX3_init_14 : decode cX3_init 14 = .ok (.iconst 0, 1) := by decide +kernel
theorem dX3_init_15 : decode cX3_init 15 = .ok (.putfield 15, 3) := by decide +kernel
theorem dX3_init_18 : decode cX3_init 18 = .ok (.aload_n 0, 1) := by decide +kernel
theorem dX3_init_19 : decode cX3_init 19 = .ok (.iconst 0, 1) := by decide +kernel
theorem dX3_init_20 : decode cX3_init 20 = .ok (.putfield 19, 3) := by decide +kernel
theorem dX3_init_23 : decode cX3_init 23 = .ok (.iconst 0, 1) := by decide +kernel
theorem dX3_init_24 : decode cX3_init 24 = .ok (.istore_n 1, 1) := by decide +kernel
theorem dX3_init_25 : decode cX3_init 25 = .ok (.iload_n 1, 1) := by decide +kernel
theorem dX3_init_26 : decode cX3_init 26 = .ok (.bipush 40, 2) := by decide +kernel
theorem dX3_init_28 : decode cX3_init 28 = .ok (.if_icmp .ge 22, 3) := by decide +kernel
theorem dX3_init_31 : decode cX3_init 31 = .ok (.aload_n 0, 1) := by decide +kernel
theorem dX3_init_32 : decode cX3_init 32 = .ok (.getfield 11, 3) := by decide +kernel
theorem dX3_init_35 : decode cX3_init 35 = .ok (.iload_n 1, 1) := by decide +kernel
theorem dX3_init_36 : decode cX3_init 36 = .ok (.new 9, 3) := by decide +kernel
theorem dX3_init_39 : decode cX3_init 39 = .ok (.dup, 1) := by decide +kernel
theorem dX3_init_40 : decode cX3_init 40 = .ok (.invokespecial 22, 3) := by decide +kernel
theorem dX3_init_43 : decode cX3_init 43 = .ok (.aastore, 1) := by decide +kernel
theorem dX3_init_44 : decode cX3_init 44 = .ok (.iinc 1 1, 3) := by decide +kernel
theorem dX3_init_47 : decode cX3_init 47 = .ok (.goto (-22), 3) := by decide +kernel
theorem dX3_init_50 : decode cX3_init 50 = .ok (.return_, 1) := by decide +kernel
set_option maxHeartbeats 4000000 in
set_option maxRecDepth 100000 in
theorem c_Past_init (l : Launch) (G : zz_G) (h0 : Nat) : zz_M l G mX3_init 2 201 2800 [.ref h0] [(h0, .inr (3, [.null, .int 0, .int 0]))] (fun rr u => ∃ (b1 : Nat), ∃ (b2 : Nat), ∃ (a1 : Nat), ∃ (a2 : Nat), ∃ (a3 : Nat), ∃ (a4 : Nat), ∃ (ff : Nat → Option Nat), rr = none ∧ u = [(h0, .inr (3, [.ref b1, .int 0, .int 0])), (b1, .inl (G.2 5, 40, .inr (.inr (.inr (.inr ff))))), (b2, .inr (6, [.ref a1, .ref a2, .ref a3, .ref a4, .int 0, .int 0, .int 0])), (a1, .inl (G.2 0, 7, .inl (fun _ => 0))), (a2, .inl (G.2 0, 6, .inl (fun _ => 0))), (a3, .inl (G.2 0, 7, .inl (fun _ => 0))), (a4, .inl (G.2 0, 42, .inl (fun _ => 0)))] ∧ ff 0 = some b2) := by
  refine zz_enterv (by decide +kernel) (Nat.le_of_ble_eq_true rfl) ?_
  intro p e s m args below meth c A Q ls S hnm hret hw hl
  have hl : lv_has ls 2 [(0, .ref h0)] := hl
  have hx := S.1
  have hb := S.2.1
  refine lv_aload_n hx hb dX3_init_0 rfl (lv_at hl 0 rfl) ?_
  refine zz_obj S (zz_c2 52 rfl rfl) hl.1 dX3_init_1 (Nat.le_of_ble_eq_true rfl) (Nat.le_of_ble_eq_true rfl) ?_
  refine lv_aload_n hx hb dX3_init_4 rfl (lv_at hl 0 rfl) ?_
  refine lv_bipush (v := 40) hx hb dX3_init_5 (by decide) ?_
  refine zz_newq 5 S hw (zz_c2 53 rfl rfl) hw.2.2.2.2.2.2.2 rfl (by decide) (nI_clamp (n := 40) (by decide)) (by decide) (Nat.le_of_ble_eq_true rfl) (Nat.le_of_ble_eq_true rfl) dX3_init_7 (fun q1 H hw => ?_)
  have hw : zz_w G A s [(h0, .inr (3, [.null, .int 0, .int 0])), (q1, .inl (G.2 5, 40, .inr (.inr (.inr (.inr (fun _ => none))))))] H _ := hw
  refine zz_putF (ws' := [(h0, .inr (3, [.ref q1, .int 0, .int 0])), (q1, .inl (G.2 5, 40, .inr (.inr (.inr (.inr (fun _ => none))))))]) (v := .ref q1) S hnm hw fpX3_11 0 rfl rfl rfl (Nat.le_of_ble_eq_true rfl) rfl dX3_init_10 (fun H locs hw => ?_)
  refine lv_aload_n hx hb dX3_init_13 rfl (lv_at hl 0 rfl) ?_
  refine lv_iconst (v := 0) hx hb dX3_init_14 (by decide) ?_
  refine zz_put (ws' := [(h0, .inr (3, [.ref q1, .int 0, .int 0])), (q1, .inl (G.2 5, 40, .inr (.inr (.inr (.inr (fun _ => none))))))]) (v := .int 0) S hw fpX3_15 0 rfl rfl rfl (Nat.le_of_ble_eq_true rfl) rfl dX3_init_15 (fun H locs hw => ?_)
  refine lv_aload_n hx hb dX3_init_18 rfl (lv_at hl 0 rfl) ?_
  refine lv_iconst (v := 0) hx hb dX3_init_19 (by decide) ?_
  refine zz_put (ws' := [(h0, .inr (3, [.ref q1, .int 0, .int 0])), (q1, .inl (G.2 5, 40, .inr (.inr (.inr (.inr (fun _ => none))))))]) (v := .int 0) S hw fpX3_19 0 rfl rfl rfl (Nat.le_of_ble_eq_true rfl) rfl dX3_init_20 (fun H locs hw => ?_)
  refine lv_iconst (v := 0) hx hb dX3_init_23 (by decide) ?_
  refine lv_istore_n (lv' := [(1, .int 0), (0, .ref h0)]) hx hb dX3_init_24 rfl hl (by decide) rfl (fun ls hl => ?_)
  refine lv_iload_n hx hb dX3_init_25 rfl (lv_at hl 0 rfl) ?_
  refine lv_bipush (v := 40) hx hb dX3_init_26 (by decide) ?_
  refine lv_icmp_ge (tgt := 50) hx hb dX3_init_28 (by decide) (fun cc => absurd cc (by decide)) (fun _ => ?_)
  refine lv_aload_n hx hb dX3_init_31 rfl (lv_at hl 1 rfl) ?_
  refine zz_get (v := .ref q1) S hw fgX3_11 0 rfl rfl dX3_init_32 ?_
  refine lv_iload_n hx hb dX3_init_35 rfl (lv_at hl 0 rfl) ?_
  refine zz_new (fs := zz_dX6) S hw kX6 tyX6 tyX6_ok (zz_c2 53 rfl rfl) (zz_c1 203 rfl rfl) (zz_c1 6 rfl rfl) dfX6 (Nat.le_of_ble_eq_true rfl) (Nat.le_of_ble_eq_true rfl) dX3_init_36 (fun q2 H hw => ?_)
  have hw : zz_w G A s [(h0, .inr (3, [.ref q1, .int 0, .int 0])), (q1, .inl (G.2 5, 40, .inr (.inr (.inr (.inr (fun _ => none)))))), (q2, .inr (6, [.null, .null, .null, .null, .int 0, .int 0, .int 0]))] H _ := hw
  refine lv_dup hx hb dX3_init_39 rfl ?_
  refine zz_callI (As := []) (rest := [.ref q2, .int 0, .ref q1]) (wr := [(h0, .inr (3, [.ref q1, .int 0, .int 0])), (q1, .inl (G.2 5, 40, .inr (.inr (.inr (.inr (fun _ => none))))))]) S hw hl.1 lX3_22 (c_State_init l G q2) ⟨Nat.le_of_ble_eq_true rfl, Nat.le_of_ble_eq_true rfl⟩ ⟨Nat.le_of_ble_eq_true rfl, Nat.le_of_ble_eq_true rfl⟩ [2] [0, 1] (by decide) rfl rfl (by decide) (by decide) rfl rfl (Nat.le_of_ble_eq_true rfl) dX3_init_40 (fun rr u H locs hp hw => ?_)
  obtain ⟨a1_3, a2_4, a3_5, a4_6, rfl, rfl⟩ := hp
  have hw : zz_w G A s [(h0, .inr (3, [.ref q1, .int 0, .int 0])), (q1, .inl (G.2 5, 40, .inr (.inr (.inr (.inr (fun _ => none)))))), (q2, .inr (6, [.ref a1_3, .ref a2_4, .ref a3_5, .ref a4_6, .int 0, .int 0, .int 0])), (a1_3, .inl (G.2 0, 7, .inl (fun _ => 0))), (a2_4, .inl (G.2 0, 6, .inl (fun _ => 0))), (a3_5, .inl (G.2 0, 7, .inl (fun _ => 0))), (a4_6, .inl (G.2 0, 42, .inl (fun _ => 0)))] H _ := hw
  refine W.eq (g2 := F0 m 43 ls [.ref q2, .int 0, .ref q1]) rfl ?_
  refine zz_astS (ws' := [(h0, .inr (3, [.ref q1, .int 0, .int 0])), (q1, .inl (G.2 5, 40, .inr (.inr (.inr (.inr (va_up (fun _ => none) 0 (some q2))))))), (q2, .inr (6, [.ref a1_3, .ref a2_4, .ref a3_5, .ref a4_6, .int 0, .int 0, .int 0])), (a1_3, .inl (G.2 0, 7, .inl (fun _ => 0))), (a2_4, .inl (G.2 0, 6, .inl (fun _ => 0))), (a3_5, .inl (G.2 0, 7, .inl (fun _ => 0))), (a4_6, .inl (G.2 0, 42, .inl (fun _ => 0)))]) (g := (va_up (fun _ => none) 0 (some q2))) S hw 1 2 rfl rfl (vp_in_nI (n := 0) (by decide) (by decide)) (zz_vun (n := 0) (by decide)) rfl dX3_init_43 (fun H locs hw => ?_)
  refine lv_iinc (v := 1) (lv' := [(1, .int 1), (0, .ref h0)]) hx hb dX3_init_44 hl (k := 0) rfl (by decide) (by decide) rfl (fun ls hl => ?_)
  refine lv_goto (tgt := 25) hx hb dX3_init_47 (by decide) ?_
  have lp : ∀ (n i : Nat) (f : Nat → Option Nat) (H : Heap) (locs : List Loc) (ls : Array Slot), i + n = 40 → 1 ≤ i → f 0 = some q2 → zz_w G A s [(h0, .inr (3, [.ref q1, .int 0, .int 0])), (q1, .inl (G.2 5, 40, .inr (.inr (.inr (.inr f))))), (q2, .inr (6, [.ref a1_3, .ref a2_4, .ref a3_5, .ref a4_6, .int 0, .int 0, .int 0])), (a1_3, .inl (G.2 0, 7, .inl (fun _ => 0))), (a2_4, .inl (G.2 0, 6, .inl (fun _ => 0))), (a3_5, .inl (G.2 0, 7, .inl (fun _ => 0))), (a4_6, .inl (G.2 0, 42, .inl (fun _ => 0)))] H locs → lv_has ls 2 [(1, .int (nI i)), (0, .ref h0)] → W p l e (zz_rm 2 201 2800) s m args below meth c H locs (1 + 5 * i) (40 + 69 * i) Q (F0 m 25 ls []) := by
    intro n
    induction n with
    | zero =>
      intro i f H locs ls hi h1 hf hw hl
      obtain rfl : i = 40 := by omega
      have hl : lv_has ls 2 [(1, .int 40), (0, .ref h0)] := hl
      refine lv_iload_n hx hb dX3_init_25 rfl (lv_at hl 0 rfl) ?_
      refine lv_bipush (v := 40) hx hb dX3_init_26 (by decide) ?_
      refine lv_icmp_ge (tgt := 50) hx hb dX3_init_28 (by decide) (fun _ => ?_) (fun cc => absurd cc (by decide))
      refine W.widen (k := 201) (n := 2800) (by omega) (by omega) ?_
      exact hret _ _ _ _ _ ⟨q1, q2, a1_3, a2_4, a3_5, a4_6, f, rfl, rfl, hf⟩ hw dX3_init_50
    | succ n ih =>
      intro i f H locs ls hi h1 hf hw hl
      refine lv_iload_n hx hb dX3_init_25 rfl (lv_at hl 0 rfl) ?_
      refine lv_bipush (v := 40) hx hb dX3_init_26 (by decide) ?_
      refine lv_icmp_ge (tgt := 50) hx hb dX3_init_28 (by decide) (fun cc => absurd ((zz_le (a := 40) (b := i) rfl rfl (by omega) (by omega)).mp cc) (by omega)) (fun _ => ?_)
      refine lv_aload_n hx hb dX3_init_31 rfl (lv_at hl 1 rfl) ?_
      refine zz_get (v := .ref q1) S hw fgX3_11 0 rfl rfl dX3_init_32 ?_
      refine lv_iload_n hx hb dX3_init_35 rfl (lv_at hl 0 rfl) ?_
      refine zz_new (fs := zz_dX6) S hw kX6 tyX6 tyX6_ok (zz_c2 53 rfl rfl) (zz_c1 203 rfl rfl) (zz_c1 6 rfl rfl) dfX6 (show 1 + 5 * i + 1 ≤ 201 by omega) (show 40 + 69 * i + 7 ≤ 2800 by omega) dX3_init_36 (fun q7 H hw => ?_)
      have hw : zz_w G A s [(h0, .inr (3, [.ref q1, .int 0, .int 0])), (q1, .inl (G.2 5, 40, .inr (.inr (.inr (.inr f))))), (q2, .inr (6, [.ref a1_3, .ref a2_4, .ref a3_5, .ref a4_6, .int 0, .int 0, .int 0])), (a1_3, .inl (G.2 0, 7, .inl (fun _ => 0))), (a2_4, .inl (G.2 0, 6, .inl (fun _ => 0))), (a3_5, .inl (G.2 0, 7, .inl (fun _ => 0))), (a4_6, .inl (G.2 0, 42, .inl (fun _ => 0))), (q7, .inr (6, [.null, .null, .null, .null, .int 0, .int 0, .int 0]))] H _ := hw
      refine lv_dup hx hb dX3_init_39 rfl ?_
      refine zz_callI (As := []) (rest := [.ref q7, .int (nI i), .ref q1]) (wr := [(h0, .inr (3, [.ref q1, .int 0, .int 0])), (q1, .inl (G.2 5, 40, .inr (.inr (.inr (.inr f))))), (q2, .inr (6, [.ref a1_3, .ref a2_4, .ref a3_5, .ref a4_6, .int 0, .int 0, .int 0])), (a1_3, .inl (G.2 0, 7, .inl (fun _ => 0))), (a2_4, .inl (G.2 0, 6, .inl (fun _ => 0))), (a3_5, .inl (G.2 0, 7, .inl (fun _ => 0))), (a4_6, .inl (G.2 0, 42, .inl (fun _ => 0)))]) S hw hl.1 lX3_22 (c_State_init l G q7) ⟨Nat.le_of_ble_eq_true rfl, Nat.le_of_ble_eq_true rfl⟩ ⟨show 1 + 5 * i + 1 + 4 ≤ 201 by omega, show 40 + 69 * i + 7 + 62 ≤ 2800 by omega⟩ [7] [0, 1, 2, 3, 4, 5, 6] (by decide) rfl rfl (by decide) (by decide) rfl rfl (Nat.le_of_ble_eq_true rfl) dX3_init_40 (fun rr u H locs hp hw => ?_)
      obtain ⟨a1_8, a2_9, a3_10, a4_11, rfl, rfl⟩ := hp
      have hw : zz_w G A s [(h0, .inr (3, [.ref q1, .int 0, .int 0])), (q1, .inl (G.2 5, 40, .inr (.inr (.inr (.inr f))))), (q2, .inr (6, [.ref a1_3, .ref a2_4, .ref a3_5, .ref a4_6, .int 0, .int 0, .int 0])), (a1_3, .inl (G.2 0, 7, .inl (fun _ => 0))), (a2_4, .inl (G.2 0, 6, .inl (fun _ => 0))), (a3_5, .inl (G.2 0, 7, .inl (fun _ => 0))), (a4_6, .inl (G.2 0, 42, .inl (fun _ => 0))), (q7, .inr (6, [.ref a1_8, .ref a2_9, .ref a3_10, .ref a4_11, .int 0, .int 0, .int 0])), (a1_8, .inl (G.2 0, 7, .inl (fun _ => 0))), (a2_9, .inl (G.2 0, 6, .inl (fun _ => 0))), (a3_10, .inl (G.2 0, 7, .inl (fun _ => 0))), (a4_11, .inl (G.2 0, 42, .inl (fun _ => 0)))] H _ := hw
      refine W.eq (g2 := F0 m 43 ls [.ref q7, .int (nI i), .ref q1]) rfl ?_
      refine zz_astS (ws' := [(h0, .inr (3, [.ref q1, .int 0, .int 0])), (q1, .inl (G.2 5, 40, .inr (.inr (.inr (.inr (va_up f i (some q7))))))), (q2, .inr (6, [.ref a1_3, .ref a2_4, .ref a3_5, .ref a4_6, .int 0, .int 0, .int 0])), (a1_3, .inl (G.2 0, 7, .inl (fun _ => 0))), (a2_4, .inl (G.2 0, 6, .inl (fun _ => 0))), (a3_5, .inl (G.2 0, 7, .inl (fun _ => 0))), (a4_6, .inl (G.2 0, 42, .inl (fun _ => 0))), (q7, .inr (6, [.ref a1_8, .ref a2_9, .ref a3_10, .ref a4_11, .int 0, .int 0, .int 0])), (a1_8, .inl (G.2 0, 7, .inl (fun _ => 0))), (a2_9, .inl (G.2 0, 6, .inl (fun _ => 0))), (a3_10, .inl (G.2 0, 7, .inl (fun _ => 0))), (a4_11, .inl (G.2 0, 42, .inl (fun _ => 0)))]) (g := (va_up f i (some q7))) S hw 1 7 rfl rfl (vp_in_nI (n := i) (by omega) (by decide)) (zz_vun (n := i) (by omega)) rfl dX3_init_43 (fun H locs hw => ?_)
      refine lv_iinc (v := (nI (i + 1))) (lv' := [(1, .int (nI (i + 1))), (0, .ref h0)]) hx hb dX3_init_44 hl (k := 0) rfl (nI_add _ 1) (by decide) rfl (fun ls hl => ?_)
      refine lv_goto (tgt := 25) hx hb dX3_init_47 (by decide) ?_
      refine W.cs (cells' := 1 + 5 * (i + 1)) (slots' := 40 + 69 * (i + 1)) (by omega) (by omega) ?_
      exact ih (i + 1) _ _ _ _ (by omega) (by omega) (by show (if 0 = i then _ else f 0) = _; rw [if_neg (by omega)]; exact hf) (hw.sub [0, 1, 2, 3, 4, 5, 6] (by decide) rfl) (lv_sub hl [0, 1] rfl)
  refine W.cs (cells' := 1 + 5 * 1) (slots' := 40 + 69 * 1) rfl rfl ?_
  exact lp 39 1 _ _ _ _ (by omega) (by omega) (by rfl) hw hl
end
section
theorem dX9_init_0 : decode cX9_init 0 = .ok (.aload_n 0, 1) := by decide +kernel
theorem dX9_init_1 : decode cX9_init 1 = .ok (.invokespecial 1, 3) := by decide +kernel
theorem dX9_init_4 : decode cX9_init 4 = .ok (.aload_n 0, 1) := by decide +kernel
theorem dX9_init_5 : decode cX9_init 5 = .ok (.sipush 2000, 3) := by decide +kernel
theorem dX9_init_8 : decode cX9_init 8 = .ok (.newarray .byte, 2) := by decide +kernel
theorem dX9_init_10 : decode cX9_init 10 = .ok (.putfield 9, 3) := by decide +kernel
theorem dX9_init_13 : decode cX9_init 13 = .ok (.aload_n 0, 1) := by decide +kernel
theorem dX9_init_14 : decode cX9_init 14 = .ok (.iconst 0, 1) := by decide +kernel
theorem dX9_init_15 : decode cX9_init 15 = .ok (.putfield 13, 3) := by decide +kernel
theorem dX9_init_18 : decode cX9_init 18 = .ok (.aload_n 0, 1) := by decide +kernel
theorem dX9_init_19 : decode cX9_init 19 = .ok (.new 17, 3) := by decide +kernel
theorem dX9_init_22 : decode cX9_init 22 = .ok (.dup, 1) := by decide +kernel
theorem dX9_init_23 : decode cX9_init 23 = .ok (.invokespecial 19, 3) := by decide +kernel
theorem dX9_init_26 : decode cX9_init 26 = .ok (.putfield 20, 3) := by decide +kernel
theorem dX9_init_29 : decode cX9_init 29 = .ok (.aload_n 0, 1) := by decide +kernel
theorem dX9_init_30 : decode cX9_init 30 = .ok (.iconst (-1), 1) := by decide +kernel
theorem dX9_init_31 : decode cX9_init 31 = .ok (.putfield 24, 3) := by decide +kernel
theorem dX9_init_34 : decode cX9_init 34 = .ok (.aload_n 0, 1) := by decide +kernel
theorem dX9_init_35 : decode cX9_init 35 = .ok (.new 27, 3) := by decide +kernel
theorem dX9_init_38 : decode cX9_init 38 = .ok (.dup, 1) := by decide +kernel
theorem dX9_init_39 : decode cX9_init 39 = .ok (.invokespecial 29, 3) := by decide +kernel
theorem dX9_init_42 : decode cX9_init 42 = .ok (.putfield 30, 3) := by decide +kernel
theorem dX9_init_45 : decode cX9_init 45 = .ok (.aload_n 0, 1) := by decide +kernel
theorem dX9_init_46 : decode cX9_init 46 = .ok (.new 27, 3) := by decide +kernel
theorem dX9_init_49 : decode cX9_init 49 = .ok (.dup, 1) := by decide +kernel
theorem dX9_init_50 : decode cX9_init 50 = .ok (.invokespecial 29, 3) := by decide +kernel
theorem dX9_init_53 : decode cX9_init 53 = .ok (.putfield 34, 3) := by decide +kernel
theorem dX9_init_56 : decode cX9_init 56 = .ok (.aload_n 0, 1) := by decide +kernel
theorem dX9_init_57 : decode cX9_init 57 = .ok (.new 37, 3) := by decide +kernel
theorem dX9_init_60 : decode cX9_init 60 = .ok (.dup, 1) := by decide +kernel
theorem dX9_init_61 : decode cX9_init 61 = .ok (.invokespecial 39, 3) := by decide +kernel
theorem dX9_init_64 : decode cX9_init 64 = .ok (.putfield 40, 3) := by decide +kernel
theorem dX9_init_67 : decode cX9_init 67 = .ok (.aload_n 0, 1) := by decide +kernel
theorem dX9_init_68 : decode cX9_init 68 = .ok (.new 37, 3) := by decide +kernel
theorem dX9_init_71 : decode cX9_init 71 = .ok (.dup, 1) := by decide +kernel
theorem dX9_init_72 : decode cX9_init 72 = .ok (.invokespecial 39, 3) := by decide +kernel
theorem dX9_init_75 : decode cX9_init 75 = .ok (.putfield 44, 3) := by decide +kernel
theorem dX9_init_78 : decode cX9_init 78 = .ok (.aload_n 0, 1) := by decide +kernel
theorem dX9_init_79 : decode cX9_init 79 = .ok (.new 47, 3) := by decide +kernel
theorem dX9_init_82 : decode cX9_init 82 = .ok (.dup, 1) := by decide +kernel
theorem dX9_init_83 : decode cX9_init 83 = .ok (.invokespecial 49, 3) := by decide +kernel
theorem dX9_init_86 : decode cX9_init 86 = .ok (.putfield 50, 3) := by decide +kernel
theorem dX9_init_89 : decode cX9_init 89 = .ok (.aload_n 0, 1) := by decide +kernel
theorem dX9_init_90 : decode cX9_init 90 = .ok (.new 54, 3) := by decide +kernel
theorem dX9_init_93 : decode cX9_init 93 = .ok (.dup, 1) := by decide +kernel
theorem dX9_init_94 : decode cX9_init 94 = .ok (.invokespecial 56, 3) := by decide +kernel
theorem dX9_init_97 : decode cX9_init 97 = .ok (.putfield 57, 3) := by decide +kernel
theorem dX9_init_100 : decode cX9_init 100 = .ok (.aload_n 0, 1) := by decide +kernel
theorem dX9_init_101 : decode cX9_init 101 = .ok (.new 61, 3) := by decide +kernel
theorem dX9_init_104 : decode cX9_init 104 = .ok (.dup, 1) := by decide +kernel
theorem dX9_init_105 : decode cX9_init 105 = .ok (.invokespecial 63, 3) := by decide +kernel
theorem dX9_init_108 : decode cX9_init 108 = .ok (.putfield 64, 3) := by decide +kernel
theorem dX9_init_111 : decode cX9_init 111 = .ok (.aload_n 0, 1) := by decide +kernel
theorem dX9_init_112 : decode cX9_init 112 = .ok (.new 68, 3) := by decide +kernel
theorem dX9_init_115 : decode cX9_init 115 = .ok (.dup, 1) := by decide +kernel
theorem dX9_init_116 : decode cX9_init 116 = .ok (.invokespecial 70, 3) := by decide +kernel
theorem dX9_init_119 : decode cX9_init 119 = .ok (.putfield 71, 3) := by decide +kernel
theorem dX9_init_122 : decode cX9_init 122 = .ok (.aload_n 0, 1) := by decide +kernel
theorem dX9_init_123 : decode cX9_init 123 = .ok (.iconst 3, 1) := by decide +kernel
theorem dX9_init_124 : decode cX9_init 124 = .ok (.anewarray 37, 3) := by decide +kernel
theorem dX9_init_127 : decode cX9_init 127 = .ok (.putfield 75, 3) := by decide +kernel
theorem dX9_init_130 : decode cX9_init 130 = .ok (.aload_n 0, 1) := by decide +kernel
theorem dX9_init_131 : decode cX9_init 131 = .ok (.iconst 3, 1) := by decide +kernel
theorem dX9_init_132 : decode cX9_init 132 = .ok (.newarray .boolean, 2) := by decide +kernel
theorem dX9_init_134 : decode cX9_init 134 = .ok (.putfield 79, 3) := by decide +kernel
theorem dX9_init_137 : decode cX9_init 137 = .ok (.iconst 0, 1) := by decide +kernel
theorem dX9_init_138 : decode cX9_init 138 = .ok (.istore_n 1, 1) := by decide +kernel
theorem dX9_init_139 : decode cX9_init 139 = .ok (.iload_n 1, 1) := by decide +kernel
theorem dX9_init_140 : decode cX9_init 140 = .ok (.iconst 3, 1) := by decide +kernel
theorem dX9_init_141 : decode cX9_init 141 = .ok (.if_icmp .ge 22, 3) := by decide +kernel
theorem dX9_init_144 : decode cX9_init 144 = .ok (.aload_n 0, 1) := by decide +kernel
theorem dX9_init_145 : decode cX9_init 145 = .ok (.getfield 75, 3) := by decide +kernel
theorem dX9_init_148 : decode cX9_init 148 = .ok (.iload_n 1, 1) := by decide +kernel
theorem dX9_init_149 : decode cX9_init 149 = .ok (.new 37, 3) := by decide +kernel
theorem dX9_init_152 : decode cX9_init 152 = .ok (.dup, 1) := by decide +kernel
theorem dX9_init_153 : decode cX9_init 153 = .ok (.invokespecial 39, 3) := by decide +kernel
theorem dX9_init_156 : decode cX9_init 156 = .ok (.aastore, 1) := by decide +kernel
theorem dX9_init_157 : decode cX9_init 157 = .ok (.iinc 1 1, 3) := by decide +kernel
theorem dX9_init_160 : decode cX9_init 160 = .ok (.goto (-21), 3) := by decide +kernel
theorem dX9_init_163 : decode cX9_init 163 = .ok (.return_, 1) := by decide +kernel
set_option maxHeartbeats 4000000 in
set_option maxRecDepth 100000 in
theorem c_X_init (l : Launch) (G : zz_G) (h0 : Nat) : zz_M l G mX9_init 4 300 11718 [.ref h0] [(h0, .inr (9, [.null, .int 0, .null, .int 0, .null, .null, .null, .null, .null, .null, .null, .null, .null, .null]))] (fun rr u => ∃ (r : Nat → Nat), ∃ (df0 : Nat → Int32), ∃ (dg0 : Nat → Int32), ∃ (df1 : Nat → Int32), ∃ (dg1 : Nat → Int32), ∃ (df2 : Nat → Int32), ∃ (dg2 : Nat → Int32), ∃ (df3 : Nat → Int32), ∃ (dg3 : Nat → Int32), ∃ (pf : Nat → Option Nat), rr = none ∧ u = [((r 0), .inr (9, [.ref (r 1), .int 0, .ref (r 2), .int (-1), .ref (r 10), .ref (r 20), .ref (r 50), .ref (r 55), .ref (r 60), .ref (r 63), .ref (r 67), .ref (r 74), .ref (r 78), .ref (r 95)])), ((r 1), .inl (G.2 1, 2000, .inl (fun _ => 0))), ((r 2), .inr (4, [.ref (r 3), .ref (r 8), .int 0, .int 0, .int 0, .int (-1), .int 0, .int (-1)])), ((r 3), .inr (7, [.ref (r 4), .ref (r 5), .ref (r 6), .ref (r 7)])), ((r 4), .inl (G.2 0, 401, .inl (fun _ => 0))), ((r 5), .inl (G.2 0, 401, .inl (fun _ => 0))), ((r 6), .inl (G.2 0, 401, .inl (fun _ => 0))), ((r 7), .inl (G.2 3, 401, .inr (.inl (fun _ => 0)))), ((r 10), .inr (5, [.ref (r 11), .ref (r 12), .ref (r 13), .ref (r 14), .ref (r 15), .ref (r 16), .ref (r 17), .ref (r 18), .ref (r 19), .int 0, .int 0, .int 1, .int 0])), ((r 20), .inr (5, [.ref (r 21), .ref (r 22), .ref (r 23), .ref (r 24), .ref (r 25), .ref (r 26), .ref (r 27), .ref (r 28), .ref (r 29), .int 0, .int 0, .int 1, .int 0])), ((r 22), .inl (G.2 0, 7, .inl (fun _ => 0))), ((r 25), .inl (G.2 0, 6, .inl (fun _ => 0))), ((r 28), .inl (G.2 4, 4, .inr (.inr (.inr (.inr (va_up (va_up (va_up (va_up (fun _ => none) 0 (some (r 30))) 1 (some (r 34))) 2 (some (r 38))) 3 (some (r 42)))))))), ((r 30), .inr (2, [.ref (r 31), .ref (r 32), .ref (r 33), .int 1, .int 7])), ((r 31), .inl (G.2 0, 400, .inl df0)), ((r 32), .inl (G.2 0, 14, .inl dg0)), ((r 34), .inr (2, [.ref (r 35), .ref (r 36), .ref (r 37), .int 1, .int 1])), ((r 35), .inl (G.2 0, 400, .inl df1)), ((r 36), .inl (G.2 0, 14, .inl dg1)), ((r 38), .inr (2, [.ref (r 39), .ref (r 40), .ref (r 41), .int 1, .int 1])), ((r 39), .inl (G.2 0, 400, .inl df2)), ((r 40), .inl (G.2 0, 14, .inl dg2)), ((r 42), .inr (2, [.ref (r 43), .ref (r 44), .ref (r 45), .int 1, .int 1])), ((r 43), .inl (G.2 0, 400, .inl df3)), ((r 44), .inl (G.2 0, 14, .inl dg3)), ((r 50), .inr (6, [.ref (r 51), .ref (r 52), .ref (r 53), .ref (r 54), .int 0, .int 0, .int 0])), ((r 51), .inl (G.2 0, 7, .inl (fun _ => 0))), ((r 52), .inl (G.2 0, 6, .inl (fun _ => 0))), ((r 53), .inl (G.2 0, 7, .inl (fun _ => 0))), ((r 54), .inl (G.2 0, 42, .inl (fun _ => 0))), ((r 55), .inr (6, [.ref (r 56), .ref (r 57), .ref (r 58), .ref (r 59), .int 0, .int 0, .int 0])), ((r 56), .inl (G.2 0, 7, .inl (fun _ => 0))), ((r 57), .inl (G.2 0, 6, .inl (fun _ => 0))), ((r 58), .inl (G.2 0, 7, .inl (fun _ => 0))), ((r 59), .inl (G.2 0, 42, .inl (fun _ => 0))), ((r 60), .inr (0, [.ref (r 61), .ref (r 62), .int 0, .int 0])), ((r 62), .inl (G.2 0, 7, .inl (fun _ => 0))), ((r 63), .inr (1, [.ref (r 64), .ref (r 65), .ref (r 66), .int 0, .int 0])), ((r 65), .inl (G.2 0, 128, .inl (fun _ => 0))), ((r 66), .inl (G.2 0, 896, .inl (fun _ => 0))), ((r 67), .inr (3, [.ref (r 68), .int 0, .int 0])), ((r 68), .inl (G.2 5, 40, .inr (.inr (.inr (.inr pf))))), ((r 69), .inr (6, [.ref (r 70), .ref (r 71), .ref (r 72), .ref (r 73), .int 0, .int 0, .int 0])), ((r 70), .inl (G.2 0, 7, .inl (fun _ => 0))), ((r 71), .inl (G.2 0, 6, .inl (fun _ => 0))), ((r 72), .inl (G.2 0, 7, .inl (fun _ => 0))), ((r 73), .inl (G.2 0, 42, .inl (fun _ => 0))), ((r 74), .inr (8, [.ref (r 75), .ref (r 76), .ref (r 77), .int 0])), ((r 78), .inl (G.2 5, 3, .inr (.inr (.inr (.inr (va_up (va_up (va_up (fun _ => none) 0 (some (r 80))) 1 (some (r 85))) 2 (some (r 90)))))))), ((r 80), .inr (6, [.ref (r 81), .ref (r 82), .ref (r 83), .ref (r 84), .int 0, .int 0, .int 0])), ((r 81), .inl (G.2 0, 7, .inl (fun _ => 0))), ((r 82), .inl (G.2 0, 6, .inl (fun _ => 0))), ((r 83), .inl (G.2 0, 7, .inl (fun _ => 0))), ((r 84), .inl (G.2 0, 42, .inl (fun _ => 0))), ((r 85), .inr (6, [.ref (r 86), .ref (r 87), .ref (r 88), .ref (r 89), .int 0, .int 0, .int 0])), ((r 86), .inl (G.2 0, 7, .inl (fun _ => 0))), ((r 87), .inl (G.2 0, 6, .inl (fun _ => 0))), ((r 88), .inl (G.2 0, 7, .inl (fun _ => 0))), ((r 89), .inl (G.2 0, 42, .inl (fun _ => 0))), ((r 90), .inr (6, [.ref (r 91), .ref (r 92), .ref (r 93), .ref (r 94), .int 0, .int 0, .int 0])), ((r 91), .inl (G.2 0, 7, .inl (fun _ => 0))), ((r 92), .inl (G.2 0, 6, .inl (fun _ => 0))), ((r 93), .inl (G.2 0, 7, .inl (fun _ => 0))), ((r 94), .inl (G.2 0, 42, .inl (fun _ => 0))), ((r 95), .inl (G.2 2, 3, .inl (fun _ => 0)))] ∧ r 0 = h0 ∧ pf 0 = some (r 69)) := by
  refine zz_enterv (by decide +kernel) (Nat.le_of_ble_eq_true rfl) ?_
  intro p e s m args below meth c A Q ls S hnm hret hw hl
  have hl : lv_has ls 2 [(0, .ref h0)] := hl
  have hx := S.1
  have hb := S.2.1
  refine lv_aload_n hx hb dX9_init_0 rfl (lv_at hl 0 rfl) ?_
  refine zz_obj S (zz_c1 25 rfl rfl) hl.1 dX9_init_1 (Nat.le_of_ble_eq_true rfl) (Nat.le_of_ble_eq_true rfl) ?_
  refine lv_aload_n hx hb dX9_init_4 rfl (lv_at hl 0 rfl) ?_
  refine lv_sipush (v := 2000) hx hb dX9_init_5 (by decide) ?_
  refine zz_newa (at_ := .byte) (a0 := (2000, .inl (fun _ => 0))) 1 S hw zz_ar1 rfl rfl (fun _ _ h => h) (fun _ => rfl) (by decide) (nI_clamp (n := 2000) (by decide)) (by decide) (Nat.le_of_ble_eq_true rfl) (Nat.le_of_ble_eq_true rfl) dX9_init_8 (fun q1 H hw => ?_)
  have hw : zz_w G A s [(h0, .inr (9, [.null, .int 0, .null, .int 0, .null, .null, .null, .null, .null, .null, .null, .null, .null, .null])), (q1, .inl (G.2 1, 2000, .inl (fun _ => 0)))] H _ := hw
  refine zz_putF (ws' := [(h0, .inr (9, [.ref q1, .int 0, .null, .int 0, .null, .null, .null, .null, .null, .null, .null, .null, .null, .null])), (q1, .inl (G.2 1, 2000, .inl (fun _ => 0)))]) (v := .ref q1) S hnm hw fpX9_9 0 rfl rfl rfl (Nat.le_of_ble_eq_true rfl) rfl dX9_init_10 (fun H locs hw => ?_)
  refine lv_aload_n hx hb dX9_init_13 rfl (lv_at hl 0 rfl) ?_
  refine lv_iconst (v := 0) hx hb dX9_init_14 (by decide) ?_
  refine zz_put (ws' := [(h0, .inr (9, [.ref q1, .int 0, .null, .int 0, .null, .null, .null, .null, .null, .null, .null, .null, .null, .null])), (q1, .inl (G.2 1, 2000, .inl (fun _ => 0)))]) (v := .int 0) S hw fpX9_13 0 rfl rfl rfl (Nat.le_of_ble_eq_true rfl) rfl dX9_init_15 (fun H locs hw => ?_)
  refine lv_aload_n hx hb dX9_init_18 rfl (lv_at hl 0 rfl) ?_
  refine zz_new (fs := zz_dX4) S hw kX4 tyX4 tyX4_ok (zz_c1 28 rfl rfl) (zz_c1 29 rfl rfl) (zz_c1 2 rfl rfl) dfX4 (Nat.le_of_ble_eq_true rfl) (Nat.le_of_ble_eq_true rfl) dX9_init_19 (fun q2 H hw => ?_)
  have hw : zz_w G A s [(h0, .inr (9, [.ref q1, .int 0, .null, .int 0, .null, .null, .null, .null, .null, .null, .null, .null, .null, .null])), (q1, .inl (G.2 1, 2000, .inl (fun _ => 0))), (q2, .inr (4, [.null, .null, .int 0, .int 0, .int 0, .int 0, .int 0, .int 0]))] H _ := hw
  refine lv_dup hx hb dX9_init_22 rfl ?_
  refine zz_callI (As := []) (rest := [.ref q2, .ref h0]) (wr := [(h0, .inr (9, [.ref q1, .int 0, .null, .int 0, .null, .null, .null, .null, .null, .null, .null, .null, .null, .null])), (q1, .inl (G.2 1, 2000, .inl (fun _ => 0)))]) S hw hl.1 lX9_19 (c_Reader_init l G q2) ⟨Nat.le_of_ble_eq_true rfl, Nat.le_of_ble_eq_true rfl⟩ ⟨Nat.le_of_ble_eq_true rfl, Nat.le_of_ble_eq_true rfl⟩ [2] [0, 1] (by decide) rfl rfl (by decide) (by decide) rfl rfl (Nat.le_of_ble_eq_true rfl) dX9_init_23 (fun rr u H locs hp hw => ?_)
  obtain ⟨b1_3, b2_4, a1_5, a2_6, a3_7, a4_8, rfl, rfl⟩ := hp
  have hw : zz_w G A s [(h0, .inr (9, [.ref q1, .int 0, .null, .int 0, .null, .null, .null, .null, .null, .null, .null, .null, .null, .null])), (q1, .inl (G.2 1, 2000, .inl (fun _ => 0))), (q2, .inr (4, [.ref b1_3, .ref b2_4, .int 0, .int 0, .int 0, .int (-1), .int 0, .int (-1)])), (b1_3, .inr (7, [.ref a1_5, .ref a2_6, .ref a3_7, .ref a4_8])), (a1_5, .inl (G.2 0, 401, .inl (fun _ => 0))), (a2_6, .inl (G.2 0, 401, .inl (fun _ => 0))), (a3_7, .inl (G.2 0, 401, .inl (fun _ => 0))), (a4_8, .inl (G.2 3, 401, .inr (.inl (fun _ => 0)))), (b2_4, .inl (G.2 0, 32, .inl (fun _ => 0)))] H _ := hw
  refine W.eq (g2 := F0 m 26 ls [.ref q2, .ref h0]) rfl ?_
  have hw : zz_w G A s [(h0, .inr (9, [.ref q1, .int 0, .null, .int 0, .null, .null, .null, .null, .null, .null, .null, .null, .null, .null])), (q1, .inl (G.2 1, 2000, .inl (fun _ => 0))), (q2, .inr (4, [.ref b1_3, .ref b2_4, .int 0, .int 0, .int 0, .int (-1), .int 0, .int (-1)])), (b1_3, .inr (7, [.ref a1_5, .ref a2_6, .ref a3_7, .ref a4_8])), (a1_5, .inl (G.2 0, 401, .inl (fun _ => 0))), (a2_6, .inl (G.2 0, 401, .inl (fun _ => 0))), (a3_7, .inl (G.2 0, 401, .inl (fun _ => 0))), (a4_8, .inl (G.2 3, 401, .inr (.inl (fun _ => 0))))] H _ := hw.sub [0, 1, 2, 3, 4, 5, 6, 7] (by decide) rfl
  refine zz_putF (ws' := [(h0, .inr (9, [.ref q1, .int 0, .ref q2, .int 0, .null, .null, .null, .null, .null, .null, .null, .null, .null, .null])), (q1, .inl (G.2 1, 2000, .inl (fun _ => 0))), (q2, .inr (4, [.ref b1_3, .ref b2_4, .int 0, .int 0, .int 0, .int (-1), .int 0, .int (-1)])), (b1_3, .inr (7, [.ref a1_5, .ref a2_6, .ref a3_7, .ref a4_8])), (a1_5, .inl (G.2 0, 401, .inl (fun _ => 0))), (a2_6, .inl (G.2 0, 401, .inl (fun _ => 0))), (a3_7, .inl (G.2 0, 401, .inl (fun _ => 0))), (a4_8, .inl (G.2 3, 401, .inr (.inl (fun _ => 0))))]) (v := .ref q2) S hnm hw fpX9_20 0 rfl rfl rfl (Nat.le_of_ble_eq_true rfl) rfl dX9_init_26 (fun H locs hw => ?_)
  refine lv_aload_n hx hb dX9_init_29 rfl (lv_at hl 0 rfl) ?_
  refine lv_iconst (v := (-1)) hx hb dX9_init_30 (by decide) ?_
  refine zz_put (ws' := [(h0, .inr (9, [.ref q1, .int 0, .ref q2, .int (-1), .null, .null, .null, .null, .null, .null, .null, .null, .null, .null])), (q1, .inl (G.2 1, 2000, .inl (fun _ => 0))), (q2, .inr (4, [.ref b1_3, .ref b2_4, .int 0, .int 0, .int 0, .int (-1), .int 0, .int (-1)])), (b1_3, .inr (7, [.ref a1_5, .ref a2_6, .ref a3_7, .ref a4_8])), (a1_5, .inl (G.2 0, 401, .inl (fun _ => 0))), (a2_6, .inl (G.2 0, 401, .inl (fun _ => 0))), (a3_7, .inl (G.2 0, 401, .inl (fun _ => 0))), (a4_8, .inl (G.2 3, 401, .inr (.inl (fun _ => 0))))]) (v := .int (-1)) S hw fpX9_24 0 rfl rfl rfl (Nat.le_of_ble_eq_true rfl) rfl dX9_init_31 (fun H locs hw => ?_)
  refine lv_aload_n hx hb dX9_init_34 rfl (lv_at hl 0 rfl) ?_
  refine zz_new (fs := zz_dX5) S hw kX5 tyX5 tyX5_ok (zz_c1 86 rfl rfl) (zz_c1 87 rfl rfl) (zz_c1 4 rfl rfl) dfX5 (Nat.le_of_ble_eq_true rfl) (Nat.le_of_ble_eq_true rfl) dX9_init_35 (fun q9 H hw => ?_)
  have hw : zz_w G A s [(h0, .inr (9, [.ref q1, .int 0, .ref q2, .int (-1), .null, .null, .null, .null, .null, .null, .null, .null, .null, .null])), (q1, .inl (G.2 1, 2000, .inl (fun _ => 0))), (q2, .inr (4, [.ref b1_3, .ref b2_4, .int 0, .int 0, .int 0, .int (-1), .int 0, .int (-1)])), (b1_3, .inr (7, [.ref a1_5, .ref a2_6, .ref a3_7, .ref a4_8])), (a1_5, .inl (G.2 0, 401, .inl (fun _ => 0))), (a2_6, .inl (G.2 0, 401, .inl (fun _ => 0))), (a3_7, .inl (G.2 0, 401, .inl (fun _ => 0))), (a4_8, .inl (G.2 3, 401, .inr (.inl (fun _ => 0)))), (q9, .inr (5, [.null, .null, .null, .null, .null, .null, .null, .null, .null, .int 0, .int 0, .int 0, .int 0]))] H _ := hw
  refine lv_dup hx hb dX9_init_38 rfl ?_
  refine zz_callI (As := []) (rest := [.ref q9, .ref h0]) (wr := [(h0, .inr (9, [.ref q1, .int 0, .ref q2, .int (-1), .null, .null, .null, .null, .null, .null, .null, .null, .null, .null])), (q1, .inl (G.2 1, 2000, .inl (fun _ => 0))), (q2, .inr (4, [.ref b1_3, .ref b2_4, .int 0, .int 0, .int 0, .int (-1), .int 0, .int (-1)])), (b1_3, .inr (7, [.ref a1_5, .ref a2_6, .ref a3_7, .ref a4_8])), (a1_5, .inl (G.2 0, 401, .inl (fun _ => 0))), (a2_6, .inl (G.2 0, 401, .inl (fun _ => 0))), (a3_7, .inl (G.2 0, 401, .inl (fun _ => 0))), (a4_8, .inl (G.2 3, 401, .inr (.inl (fun _ => 0))))]) S hw hl.1 lX9_29 (c_Script_init l G q9) ⟨Nat.le_of_ble_eq_true rfl, Nat.le_of_ble_eq_true rfl⟩ ⟨Nat.le_of_ble_eq_true rfl, Nat.le_of_ble_eq_true rfl⟩ [8] [0, 1, 2, 3, 4, 5, 6, 7] (by decide) rfl rfl (by decide) (by decide) rfl rfl (Nat.le_of_ble_eq_true rfl) dX9_init_39 (fun rr u H locs hp hw => ?_)
  obtain ⟨s1_10, s2_11, s3_12, s4_13, s5_14, s6_15, s7_16, s8_17, s9_18, w0_19, w1_20, w2_21, w3_22, x0_23, x1_24, x2_25, x3_26, x4_27, x5_28, x6_29, x7_30, x8_31, x9_32, x10_33, x11_34, ff0_35, gg0_36, ff1_37, gg1_38, ff2_39, gg2_40, ff3_41, gg3_42, rfl, rfl⟩ := hp
  have hw : zz_w G A s [(h0, .inr (9, [.ref q1, .int 0, .ref q2, .int (-1), .null, .null, .null, .null, .null, .null, .null, .null, .null, .null])), (q1, .inl (G.2 1, 2000, .inl (fun _ => 0))), (q2, .inr (4, [.ref b1_3, .ref b2_4, .int 0, .int 0, .int 0, .int (-1), .int 0, .int (-1)])), (b1_3, .inr (7, [.ref a1_5, .ref a2_6, .ref a3_7, .ref a4_8])), (a1_5, .inl (G.2 0, 401, .inl (fun _ => 0))), (a2_6, .inl (G.2 0, 401, .inl (fun _ => 0))), (a3_7, .inl (G.2 0, 401, .inl (fun _ => 0))), (a4_8, .inl (G.2 3, 401, .inr (.inl (fun _ => 0)))), (q9, .inr (5, [.ref s1_10, .ref s2_11, .ref s3_12, .ref s4_13, .ref s5_14, .ref s6_15, .ref s7_16, .ref s8_17, .ref s9_18, .int 0, .int 0, .int 1, .int 0])), (s1_10, .inl (G.2 3, 13, .inr (.inl (fun _ => 0)))), (s2_11, .inl (G.2 0, 7, .inl (fun _ => 0))), (s3_12, .inl (G.2 0, 7, .inl (fun _ => 0))), (s4_13, .inl (G.2 0, 7, .inl (fun _ => 0))), (s5_14, .inl (G.2 0, 6, .inl (fun _ => 0))), (s6_15, .inl (G.2 0, 6, .inl (fun _ => 0))), (s7_16, .inl (G.2 0, 6, .inl (fun _ => 0))), (s9_18, .inl (G.2 0, 9, .inl (fun _ => 0))), (s8_17, .inl (G.2 4, 4, .inr (.inr (.inr (.inr (va_up (va_up (va_up (va_up (fun _ => none) 0 (some w0_19)) 1 (some w1_20)) 2 (some w2_21)) 3 (some w3_22))))))), (w0_19, .inr (2, [.ref x0_23, .ref x1_24, .ref x2_25, .int 1, .int 7])), (x0_23, .inl (G.2 0, 400, .inl ff0_35)), (x1_24, .inl (G.2 0, 14, .inl gg0_36)), (x2_25, .inl (G.2 0, 32, .inl (fun _ => 0))), (w1_20, .inr (2, [.ref x3_26, .ref x4_27, .ref x5_28, .int 1, .int 1])), (x3_26, .inl (G.2 0, 400, .inl ff1_37)), (x4_27, .inl (G.2 0, 14, .inl gg1_38)), (x5_28, .inl (G.2 0, 32, .inl (fun _ => 0))), (w2_21, .inr (2, [.ref x6_29, .ref x7_30, .ref x8_31, .int 1, .int 1])), (x6_29, .inl (G.2 0, 400, .inl ff2_39)), (x7_30, .inl (G.2 0, 14, .inl gg2_40)), (x8_31, .inl (G.2 0, 32, .inl (fun _ => 0))), (w3_22, .inr (2, [.ref x9_32, .ref x10_33, .ref x11_34, .int 1, .int 1])), (x9_32, .inl (G.2 0, 400, .inl ff3_41)), (x10_33, .inl (G.2 0, 14, .inl gg3_42)), (x11_34, .inl (G.2 0, 32, .inl (fun _ => 0)))] H _ := hw
  refine W.eq (g2 := F0 m 42 ls [.ref q9, .ref h0]) rfl ?_
  have hw : zz_w G A s [(h0, .inr (9, [.ref q1, .int 0, .ref q2, .int (-1), .null, .null, .null, .null, .null, .null, .null, .null, .null, .null])), (q1, .inl (G.2 1, 2000, .inl (fun _ => 0))), (q2, .inr (4, [.ref b1_3, .ref b2_4, .int 0, .int 0, .int 0, .int (-1), .int 0, .int (-1)])), (b1_3, .inr (7, [.ref a1_5, .ref a2_6, .ref a3_7, .ref a4_8])), (a1_5, .inl (G.2 0, 401, .inl (fun _ => 0))), (a2_6, .inl (G.2 0, 401, .inl (fun _ => 0))), (a3_7, .inl (G.2 0, 401, .inl (fun _ => 0))), (a4_8, .inl (G.2 3, 401, .inr (.inl (fun _ => 0)))), (q9, .inr (5, [.ref s1_10, .ref s2_11, .ref s3_12, .ref s4_13, .ref s5_14, .ref s6_15, .ref s7_16, .ref s8_17, .ref s9_18, .int 0, .int 0, .int 1, .int 0]))] H _ := hw.sub [0, 1, 2, 3, 4, 5, 6, 7, 8] (by decide) rfl
  refine zz_put (ws' := [(h0, .inr (9, [.ref q1, .int 0, .ref q2, .int (-1), .ref q9, .null, .null, .null, .null, .null, .null, .null, .null, .null])), (q1, .inl (G.2 1, 2000, .inl (fun _ => 0))), (q2, .inr (4, [.ref b1_3, .ref b2_4, .int 0, .int 0, .int 0, .int (-1), .int 0, .int (-1)])), (b1_3, .inr (7, [.ref a1_5, .ref a2_6, .ref a3_7, .ref a4_8])), (a1_5, .inl (G.2 0, 401, .inl (fun _ => 0))), (a2_6, .inl (G.2 0, 401, .inl (fun _ => 0))), (a3_7, .inl (G.2 0, 401, .inl (fun _ => 0))), (a4_8, .inl (G.2 3, 401, .inr (.inl (fun _ => 0)))), (q9, .inr (5, [.ref s1_10, .ref s2_11, .ref s3_12, .ref s4_13, .ref s5_14, .ref s6_15, .ref s7_16, .ref s8_17, .ref s9_18, .int 0, .int 0, .int 1, .int 0]))]) (v := .ref q9) S hw fpX9_30 0 rfl rfl rfl (Nat.le_of_ble_eq_true rfl) rfl dX9_init_42 (fun H locs hw => ?_)
  refine lv_aload_n hx hb dX9_init_45 rfl (lv_at hl 0 rfl) ?_
  refine zz_new (fs := zz_dX5) S hw kX5 tyX5 tyX5_ok (zz_c1 86 rfl rfl) (zz_c1 87 rfl rfl) (zz_c1 4 rfl rfl) dfX5 (Nat.le_of_ble_eq_true rfl) (Nat.le_of_ble_eq_true rfl) dX9_init_46 (fun q43 H hw => ?_)
  have hw : zz_w G A s [(h0, .inr (9, [.ref q1, .int 0, .ref q2, .int (-1), .ref q9, .null, .null, .null, .null, .null, .null, .null, .null, .null])), (q1, .inl (G.2 1, 2000, .inl (fun _ => 0))), (q2, .inr (4, [.ref b1_3, .ref b2_4, .int 0, .int 0, .int 0, .int (-1), .int 0, .int (-1)])), (b1_3, .inr (7, [.ref a1_5, .ref a2_6, .ref a3_7, .ref a4_8])), (a1_5, .inl (G.2 0, 401, .inl (fun _ => 0))), (a2_6, .inl (G.2 0, 401, .inl (fun _ => 0))), (a3_7, .inl (G.2 0, 401, .inl (fun _ => 0))), (a4_8, .inl (G.2 3, 401, .inr (.inl (fun _ => 0)))), (q9, .inr (5, [.ref s1_10, .ref s2_11, .ref s3_12, .ref s4_13, .ref s5_14, .ref s6_15, .ref s7_16, .ref s8_17, .ref s9_18, .int 0, .int 0, .int 1, .int 0])), (q43, .inr (5, [.null, .null, .null, .null, .null, .null, .null, .null, .null, .int 0, .int 0, .int 0, .int 0]))] H _ := hw
  refine lv_dup hx hb dX9_init_49 rfl ?_
  refine zz_callI (As := []) (rest := [.ref q43, .ref h0]) (wr := [(h0, .inr (9, [.ref q1, .int 0, .ref q2, .int (-1), .ref q9, .null, .null, .null, .null, .null, .null, .null, .null, .null])), (q1, .inl (G.2 1, 2000, .inl (fun _ => 0))), (q2, .inr (4, [.ref b1_3, .ref b2_4, .int 0, .int 0, .int 0, .int (-1), .int 0, .int (-1)])), (b1_3, .inr (7, [.ref a1_5, .ref a2_6, .ref a3_7, .ref a4_8])), (a1_5, .inl (G.2 0, 401, .inl (fun _ => 0))), (a2_6, .inl (G.2 0, 401, .inl (fun _ => 0))), (a3_7, .inl (G.2 0, 401, .inl (fun _ => 0))), (a4_8, .inl (G.2 3, 401, .inr (.inl (fun _ => 0)))), (q9, .inr (5, [.ref s1_10, .ref s2_11, .ref s3_12, .ref s4_13, .ref s5_14, .ref s6_15, .ref s7_16, .ref s8_17, .ref s9_18, .int 0, .int 0, .int 1, .int 0]))]) S hw hl.1 lX9_29 (c_Script_init l G q43) ⟨Nat.le_of_ble_eq_true rfl, Nat.le_of_ble_eq_true rfl⟩ ⟨Nat.le_of_ble_eq_true rfl, Nat.le_of_ble_eq_true rfl⟩ [9] [0, 1, 2, 3, 4, 5, 6, 7, 8] (by decide) rfl rfl (by decide) (by decide) rfl rfl (Nat.le_of_ble_eq_true rfl) dX9_init_50 (fun rr u H locs hp hw => ?_)
  obtain ⟨s1_44, s2_45, s3_46, s4_47, s5_48, s6_49, s7_50, s8_51, s9_52, w0_53, w1_54, w2_55, w3_56, x0_57, x1_58, x2_59, x3_60, x4_61, x5_62, x6_63, x7_64, x8_65, x9_66, x10_67, x11_68, ff0_69, gg0_70, ff1_71, gg1_72, ff2_73, gg2_74, ff3_75, gg3_76, rfl, rfl⟩ := hp
  have hw : zz_w G A s [(h0, .inr (9, [.ref q1, .int 0, .ref q2, .int (-1), .ref q9, .null, .null, .null, .null, .null, .null, .null, .null, .null])), (q1, .inl (G.2 1, 2000, .inl (fun _ => 0))), (q2, .inr (4, [.ref b1_3, .ref b2_4, .int 0, .int 0, .int 0, .int (-1), .int 0, .int (-1)])), (b1_3, .inr (7, [.ref a1_5, .ref a2_6, .ref a3_7, .ref a4_8])), (a1_5, .inl (G.2 0, 401, .inl (fun _ => 0))), (a2_6, .inl (G.2 0, 401, .inl (fun _ => 0))), (a3_7, .inl (G.2 0, 401, .inl (fun _ => 0))), (a4_8, .inl (G.2 3, 401, .inr (.inl (fun _ => 0)))), (q9, .inr (5, [.ref s1_10, .ref s2_11, .ref s3_12, .ref s4_13, .ref s5_14, .ref s6_15, .ref s7_16, .ref s8_17, .ref s9_18, .int 0, .int 0, .int 1, .int 0])), (q43, .inr (5, [.ref s1_44, .ref s2_45, .ref s3_46, .ref s4_47, .ref s5_48, .ref s6_49, .ref s7_50, .ref s8_51, .ref s9_52, .int 0, .int 0, .int 1, .int 0])), (s1_44, .inl (G.2 3, 13, .inr (.inl (fun _ => 0)))), (s2_45, .inl (G.2 0, 7, .inl (fun _ => 0))), (s3_46, .inl (G.2 0, 7, .inl (fun _ => 0))), (s4_47, .inl (G.2 0, 7, .inl (fun _ => 0))), (s5_48, .inl (G.2 0, 6, .inl (fun _ => 0))), (s6_49, .inl (G.2 0, 6, .inl (fun _ => 0))), (s7_50, .inl (G.2 0, 6, .inl (fun _ => 0))), (s9_52, .inl (G.2 0, 9, .inl (fun _ => 0))), (s8_51, .inl (G.2 4, 4, .inr (.inr (.inr (.inr (va_up (va_up (va_up (va_up (fun _ => none) 0 (some w0_53)) 1 (some w1_54)) 2 (some w2_55)) 3 (some w3_56))))))), (w0_53, .inr (2, [.ref x0_57, .ref x1_58, .ref x2_59, .int 1, .int 7])), (x0_57, .inl (G.2 0, 400, .inl ff0_69)), (x1_58, .inl (G.2 0, 14, .inl gg0_70)), (x2_59, .inl (G.2 0, 32, .inl (fun _ => 0))), (w1_54, .inr (2, [.ref x3_60, .ref x4_61, .ref x5_62, .int 1, .int 1])), (x3_60, .inl (G.2 0, 400, .inl ff1_71)), (x4_61, .inl (G.2 0, 14, .inl gg1_72)), (x5_62, .inl (G.2 0, 32, .inl (fun _ => 0))), (w2_55, .inr (2, [.ref x6_63, .ref x7_64, .ref x8_65, .int 1, .int 1])), (x6_63, .inl (G.2 0, 400, .inl ff2_73)), (x7_64, .inl (G.2 0, 14, .inl gg2_74)), (x8_65, .inl (G.2 0, 32, .inl (fun _ => 0))), (w3_56, .inr (2, [.ref x9_66, .ref x10_67, .ref x11_68, .int 1, .int 1])), (x9_66, .inl (G.2 0, 400, .inl ff3_75)), (x10_67, .inl (G.2 0, 14, .inl gg3_76)), (x11_68, .inl (G.2 0, 32, .inl (fun _ => 0)))] H _ := hw
  refine W.eq (g2 := F0 m 53 ls [.ref q43, .ref h0]) rfl ?_
  have hw : zz_w G A s [(h0, .inr (9, [.ref q1, .int 0, .ref q2, .int (-1), .ref q9, .null, .null, .null, .null, .null, .null, .null, .null, .null])), (q1, .inl (G.2 1, 2000, .inl (fun _ => 0))), (q2, .inr (4, [.ref b1_3, .ref b2_4, .int 0, .int 0, .int 0, .int (-1), .int 0, .int (-1)])), (b1_3, .inr (7, [.ref a1_5, .ref a2_6, .ref a3_7, .ref a4_8])), (a1_5, .inl (G.2 0, 401, .inl (fun _ => 0))), (a2_6, .inl (G.2 0, 401, .inl (fun _ => 0))), (a3_7, .inl (G.2 0, 401, .inl (fun _ => 0))), (a4_8, .inl (G.2 3, 401, .inr (.inl (fun _ => 0)))), (q9, .inr (5, [.ref s1_10, .ref s2_11, .ref s3_12, .ref s4_13, .ref s5_14, .ref s6_15, .ref s7_16, .ref s8_17, .ref s9_18, .int 0, .int 0, .int 1, .int 0])), (q43, .inr (5, [.ref s1_44, .ref s2_45, .ref s3_46, .ref s4_47, .ref s5_48, .ref s6_49, .ref s7_50, .ref s8_51, .ref s9_52, .int 0, .int 0, .int 1, .int 0])), (s2_45, .inl (G.2 0, 7, .inl (fun _ => 0))), (s5_48, .inl (G.2 0, 6, .inl (fun _ => 0))), (s8_51, .inl (G.2 4, 4, .inr (.inr (.inr (.inr (va_up (va_up (va_up (va_up (fun _ => none) 0 (some w0_53)) 1 (some w1_54)) 2 (some w2_55)) 3 (some w3_56))))))), (w0_53, .inr (2, [.ref x0_57, .ref x1_58, .ref x2_59, .int 1, .int 7])), (x0_57, .inl (G.2 0, 400, .inl ff0_69)), (x1_58, .inl (G.2 0, 14, .inl gg0_70)), (w1_54, .inr (2, [.ref x3_60, .ref x4_61, .ref x5_62, .int 1, .int 1])), (x3_60, .inl (G.2 0, 400, .inl ff1_71)), (x4_61, .inl (G.2 0, 14, .inl gg1_72)), (w2_55, .inr (2, [.ref x6_63, .ref x7_64, .ref x8_65, .int 1, .int 1])), (x6_63, .inl (G.2 0, 400, .inl ff2_73)), (x7_64, .inl (G.2 0, 14, .inl gg2_74)), (w3_56, .inr (2, [.ref x9_66, .ref x10_67, .ref x11_68, .int 1, .int 1])), (x9_66, .inl (G.2 0, 400, .inl ff3_75)), (x10_67, .inl (G.2 0, 14, .inl gg3_76))] H _ := hw.sub [0, 1, 2, 3, 4, 5, 6, 7, 8, 9, 11, 14, 18, 19, 20, 21, 23, 24, 25, 27, 28, 29, 31, 32, 33] (by decide) rfl
  refine zz_put (ws' := [(h0, .inr (9, [.ref q1, .int 0, .ref q2, .int (-1), .ref q9, .ref q43, .null, .null, .null, .null, .null, .null, .null, .null])), (q1, .inl (G.2 1, 2000, .inl (fun _ => 0))), (q2, .inr (4, [.ref b1_3, .ref b2_4, .int 0, .int 0, .int 0, .int (-1), .int 0, .int (-1)])), (b1_3, .inr (7, [.ref a1_5, .ref a2_6, .ref a3_7, .ref a4_8])), (a1_5, .inl (G.2 0, 401, .inl (fun _ => 0))), (a2_6, .inl (G.2 0, 401, .inl (fun _ => 0))), (a3_7, .inl (G.2 0, 401, .inl (fun _ => 0))), (a4_8, .inl (G.2 3, 401, .inr (.inl (fun _ => 0)))), (q9, .inr (5, [.ref s1_10, .ref s2_11, .ref s3_12, .ref s4_13, .ref s5_14, .ref s6_15, .ref s7_16, .ref s8_17, .ref s9_18, .int 0, .int 0, .int 1, .int 0])), (q43, .inr (5, [.ref s1_44, .ref s2_45, .ref s3_46, .ref s4_47, .ref s5_48, .ref s6_49, .ref s7_50, .ref s8_51, .ref s9_52, .int 0, .int 0, .int 1, .int 0])), (s2_45, .inl (G.2 0, 7, .inl (fun _ => 0))), (s5_48, .inl (G.2 0, 6, .inl (fun _ => 0))), (s8_51, .inl (G.2 4, 4, .inr (.inr (.inr (.inr (va_up (va_up (va_up (va_up (fun _ => none) 0 (some w0_53)) 1 (some w1_54)) 2 (some w2_55)) 3 (some w3_56))))))), (w0_53, .inr (2, [.ref x0_57, .ref x1_58, .ref x2_59, .int 1, .int 7])), (x0_57, .inl (G.2 0, 400, .inl ff0_69)), (x1_58, .inl (G.2 0, 14, .inl gg0_70)), (w1_54, .inr (2, [.ref x3_60, .ref x4_61, .ref x5_62, .int 1, .int 1])), (x3_60, .inl (G.2 0, 400, .inl ff1_71)), (x4_61, .inl (G.2 0, 14, .inl gg1_72)), (w2_55, .inr (2, [.ref x6_63, .ref x7_64, .ref x8_65, .int 1, .int 1])), (x6_63, .inl (G.2 0, 400, .inl ff2_73)), (x7_64, .inl (G.2 0, 14, .inl gg2_74)), (w3_56, .inr (2, [.ref x9_66, .ref x10_67, .ref x11_68, .int 1, .int 1])), (x9_66, .inl (G.2 0, 400, .inl ff3_75)), (x10_67, .inl (G.2 0, 14, .inl gg3_76))]) (v := .ref q43) S hw fpX9_34 0 rfl rfl rfl (Nat.le_of_ble_eq_true rfl) rfl dX9_init_53 (fun H locs hw => ?_)
  refine lv_aload_n hx hb dX9_init_56 rfl (lv_at hl 0 rfl) ?_
  refine zz_new (fs := zz_dX6) S hw kX6 tyX6 tyX6_ok (zz_c1 202 rfl rfl) (zz_c1 203 rfl rfl) (zz_c1 6 rfl rfl) dfX6 (Nat.le_of_ble_eq_true rfl) (Nat.le_of_ble_eq_true rfl) dX9_init_57 (fun q77 H hw => ?_)
  have hw : zz_w G A s [(h0, .inr (9, [.ref q1, .int 0, .ref q2, .int (-1), .ref q9, .ref q43, .null, .null, .null, .null, .null, .null, .null, .null])), (q1, .inl (G.2 1, 2000, .inl (fun _ => 0))), (q2, .inr (4, [.ref b1_3, .ref b2_4, .int 0, .int 0, .int 0, .int (-1), .int 0, .int (-1)])), (b1_3, .inr (7, [.ref a1_5, .ref a2_6, .ref a3_7, .ref a4_8])), (a1_5, .inl (G.2 0, 401, .inl (fun _ => 0))), (a2_6, .inl (G.2 0, 401, .inl (fun _ => 0))), (a3_7, .inl (G.2 0, 401, .inl (fun _ => 0))), (a4_8, .inl (G.2 3, 401, .inr (.inl (fun _ => 0)))), (q9, .inr (5, [.ref s1_10, .ref s2_11, .ref s3_12, .ref s4_13, .ref s5_14, .ref s6_15, .ref s7_16, .ref s8_17, .ref s9_18, .int 0, .int 0, .int 1, .int 0])), (q43, .inr (5, [.ref s1_44, .ref s2_45, .ref s3_46, .ref s4_47, .ref s5_48, .ref s6_49, .ref s7_50, .ref s8_51, .ref s9_52, .int 0, .int 0, .int 1, .int 0])), (s2_45, .inl (G.2 0, 7, .inl (fun _ => 0))), (s5_48, .inl (G.2 0, 6, .inl (fun _ => 0))), (s8_51, .inl (G.2 4, 4, .inr (.inr (.inr (.inr (va_up (va_up (va_up (va_up (fun _ => none) 0 (some w0_53)) 1 (some w1_54)) 2 (some w2_55)) 3 (some w3_56))))))), (w0_53, .inr (2, [.ref x0_57, .ref x1_58, .ref x2_59, .int 1, .int 7])), (x0_57, .inl (G.2 0, 400, .inl ff0_69)), (x1_58, .inl (G.2 0, 14, .inl gg0_70)), (w1_54, .inr (2, [.ref x3_60, .ref x4_61, .ref x5_62, .int 1, .int 1])), (x3_60, .inl (G.2 0, 400, .inl ff1_71)), (x4_61, .inl (G.2 0, 14, .inl gg1_72)), (w2_55, .inr (2, [.ref x6_63, .ref x7_64, .ref x8_65, .int 1, .int 1])), (x6_63, .inl (G.2 0, 400, .inl ff2_73)), (x7_64, .inl (G.2 0, 14, .inl gg2_74)), (w3_56, .inr (2, [.ref x9_66, .ref x10_67, .ref x11_68, .int 1, .int 1])), (x9_66, .inl (G.2 0, 400, .inl ff3_75)), (x10_67, .inl (G.2 0, 14, .inl gg3_76)), (q77, .inr (6, [.null, .null, .null, .null, .int 0, .int 0, .int 0]))] H _ := hw
  refine lv_dup hx hb dX9_init_60 rfl ?_
  refine zz_callI (As := []) (rest := [.ref q77, .ref h0]) (wr := [(h0, .inr (9, [.ref q1, .int 0, .ref q2, .int (-1), .ref q9, .ref q43, .null, .null, .null, .null, .null, .null, .null, .null])), (q1, .inl (G.2 1, 2000, .inl (fun _ => 0))), (q2, .inr (4, [.ref b1_3, .ref b2_4, .int 0, .int 0, .int 0, .int (-1), .int 0, .int (-1)])), (b1_3, .inr (7, [.ref a1_5, .ref a2_6, .ref a3_7, .ref a4_8])), (a1_5, .inl (G.2 0, 401, .inl (fun _ => 0))), (a2_6, .inl (G.2 0, 401, .inl (fun _ => 0))), (a3_7, .inl (G.2 0, 401, .inl (fun _ => 0))), (a4_8, .inl (G.2 3, 401, .inr (.inl (fun _ => 0)))), (q9, .inr (5, [.ref s1_10, .ref s2_11, .ref s3_12, .ref s4_13, .ref s5_14, .ref s6_15, .ref s7_16, .ref s8_17, .ref s9_18, .int 0, .int 0, .int 1, .int 0])), (q43, .inr (5, [.ref s1_44, .ref s2_45, .ref s3_46, .ref s4_47, .ref s5_48, .ref s6_49, .ref s7_50, .ref s8_51, .ref s9_52, .int 0, .int 0, .int 1, .int 0])), (s2_45, .inl (G.2 0, 7, .inl (fun _ => 0))), (s5_48, .inl (G.2 0, 6, .inl (fun _ => 0))), (s8_51, .inl (G.2 4, 4, .inr (.inr (.inr (.inr (va_up (va_up (va_up (va_up (fun _ => none) 0 (some w0_53)) 1 (some w1_54)) 2 (some w2_55)) 3 (some w3_56))))))), (w0_53, .inr (2, [.ref x0_57, .ref x1_58, .ref x2_59, .int 1, .int 7])), (x0_57, .inl (G.2 0, 400, .inl ff0_69)), (x1_58, .inl (G.2 0, 14, .inl gg0_70)), (w1_54, .inr (2, [.ref x3_60, .ref x4_61, .ref x5_62, .int 1, .int 1])), (x3_60, .inl (G.2 0, 400, .inl ff1_71)), (x4_61, .inl (G.2 0, 14, .inl gg1_72)), (w2_55, .inr (2, [.ref x6_63, .ref x7_64, .ref x8_65, .int 1, .int 1])), (x6_63, .inl (G.2 0, 400, .inl ff2_73)), (x7_64, .inl (G.2 0, 14, .inl gg2_74)), (w3_56, .inr (2, [.ref x9_66, .ref x10_67, .ref x11_68, .int 1, .int 1])), (x9_66, .inl (G.2 0, 400, .inl ff3_75)), (x10_67, .inl (G.2 0, 14, .inl gg3_76))]) S hw hl.1 lX9_39 (c_State_init l G q77) ⟨Nat.le_of_ble_eq_true rfl, Nat.le_of_ble_eq_true rfl⟩ ⟨Nat.le_of_ble_eq_true rfl, Nat.le_of_ble_eq_true rfl⟩ [25] [0, 1, 2, 3, 4, 5, 6, 7, 8, 9, 10, 11, 12, 13, 14, 15, 16, 17, 18, 19, 20, 21, 22, 23, 24] (by decide) rfl rfl (by decide) (by decide) rfl rfl (Nat.le_of_ble_eq_true rfl) dX9_init_61 (fun rr u H locs hp hw => ?_)
  obtain ⟨a1_78, a2_79, a3_80, a4_81, rfl, rfl⟩ := hp
  have hw : zz_w G A s [(h0, .inr (9, [.ref q1, .int 0, .ref q2, .int (-1), .ref q9, .ref q43, .null, .null, .null, .null, .null, .null, .null, .null])), (q1, .inl (G.2 1, 2000, .inl (fun _ => 0))), (q2, .inr (4, [.ref b1_3, .ref b2_4, .int 0, .int 0, .int 0, .int (-1), .int 0, .int (-1)])), (b1_3, .inr (7, [.ref a1_5, .ref a2_6, .ref a3_7, .ref a4_8])), (a1_5, .inl (G.2 0, 401, .inl (fun _ => 0))), (a2_6, .inl (G.2 0, 401, .inl (fun _ => 0))), (a3_7, .inl (G.2 0, 401, .inl (fun _ => 0))), (a4_8, .inl (G.2 3, 401, .inr (.inl (fun _ => 0)))), (q9, .inr (5, [.ref s1_10, .ref s2_11, .ref s3_12, .ref s4_13, .ref s5_14, .ref s6_15, .ref s7_16, .ref s8_17, .ref s9_18, .int 0, .int 0, .int 1, .int 0])), (q43, .inr (5, [.ref s1_44, .ref s2_45, .ref s3_46, .ref s4_47, .ref s5_48, .ref s6_49, .ref s7_50, .ref s8_51, .ref s9_52, .int 0, .int 0, .int 1, .int 0])), (s2_45, .inl (G.2 0, 7, .inl (fun _ => 0))), (s5_48, .inl (G.2 0, 6, .inl (fun _ => 0))), (s8_51, .inl (G.2 4, 4, .inr (.inr (.inr (.inr (va_up (va_up (va_up (va_up (fun _ => none) 0 (some w0_53)) 1 (some w1_54)) 2 (some w2_55)) 3 (some w3_56))))))), (w0_53, .inr (2, [.ref x0_57, .ref x1_58, .ref x2_59, .int 1, .int 7])), (x0_57, .inl (G.2 0, 400, .inl ff0_69)), (x1_58, .inl (G.2 0, 14, .inl gg0_70)), (w1_54, .inr (2, [.ref x3_60, .ref x4_61, .ref x5_62, .int 1, .int 1])), (x3_60, .inl (G.2 0, 400, .inl ff1_71)), (x4_61, .inl (G.2 0, 14, .inl gg1_72)), (w2_55, .inr (2, [.ref x6_63, .ref x7_64, .ref x8_65, .int 1, .int 1])), (x6_63, .inl (G.2 0, 400, .inl ff2_73)), (x7_64, .inl (G.2 0, 14, .inl gg2_74)), (w3_56, .inr (2, [.ref x9_66, .ref x10_67, .ref x11_68, .int 1, .int 1])), (x9_66, .inl (G.2 0, 400, .inl ff3_75)), (x10_67, .inl (G.2 0, 14, .inl gg3_76)), (q77, .inr (6, [.ref a1_78, .ref a2_79, .ref a3_80, .ref a4_81, .int 0, .int 0, .int 0])), (a1_78, .inl (G.2 0, 7, .inl (fun _ => 0))), (a2_79, .inl (G.2 0, 6, .inl (fun _ => 0))), (a3_80, .inl (G.2 0, 7, .inl (fun _ => 0))), (a4_81, .inl (G.2 0, 42, .inl (fun _ => 0)))] H _ := hw
  refine W.eq (g2 := F0 m 64 ls [.ref q77, .ref h0]) rfl ?_
  refine zz_putF (ws' := [(h0, .inr (9, [.ref q1, .int 0, .ref q2, .int (-1), .ref q9, .ref q43, .ref q77, .null, .null, .null, .null, .null, .null, .null])), (q1, .inl (G.2 1, 2000, .inl (fun _ => 0))), (q2, .inr (4, [.ref b1_3, .ref b2_4, .int 0, .int 0, .int 0, .int (-1), .int 0, .int (-1)])), (b1_3, .inr (7, [.ref a1_5, .ref a2_6, .ref a3_7, .ref a4_8])), (a1_5, .inl (G.2 0, 401, .inl (fun _ => 0))), (a2_6, .inl (G.2 0, 401, .inl (fun _ => 0))), (a3_7, .inl (G.2 0, 401, .inl (fun _ => 0))), (a4_8, .inl (G.2 3, 401, .inr (.inl (fun _ => 0)))), (q9, .inr (5, [.ref s1_10, .ref s2_11, .ref s3_12, .ref s4_13, .ref s5_14, .ref s6_15, .ref s7_16, .ref s8_17, .ref s9_18, .int 0, .int 0, .int 1, .int 0])), (q43, .inr (5, [.ref s1_44, .ref s2_45, .ref s3_46, .ref s4_47, .ref s5_48, .ref s6_49, .ref s7_50, .ref s8_51, .ref s9_52, .int 0, .int 0, .int 1, .int 0])), (s2_45, .inl (G.2 0, 7, .inl (fun _ => 0))), (s5_48, .inl (G.2 0, 6, .inl (fun _ => 0))), (s8_51, .inl (G.2 4, 4, .inr (.inr (.inr (.inr (va_up (va_up (va_up (va_up (fun _ => none) 0 (some w0_53)) 1 (some w1_54)) 2 (some w2_55)) 3 (some w3_56))))))), (w0_53, .inr (2, [.ref x0_57, .ref x1_58, .ref x2_59, .int 1, .int 7])), (x0_57, .inl (G.2 0, 400, .inl ff0_69)), (x1_58, .inl (G.2 0, 14, .inl gg0_70)), (w1_54, .inr (2, [.ref x3_60, .ref x4_61, .ref x5_62, .int 1, .int 1])), (x3_60, .inl (G.2 0, 400, .inl ff1_71)), (x4_61, .inl (G.2 0, 14, .inl gg1_72)), (w2_55, .inr (2, [.ref x6_63, .ref x7_64, .ref x8_65, .int 1, .int 1])), (x6_63, .inl (G.2 0, 400, .inl ff2_73)), (x7_64, .inl (G.2 0, 14, .inl gg2_74)), (w3_56, .inr (2, [.ref x9_66, .ref x10_67, .ref x11_68, .int 1, .int 1])), (x9_66, .inl (G.2 0, 400, .inl ff3_75)), (x10_67, .inl (G.2 0, 14, .inl gg3_76)), (q77, .inr (6, [.ref a1_78, .ref a2_79, .ref a3_80, .ref a4_81, .int 0, .int 0, .int 0])), (a1_78, .inl (G.2 0, 7, .inl (fun _ => 0))), (a2_79, .inl (G.2 0, 6, .inl (fun _ => 0))), (a3_80, .inl (G.2 0, 7, .inl (fun _ => 0))), (a4_81, .inl (G.2 0, 42, .inl (fun _ => 0)))]) (v := .ref q77) S hnm hw fpX9_40 0 rfl rfl rfl (Nat.le_of_ble_eq_true rfl) rfl dX9_init_64 (fun H locs hw => ?_)
  refine lv_aload_n hx hb dX9_init_67 rfl (lv_at hl 0 rfl) ?_
  refine zz_new (fs := zz_dX6) S hw kX6 tyX6 tyX6_ok (zz_c1 202 rfl rfl) (zz_c1 203 rfl rfl) (zz_c1 6 rfl rfl) dfX6 (Nat.le_of_ble_eq_true rfl) (Nat.le_of_ble_eq_true rfl) dX9_init_68 (fun q82 H hw => ?_)
  have hw : zz_w G A s [(h0, .inr (9, [.ref q1, .int 0, .ref q2, .int (-1), .ref q9, .ref q43, .ref q77, .null, .null, .null, .null, .null, .null, .null])), (q1, .inl (G.2 1, 2000, .inl (fun _ => 0))), (q2, .inr (4, [.ref b1_3, .ref b2_4, .int 0, .int 0, .int 0, .int (-1), .int 0, .int (-1)])), (b1_3, .inr (7, [.ref a1_5, .ref a2_6, .ref a3_7, .ref a4_8])), (a1_5, .inl (G.2 0, 401, .inl (fun _ => 0))), (a2_6, .inl (G.2 0, 401, .inl (fun _ => 0))), (a3_7, .inl (G.2 0, 401, .inl (fun _ => 0))), (a4_8, .inl (G.2 3, 401, .inr (.inl (fun _ => 0)))), (q9, .inr (5, [.ref s1_10, .ref s2_11, .ref s3_12, .ref s4_13, .ref s5_14, .ref s6_15, .ref s7_16, .ref s8_17, .ref s9_18, .int 0, .int 0, .int 1, .int 0])), (q43, .inr (5, [.ref s1_44, .ref s2_45, .ref s3_46, .ref s4_47, .ref s5_48, .ref s6_49, .ref s7_50, .ref s8_51, .ref s9_52, .int 0, .int 0, .int 1, .int 0])), (s2_45, .inl (G.2 0, 7, .inl (fun _ => 0))), (s5_48, .inl (G.2 0, 6, .inl (fun _ => 0))), (s8_51, .inl (G.2 4, 4, .inr (.inr (.inr (.inr (va_up (va_up (va_up (va_up (fun _ => none) 0 (some w0_53)) 1 (some w1_54)) 2 (some w2_55)) 3 (some w3_56))))))), (w0_53, .inr (2, [.ref x0_57, .ref x1_58, .ref x2_59, .int 1, .int 7])), (x0_57, .inl (G.2 0, 400, .inl ff0_69)), (x1_58, .inl (G.2 0, 14, .inl gg0_70)), (w1_54, .inr (2, [.ref x3_60, .ref x4_61, .ref x5_62, .int 1, .int 1])), (x3_60, .inl (G.2 0, 400, .inl ff1_71)), (x4_61, .inl (G.2 0, 14, .inl gg1_72)), (w2_55, .inr (2, [.ref x6_63, .ref x7_64, .ref x8_65, .int 1, .int 1])), (x6_63, .inl (G.2 0, 400, .inl ff2_73)), (x7_64, .inl (G.2 0, 14, .inl gg2_74)), (w3_56, .inr (2, [.ref x9_66, .ref x10_67, .ref x11_68, .int 1, .int 1])), (x9_66, .inl (G.2 0, 400, .inl ff3_75)), (x10_67, .inl (G.2 0, 14, .inl gg3_76)), (q77, .inr (6, [.ref a1_78, .ref a2_79, .ref a3_80, .ref a4_81, .int 0, .int 0, .int 0])), (a1_78, .inl (G.2 0, 7, .inl (fun _ => 0))), (a2_79, .inl (G.2 0, 6, .inl (fun _ => 0))), (a3_80, .inl (G.2 0, 7, .inl (fun _ => 0))), (a4_81, .inl (G.2 0, 42, .inl (fun _ => 0))), (q82, .inr (6, [.null, .null, .null, .null, .int 0, .int 0, .int 0]))] H _ := hw
  refine lv_dup hx hb dX9_init_71 rfl ?_
  refine zz_callI (As := []) (rest := [.ref q82, .ref h0]) (wr := [(h0, .inr (9, [.ref q1, .int 0, .ref q2, .int (-1), .ref q9, .ref q43, .ref q77, .null, .null, .null, .null, .null, .null, .null])), (q1, .inl (G.2 1, 2000, .inl (fun _ => 0))), (q2, .inr (4, [.ref b1_3, .ref b2_4, .int 0, .int 0, .int 0, .int (-1), .int 0, .int (-1)])), (b1_3, .inr (7, [.ref a1_5, .ref a2_6, .ref a3_7, .ref a4_8])), (a1_5, .inl (G.2 0, 401, .inl (fun _ => 0))), (a2_6, .inl (G.2 0, 401, .inl (fun _ => 0))), (a3_7, .inl (G.2 0, 401, .inl (fun _ => 0))), (a4_8, .inl (G.2 3, 401, .inr (.inl (fun _ => 0)))), (q9, .inr (5, [.ref s1_10, .ref s2_11, .ref s3_12, .ref s4_13, .ref s5_14, .ref s6_15, .ref s7_16, .ref s8_17, .ref s9_18, .int 0, .int 0, .int 1, .int 0])), (q43, .inr (5, [.ref s1_44, .ref s2_45, .ref s3_46, .ref s4_47, .ref s5_48, .ref s6_49, .ref s7_50, .ref s8_51, .ref s9_52, .int 0, .int 0, .int 1, .int 0])), (s2_45, .inl (G.2 0, 7, .inl (fun _ => 0))), (s5_48, .inl (G.2 0, 6, .inl (fun _ => 0))), (s8_51, .inl (G.2 4, 4, .inr (.inr (.inr (.inr (va_up (va_up (va_up (va_up (fun _ => none) 0 (some w0_53)) 1 (some w1_54)) 2 (some w2_55)) 3 (some w3_56))))))), (w0_53, .inr (2, [.ref x0_57, .ref x1_58, .ref x2_59, .int 1, .int 7])), (x0_57, .inl (G.2 0, 400, .inl ff0_69)), (x1_58, .inl (G.2 0, 14, .inl gg0_70)), (w1_54, .inr (2, [.ref x3_60, .ref x4_61, .ref x5_62, .int 1, .int 1])), (x3_60, .inl (G.2 0, 400, .inl ff1_71)), (x4_61, .inl (G.2 0, 14, .inl gg1_72)), (w2_55, .inr (2, [.ref x6_63, .ref x7_64, .ref x8_65, .int 1, .int 1])), (x6_63, .inl (G.2 0, 400, .inl ff2_73)), (x7_64, .inl (G.2 0, 14, .inl gg2_74)), (w3_56, .inr (2, [.ref x9_66, .ref x10_67, .ref x11_68, .int 1, .int 1])), (x9_66, .inl (G.2 0, 400, .inl ff3_75)), (x10_67, .inl (G.2 0, 14, .inl gg3_76)), (q77, .inr (6, [.ref a1_78, .ref a2_79, .ref a3_80, .ref a4_81, .int 0, .int 0, .int 0])), (a1_78, .inl (G.2 0, 7, .inl (fun _ => 0))), (a2_79, .inl (G.2 0, 6, .inl (fun _ => 0))), (a3_80, .inl (G.2 0, 7, .inl (fun _ => 0))), (a4_81, .inl (G.2 0, 42, .inl (fun _ => 0)))]) S hw hl.1 lX9_39 (c_State_init l G q82) ⟨Nat.le_of_ble_eq_true rfl, Nat.le_of_ble_eq_true rfl⟩ ⟨Nat.le_of_ble_eq_true rfl, Nat.le_of_ble_eq_true rfl⟩ [30] [0, 1, 2, 3, 4, 5, 6, 7, 8, 9, 10, 11, 12, 13, 14, 15, 16, 17, 18, 19, 20, 21, 22, 23, 24, 25, 26, 27, 28, 29] (by decide) rfl rfl (by decide) (by decide) rfl rfl (Nat.le_of_ble_eq_true rfl) dX9_init_72 (fun rr u H locs hp hw => ?_)
  obtain ⟨a1_83, a2_84, a3_85, a4_86, rfl, rfl⟩ := hp
  have hw : zz_w G A s [(h0, .inr (9, [.ref q1, .int 0, .ref q2, .int (-1), .ref q9, .ref q43, .ref q77, .null, .null, .null, .null, .null, .null, .null])), (q1, .inl (G.2 1, 2000, .inl (fun _ => 0))), (q2, .inr (4, [.ref b1_3, .ref b2_4, .int 0, .int 0, .int 0, .int (-1), .int 0, .int (-1)])), (b1_3, .inr (7, [.ref a1_5, .ref a2_6, .ref a3_7, .ref a4_8])), (a1_5, .inl (G.2 0, 401, .inl (fun _ => 0))), (a2_6, .inl (G.2 0, 401, .inl (fun _ => 0))), (a3_7, .inl (G.2 0, 401, .inl (fun _ => 0))), (a4_8, .inl (G.2 3, 401, .inr (.inl (fun _ => 0)))), (q9, .inr (5, [.ref s1_10, .ref s2_11, .ref s3_12, .ref s4_13, .ref s5_14, .ref s6_15, .ref s7_16, .ref s8_17, .ref s9_18, .int 0, .int 0, .int 1, .int 0])), (q43, .inr (5, [.ref s1_44, .ref s2_45, .ref s3_46, .ref s4_47, .ref s5_48, .ref s6_49, .ref s7_50, .ref s8_51, .ref s9_52, .int 0, .int 0, .int 1, .int 0])), (s2_45, .inl (G.2 0, 7, .inl (fun _ => 0))), (s5_48, .inl (G.2 0, 6, .inl (fun _ => 0))), (s8_51, .inl (G.2 4, 4, .inr (.inr (.inr (.inr (va_up (va_up (va_up (va_up (fun _ => none) 0 (some w0_53)) 1 (some w1_54)) 2 (some w2_55)) 3 (some w3_56))))))), (w0_53, .inr (2, [.ref x0_57, .ref x1_58, .ref x2_59, .int 1, .int 7])), (x0_57, .inl (G.2 0, 400, .inl ff0_69)), (x1_58, .inl (G.2 0, 14, .inl gg0_70)), (w1_54, .inr (2, [.ref x3_60, .ref x4_61, .ref x5_62, .int 1, .int 1])), (x3_60, .inl (G.2 0, 400, .inl ff1_71)), (x4_61, .inl (G.2 0, 14, .inl gg1_72)), (w2_55, .inr (2, [.ref x6_63, .ref x7_64, .ref x8_65, .int 1, .int 1])), (x6_63, .inl (G.2 0, 400, .inl ff2_73)), (x7_64, .inl (G.2 0, 14, .inl gg2_74)), (w3_56, .inr (2, [.ref x9_66, .ref x10_67, .ref x11_68, .int 1, .int 1])), (x9_66, .inl (G.2 0, 400, .inl ff3_75)), (x10_67, .inl (G.2 0, 14, .inl gg3_76)), (q77, .inr (6, [.ref a1_78, .ref a2_79, .ref a3_80, .ref a4_81, .int 0, .int 0, .int 0])), (a1_78, .inl (G.2 0, 7, .inl (fun _ => 0))), (a2_79, .inl (G.2 0, 6, .inl (fun _ => 0))), (a3_80, .inl (G.2 0, 7, .inl (fun _ => 0))), (a4_81, .inl (G.2 0, 42, .inl (fun _ => 0))), (q82, .inr (6, [.ref a1_83, .ref a2_84, .ref a3_85, .ref a4_86, .int 0, .int 0, .int 0])), (a1_83, .inl (G.2 0, 7, .inl (fun _ => 0))), (a2_84, .inl (G.2 0, 6, .inl (fun _ => 0))), (a3_85, .inl (G.2 0, 7, .inl (fun _ => 0))), (a4_86, .inl (G.2 0, 42, .inl (fun _ => 0)))] H _ := hw
  refine W.eq (g2 := F0 m 75 ls [.ref q82, .ref h0]) rfl ?_
  refine zz_putF (ws' := [(h0, .inr (9, [.ref q1, .int 0, .ref q2, .int (-1), .ref q9, .ref q43, .ref q77, .ref q82, .null, .null, .null, .null, .null, .null])), (q1, .inl (G.2 1, 2000, .inl (fun _ => 0))), (q2, .inr (4, [.ref b1_3, .ref b2_4, .int 0, .int 0, .int 0, .int (-1), .int 0, .int (-1)])), (b1_3, .inr (7, [.ref a1_5, .ref a2_6, .ref a3_7, .ref a4_8])), (a1_5, .inl (G.2 0, 401, .inl (fun _ => 0))), (a2_6, .inl (G.2 0, 401, .inl (fun _ => 0))), (a3_7, .inl (G.2 0, 401, .inl (fun _ => 0))), (a4_8, .inl (G.2 3, 401, .inr (.inl (fun _ => 0)))), (q9, .inr (5, [.ref s1_10, .ref s2_11, .ref s3_12, .ref s4_13, .ref s5_14, .ref s6_15, .ref s7_16, .ref s8_17, .ref s9_18, .int 0, .int 0, .int 1, .int 0])), (q43, .inr (5, [.ref s1_44, .ref s2_45, .ref s3_46, .ref s4_47, .ref s5_48, .ref s6_49, .ref s7_50, .ref s8_51, .ref s9_52, .int 0, .int 0, .int 1, .int 0])), (s2_45, .inl (G.2 0, 7, .inl (fun _ => 0))), (s5_48, .inl (G.2 0, 6, .inl (fun _ => 0))), (s8_51, .inl (G.2 4, 4, .inr (.inr (.inr (.inr (va_up (va_up (va_up (va_up (fun _ => none) 0 (some w0_53)) 1 (some w1_54)) 2 (some w2_55)) 3 (some w3_56))))))), (w0_53, .inr (2, [.ref x0_57, .ref x1_58, .ref x2_59, .int 1, .int 7])), (x0_57, .inl (G.2 0, 400, .inl ff0_69)), (x1_58, .inl (G.2 0, 14, .inl gg0_70)), (w1_54, .inr (2, [.ref x3_60, .ref x4_61, .ref x5_62, .int 1, .int 1])), (x3_60, .inl (G.2 0, 400, .inl ff1_71)), (x4_61, .inl (G.2 0, 14, .inl gg1_72)), (w2_55, .inr (2, [.ref x6_63, .ref x7_64, .ref x8_65, .int 1, .int 1])), (x6_63, .inl (G.2 0, 400, .inl ff2_73)), (x7_64, .inl (G.2 0, 14, .inl gg2_74)), (w3_56, .inr (2, [.ref x9_66, .ref x10_67, .ref x11_68, .int 1, .int 1])), (x9_66, .inl (G.2 0, 400, .inl ff3_75)), (x10_67, .inl (G.2 0, 14, .inl gg3_76)), (q77, .inr (6, [.ref a1_78, .ref a2_79, .ref a3_80, .ref a4_81, .int 0, .int 0, .int 0])), (a1_78, .inl (G.2 0, 7, .inl (fun _ => 0))), (a2_79, .inl (G.2 0, 6, .inl (fun _ => 0))), (a3_80, .inl (G.2 0, 7, .inl (fun _ => 0))), (a4_81, .inl (G.2 0, 42, .inl (fun _ => 0))), (q82, .inr (6, [.ref a1_83, .ref a2_84, .ref a3_85, .ref a4_86, .int 0, .int 0, .int 0])), (a1_83, .inl (G.2 0, 7, .inl (fun _ => 0))), (a2_84, .inl (G.2 0, 6, .inl (fun _ => 0))), (a3_85, .inl (G.2 0, 7, .inl (fun _ => 0))), (a4_86, .inl (G.2 0, 42, .inl (fun _ => 0)))]) (v := .ref q82) S hnm hw fpX9_44 0 rfl rfl rfl (Nat.le_of_ble_eq_true rfl) rfl dX9_init_75 (fun H locs hw => ?_)
  refine lv_aload_n hx hb dX9_init_78 rfl (lv_at hl 0 rfl) ?_
  refine zz_new (fs := zz_dX0) S hw kX0 tyX0 tyX0_ok (zz_c2 2 rfl rfl) (zz_c2 3 rfl rfl) (zz_c1 7 rfl rfl) dfX0 (Nat.le_of_ble_eq_true rfl) (Nat.le_of_ble_eq_true rfl) dX9_init_79 (fun q87 H hw => ?_)
  have hw : zz_w G A s [(h0, .inr (9, [.ref q1, .int 0, .ref q2, .int (-1), .ref q9, .ref q43, .ref q77, .ref q82, .null, .null, .null, .null, .null, .null])), (q1, .inl (G.2 1, 2000, .inl (fun _ => 0))), (q2, .inr (4, [.ref b1_3, .ref b2_4, .int 0, .int 0, .int 0, .int (-1), .int 0, .int (-1)])), (b1_3, .inr (7, [.ref a1_5, .ref a2_6, .ref a3_7, .ref a4_8])), (a1_5, .inl (G.2 0, 401, .inl (fun _ => 0))), (a2_6, .inl (G.2 0, 401, .inl (fun _ => 0))), (a3_7, .inl (G.2 0, 401, .inl (fun _ => 0))), (a4_8, .inl (G.2 3, 401, .inr (.inl (fun _ => 0)))), (q9, .inr (5, [.ref s1_10, .ref s2_11, .ref s3_12, .ref s4_13, .ref s5_14, .ref s6_15, .ref s7_16, .ref s8_17, .ref s9_18, .int 0, .int 0, .int 1, .int 0])), (q43, .inr (5, [.ref s1_44, .ref s2_45, .ref s3_46, .ref s4_47, .ref s5_48, .ref s6_49, .ref s7_50, .ref s8_51, .ref s9_52, .int 0, .int 0, .int 1, .int 0])), (s2_45, .inl (G.2 0, 7, .inl (fun _ => 0))), (s5_48, .inl (G.2 0, 6, .inl (fun _ => 0))), (s8_51, .inl (G.2 4, 4, .inr (.inr (.inr (.inr (va_up (va_up (va_up (va_up (fun _ => none) 0 (some w0_53)) 1 (some w1_54)) 2 (some w2_55)) 3 (some w3_56))))))), (w0_53, .inr (2, [.ref x0_57, .ref x1_58, .ref x2_59, .int 1, .int 7])), (x0_57, .inl (G.2 0, 400, .inl ff0_69)), (x1_58, .inl (G.2 0, 14, .inl gg0_70)), (w1_54, .inr (2, [.ref x3_60, .ref x4_61, .ref x5_62, .int 1, .int 1])), (x3_60, .inl (G.2 0, 400, .inl ff1_71)), (x4_61, .inl (G.2 0, 14, .inl gg1_72)), (w2_55, .inr (2, [.ref x6_63, .ref x7_64, .ref x8_65, .int 1, .int 1])), (x6_63, .inl (G.2 0, 400, .inl ff2_73)), (x7_64, .inl (G.2 0, 14, .inl gg2_74)), (w3_56, .inr (2, [.ref x9_66, .ref x10_67, .ref x11_68, .int 1, .int 1])), (x9_66, .inl (G.2 0, 400, .inl ff3_75)), (x10_67, .inl (G.2 0, 14, .inl gg3_76)), (q77, .inr (6, [.ref a1_78, .ref a2_79, .ref a3_80, .ref a4_81, .int 0, .int 0, .int 0])), (a1_78, .inl (G.2 0, 7, .inl (fun _ => 0))), (a2_79, .inl (G.2 0, 6, .inl (fun _ => 0))), (a3_80, .inl (G.2 0, 7, .inl (fun _ => 0))), (a4_81, .inl (G.2 0, 42, .inl (fun _ => 0))), (q82, .inr (6, [.ref a1_83, .ref a2_84, .ref a3_85, .ref a4_86, .int 0, .int 0, .int 0])), (a1_83, .inl (G.2 0, 7, .inl (fun _ => 0))), (a2_84, .inl (G.2 0, 6, .inl (fun _ => 0))), (a3_85, .inl (G.2 0, 7, .inl (fun _ => 0))), (a4_86, .inl (G.2 0, 42, .inl (fun _ => 0))), (q87, .inr (0, [.null, .null, .int 0, .int 0]))] H _ := hw
  refine lv_dup hx hb dX9_init_82 rfl ?_
  refine zz_callI (As := []) (rest := [.ref q87, .ref h0]) (wr := [(h0, .inr (9, [.ref q1, .int 0, .ref q2, .int (-1), .ref q9, .ref q43, .ref q77, .ref q82, .null, .null, .null, .null, .null, .null])), (q1, .inl (G.2 1, 2000, .inl (fun _ => 0))), (q2, .inr (4, [.ref b1_3, .ref b2_4, .int 0, .int 0, .int 0, .int (-1), .int 0, .int (-1)])), (b1_3, .inr (7, [.ref a1_5, .ref a2_6, .ref a3_7, .ref a4_8])), (a1_5, .inl (G.2 0, 401, .inl (fun _ => 0))), (a2_6, .inl (G.2 0, 401, .inl (fun _ => 0))), (a3_7, .inl (G.2 0, 401, .inl (fun _ => 0))), (a4_8, .inl (G.2 3, 401, .inr (.inl (fun _ => 0)))), (q9, .inr (5, [.ref s1_10, .ref s2_11, .ref s3_12, .ref s4_13, .ref s5_14, .ref s6_15, .ref s7_16, .ref s8_17, .ref s9_18, .int 0, .int 0, .int 1, .int 0])), (q43, .inr (5, [.ref s1_44, .ref s2_45, .ref s3_46, .ref s4_47, .ref s5_48, .ref s6_49, .ref s7_50, .ref s8_51, .ref s9_52, .int 0, .int 0, .int 1, .int 0])), (s2_45, .inl (G.2 0, 7, .inl (fun _ => 0))), (s5_48, .inl (G.2 0, 6, .inl (fun _ => 0))), (s8_51, .inl (G.2 4, 4, .inr (.inr (.inr (.inr (va_up (va_up (va_up (va_up (fun _ => none) 0 (some w0_53)) 1 (some w1_54)) 2 (some w2_55)) 3 (some w3_56))))))), (w0_53, .inr (2, [.ref x0_57, .ref x1_58, .ref x2_59, .int 1, .int 7])), (x0_57, .inl (G.2 0, 400, .inl ff0_69)), (x1_58, .inl (G.2 0, 14, .inl gg0_70)), (w1_54, .inr (2, [.ref x3_60, .ref x4_61, .ref x5_62, .int 1, .int 1])), (x3_60, .inl (G.2 0, 400, .inl ff1_71)), (x4_61, .inl (G.2 0, 14, .inl gg1_72)), (w2_55, .inr (2, [.ref x6_63, .ref x7_64, .ref x8_65, .int 1, .int 1])), (x6_63, .inl (G.2 0, 400, .inl ff2_73)), (x7_64, .inl (G.2 0, 14, .inl gg2_74)), (w3_56, .inr (2, [.ref x9_66, .ref x10_67, .ref x11_68, .int 1, .int 1])), (x9_66, .inl (G.2 0, 400, .inl ff3_75)), (x10_67, .inl (G.2 0, 14, .inl gg3_76)), (q77, .inr (6, [.ref a1_78, .ref a2_79, .ref a3_80, .ref a4_81, .int 0, .int 0, .int 0])), (a1_78, .inl (G.2 0, 7, .inl (fun _ => 0))), (a2_79, .inl (G.2 0, 6, .inl (fun _ => 0))), (a3_80, .inl (G.2 0, 7, .inl (fun _ => 0))), (a4_81, .inl (G.2 0, 42, .inl (fun _ => 0))), (q82, .inr (6, [.ref a1_83, .ref a2_84, .ref a3_85, .ref a4_86, .int 0, .int 0, .int 0])), (a1_83, .inl (G.2 0, 7, .inl (fun _ => 0))), (a2_84, .inl (G.2 0, 6, .inl (fun _ => 0))), (a3_85, .inl (G.2 0, 7, .inl (fun _ => 0))), (a4_86, .inl (G.2 0, 42, .inl (fun _ => 0)))]) S hw hl.1 lX9_49 (c_Cast_init l G q87) ⟨Nat.le_of_ble_eq_true rfl, Nat.le_of_ble_eq_true rfl⟩ ⟨Nat.le_of_ble_eq_true rfl, Nat.le_of_ble_eq_true rfl⟩ [35] [0, 1, 2, 3, 4, 5, 6, 7, 8, 9, 10, 11, 12, 13, 14, 15, 16, 17, 18, 19, 20, 21, 22, 23, 24, 25, 26, 27, 28, 29, 30, 31, 32, 33, 34] (by decide) rfl rfl (by decide) (by decide) rfl rfl (Nat.le_of_ble_eq_true rfl) dX9_init_83 (fun rr u H locs hp hw => ?_)
  obtain ⟨a1_88, a2_89, rfl, rfl⟩ := hp
  have hw : zz_w G A s [(h0, .inr (9, [.ref q1, .int 0, .ref q2, .int (-1), .ref q9, .ref q43, .ref q77, .ref q82, .null, .null, .null, .null, .null, .null])), (q1, .inl (G.2 1, 2000, .inl (fun _ => 0))), (q2, .inr (4, [.ref b1_3, .ref b2_4, .int 0, .int 0, .int 0, .int (-1), .int 0, .int (-1)])), (b1_3, .inr (7, [.ref a1_5, .ref a2_6, .ref a3_7, .ref a4_8])), (a1_5, .inl (G.2 0, 401, .inl (fun _ => 0))), (a2_6, .inl (G.2 0, 401, .inl (fun _ => 0))), (a3_7, .inl (G.2 0, 401, .inl (fun _ => 0))), (a4_8, .inl (G.2 3, 401, .inr (.inl (fun _ => 0)))), (q9, .inr (5, [.ref s1_10, .ref s2_11, .ref s3_12, .ref s4_13, .ref s5_14, .ref s6_15, .ref s7_16, .ref s8_17, .ref s9_18, .int 0, .int 0, .int 1, .int 0])), (q43, .inr (5, [.ref s1_44, .ref s2_45, .ref s3_46, .ref s4_47, .ref s5_48, .ref s6_49, .ref s7_50, .ref s8_51, .ref s9_52, .int 0, .int 0, .int 1, .int 0])), (s2_45, .inl (G.2 0, 7, .inl (fun _ => 0))), (s5_48, .inl (G.2 0, 6, .inl (fun _ => 0))), (s8_51, .inl (G.2 4, 4, .inr (.inr (.inr (.inr (va_up (va_up (va_up (va_up (fun _ => none) 0 (some w0_53)) 1 (some w1_54)) 2 (some w2_55)) 3 (some w3_56))))))), (w0_53, .inr (2, [.ref x0_57, .ref x1_58, .ref x2_59, .int 1, .int 7])), (x0_57, .inl (G.2 0, 400, .inl ff0_69)), (x1_58, .inl (G.2 0, 14, .inl gg0_70)), (w1_54, .inr (2, [.ref x3_60, .ref x4_61, .ref x5_62, .int 1, .int 1])), (x3_60, .inl (G.2 0, 400, .inl ff1_71)), (x4_61, .inl (G.2 0, 14, .inl gg1_72)), (w2_55, .inr (2, [.ref x6_63, .ref x7_64, .ref x8_65, .int 1, .int 1])), (x6_63, .inl (G.2 0, 400, .inl ff2_73)), (x7_64, .inl (G.2 0, 14, .inl gg2_74)), (w3_56, .inr (2, [.ref x9_66, .ref x10_67, .ref x11_68, .int 1, .int 1])), (x9_66, .inl (G.2 0, 400, .inl ff3_75)), (x10_67, .inl (G.2 0, 14, .inl gg3_76)), (q77, .inr (6, [.ref a1_78, .ref a2_79, .ref a3_80, .ref a4_81, .int 0, .int 0, .int 0])), (a1_78, .inl (G.2 0, 7, .inl (fun _ => 0))), (a2_79, .inl (G.2 0, 6, .inl (fun _ => 0))), (a3_80, .inl (G.2 0, 7, .inl (fun _ => 0))), (a4_81, .inl (G.2 0, 42, .inl (fun _ => 0))), (q82, .inr (6, [.ref a1_83, .ref a2_84, .ref a3_85, .ref a4_86, .int 0, .int 0, .int 0])), (a1_83, .inl (G.2 0, 7, .inl (fun _ => 0))), (a2_84, .inl (G.2 0, 6, .inl (fun _ => 0))), (a3_85, .inl (G.2 0, 7, .inl (fun _ => 0))), (a4_86, .inl (G.2 0, 42, .inl (fun _ => 0))), (q87, .inr (0, [.ref a1_88, .ref a2_89, .int 0, .int 0])), (a1_88, .inl (G.2 0, 6, .inl (fun _ => 0))), (a2_89, .inl (G.2 0, 7, .inl (fun _ => 0)))] H _ := hw
  refine W.eq (g2 := F0 m 86 ls [.ref q87, .ref h0]) rfl ?_
  have hw : zz_w G A s [(h0, .inr (9, [.ref q1, .int 0, .ref q2, .int (-1), .ref q9, .ref q43, .ref q77, .ref q82, .null, .null, .null, .null, .null, .null])), (q1, .inl (G.2 1, 2000, .inl (fun _ => 0))), (q2, .inr (4, [.ref b1_3, .ref b2_4, .int 0, .int 0, .int 0, .int (-1), .int 0, .int (-1)])), (b1_3, .inr (7, [.ref a1_5, .ref a2_6, .ref a3_7, .ref a4_8])), (a1_5, .inl (G.2 0, 401, .inl (fun _ => 0))), (a2_6, .inl (G.2 0, 401, .inl (fun _ => 0))), (a3_7, .inl (G.2 0, 401, .inl (fun _ => 0))), (a4_8, .inl (G.2 3, 401, .inr (.inl (fun _ => 0)))), (q9, .inr (5, [.ref s1_10, .ref s2_11, .ref s3_12, .ref s4_13, .ref s5_14, .ref s6_15, .ref s7_16, .ref s8_17, .ref s9_18, .int 0, .int 0, .int 1, .int 0])), (q43, .inr (5, [.ref s1_44, .ref s2_45, .ref s3_46, .ref s4_47, .ref s5_48, .ref s6_49, .ref s7_50, .ref s8_51, .ref s9_52, .int 0, .int 0, .int 1, .int 0])), (s2_45, .inl (G.2 0, 7, .inl (fun _ => 0))), (s5_48, .inl (G.2 0, 6, .inl (fun _ => 0))), (s8_51, .inl (G.2 4, 4, .inr (.inr (.inr (.inr (va_up (va_up (va_up (va_up (fun _ => none) 0 (some w0_53)) 1 (some w1_54)) 2 (some w2_55)) 3 (some w3_56))))))), (w0_53, .inr (2, [.ref x0_57, .ref x1_58, .ref x2_59, .int 1, .int 7])), (x0_57, .inl (G.2 0, 400, .inl ff0_69)), (x1_58, .inl (G.2 0, 14, .inl gg0_70)), (w1_54, .inr (2, [.ref x3_60, .ref x4_61, .ref x5_62, .int 1, .int 1])), (x3_60, .inl (G.2 0, 400, .inl ff1_71)), (x4_61, .inl (G.2 0, 14, .inl gg1_72)), (w2_55, .inr (2, [.ref x6_63, .ref x7_64, .ref x8_65, .int 1, .int 1])), (x6_63, .inl (G.2 0, 400, .inl ff2_73)), (x7_64, .inl (G.2 0, 14, .inl gg2_74)), (w3_56, .inr (2, [.ref x9_66, .ref x10_67, .ref x11_68, .int 1, .int 1])), (x9_66, .inl (G.2 0, 400, .inl ff3_75)), (x10_67, .inl (G.2 0, 14, .inl gg3_76)), (q77, .inr (6, [.ref a1_78, .ref a2_79, .ref a3_80, .ref a4_81, .int 0, .int 0, .int 0])), (a1_78, .inl (G.2 0, 7, .inl (fun _ => 0))), (a2_79, .inl (G.2 0, 6, .inl (fun _ => 0))), (a3_80, .inl (G.2 0, 7, .inl (fun _ => 0))), (a4_81, .inl (G.2 0, 42, .inl (fun _ => 0))), (q82, .inr (6, [.ref a1_83, .ref a2_84, .ref a3_85, .ref a4_86, .int 0, .int 0, .int 0])), (a1_83, .inl (G.2 0, 7, .inl (fun _ => 0))), (a2_84, .inl (G.2 0, 6, .inl (fun _ => 0))), (a3_85, .inl (G.2 0, 7, .inl (fun _ => 0))), (a4_86, .inl (G.2 0, 42, .inl (fun _ => 0))), (q87, .inr (0, [.ref a1_88, .ref a2_89, .int 0, .int 0])), (a2_89, .inl (G.2 0, 7, .inl (fun _ => 0)))] H _ := hw.sub [0, 1, 2, 3, 4, 5, 6, 7, 8, 9, 10, 11, 12, 13, 14, 15, 16, 17, 18, 19, 20, 21, 22, 23, 24, 25, 26, 27, 28, 29, 30, 31, 32, 33, 34, 35, 37] (by decide) rfl
  refine zz_putF (ws' := [(h0, .inr (9, [.ref q1, .int 0, .ref q2, .int (-1), .ref q9, .ref q43, .ref q77, .ref q82, .ref q87, .null, .null, .null, .null, .null])), (q1, .inl (G.2 1, 2000, .inl (fun _ => 0))), (q2, .inr (4, [.ref b1_3, .ref b2_4, .int 0, .int 0, .int 0, .int (-1), .int 0, .int (-1)])), (b1_3, .inr (7, [.ref a1_5, .ref a2_6, .ref a3_7, .ref a4_8])), (a1_5, .inl (G.2 0, 401, .inl (fun _ => 0))), (a2_6, .inl (G.2 0, 401, .inl (fun _ => 0))), (a3_7, .inl (G.2 0, 401, .inl (fun _ => 0))), (a4_8, .inl (G.2 3, 401, .inr (.inl (fun _ => 0)))), (q9, .inr (5, [.ref s1_10, .ref s2_11, .ref s3_12, .ref s4_13, .ref s5_14, .ref s6_15, .ref s7_16, .ref s8_17, .ref s9_18, .int 0, .int 0, .int 1, .int 0])), (q43, .inr (5, [.ref s1_44, .ref s2_45, .ref s3_46, .ref s4_47, .ref s5_48, .ref s6_49, .ref s7_50, .ref s8_51, .ref s9_52, .int 0, .int 0, .int 1, .int 0])), (s2_45, .inl (G.2 0, 7, .inl (fun _ => 0))), (s5_48, .inl (G.2 0, 6, .inl (fun _ => 0))), (s8_51, .inl (G.2 4, 4, .inr (.inr (.inr (.inr (va_up (va_up (va_up (va_up (fun _ => none) 0 (some w0_53)) 1 (some w1_54)) 2 (some w2_55)) 3 (some w3_56))))))), (w0_53, .inr (2, [.ref x0_57, .ref x1_58, .ref x2_59, .int 1, .int 7])), (x0_57, .inl (G.2 0, 400, .inl ff0_69)), (x1_58, .inl (G.2 0, 14, .inl gg0_70)), (w1_54, .inr (2, [.ref x3_60, .ref x4_61, .ref x5_62, .int 1, .int 1])), (x3_60, .inl (G.2 0, 400, .inl ff1_71)), (x4_61, .inl (G.2 0, 14, .inl gg1_72)), (w2_55, .inr (2, [.ref x6_63, .ref x7_64, .ref x8_65, .int 1, .int 1])), (x6_63, .inl (G.2 0, 400, .inl ff2_73)), (x7_64, .inl (G.2 0, 14, .inl gg2_74)), (w3_56, .inr (2, [.ref x9_66, .ref x10_67, .ref x11_68, .int 1, .int 1])), (x9_66, .inl (G.2 0, 400, .inl ff3_75)), (x10_67, .inl (G.2 0, 14, .inl gg3_76)), (q77, .inr (6, [.ref a1_78, .ref a2_79, .ref a3_80, .ref a4_81, .int 0, .int 0, .int 0])), (a1_78, .inl (G.2 0, 7, .inl (fun _ => 0))), (a2_79, .inl (G.2 0, 6, .inl (fun _ => 0))), (a3_80, .inl (G.2 0, 7, .inl (fun _ => 0))), (a4_81, .inl (G.2 0, 42, .inl (fun _ => 0))), (q82, .inr (6, [.ref a1_83, .ref a2_84, .ref a3_85, .ref a4_86, .int 0, .int 0, .int 0])), (a1_83, .inl (G.2 0, 7, .inl (fun _ => 0))), (a2_84, .inl (G.2 0, 6, .inl (fun _ => 0))), (a3_85, .inl (G.2 0, 7, .inl (fun _ => 0))), (a4_86, .inl (G.2 0, 42, .inl (fun _ => 0))), (q87, .inr (0, [.ref a1_88, .ref a2_89, .int 0, .int 0])), (a2_89, .inl (G.2 0, 7, .inl (fun _ => 0)))]) (v := .ref q87) S hnm hw fpX9_50 0 rfl rfl rfl (Nat.le_of_ble_eq_true rfl) rfl dX9_init_86 (fun H locs hw => ?_)
  refine lv_aload_n hx hb dX9_init_89 rfl (lv_at hl 0 rfl) ?_
  refine zz_new (fs := zz_dX1) S hw kX1 tyX1 tyX1_ok (zz_c2 25 rfl rfl) (zz_c2 26 rfl rfl) (zz_c1 8 rfl rfl) dfX1 (Nat.le_of_ble_eq_true rfl) (Nat.le_of_ble_eq_true rfl) dX9_init_90 (fun q90 H hw => ?_)
  have hw : zz_w G A s [(h0, .inr (9, [.ref q1, .int 0, .ref q2, .int (-1), .ref q9, .ref q43, .ref q77, .ref q82, .ref q87, .null, .null, .null, .null, .null])), (q1, .inl (G.2 1, 2000, .inl (fun _ => 0))), (q2, .inr (4, [.ref b1_3, .ref b2_4, .int 0, .int 0, .int 0, .int (-1), .int 0, .int (-1)])), (b1_3, .inr (7, [.ref a1_5, .ref a2_6, .ref a3_7, .ref a4_8])), (a1_5, .inl (G.2 0, 401, .inl (fun _ => 0))), (a2_6, .inl (G.2 0, 401, .inl (fun _ => 0))), (a3_7, .inl (G.2 0, 401, .inl (fun _ => 0))), (a4_8, .inl (G.2 3, 401, .inr (.inl (fun _ => 0)))), (q9, .inr (5, [.ref s1_10, .ref s2_11, .ref s3_12, .ref s4_13, .ref s5_14, .ref s6_15, .ref s7_16, .ref s8_17, .ref s9_18, .int 0, .int 0, .int 1, .int 0])), (q43, .inr (5, [.ref s1_44, .ref s2_45, .ref s3_46, .ref s4_47, .ref s5_48, .ref s6_49, .ref s7_50, .ref s8_51, .ref s9_52, .int 0, .int 0, .int 1, .int 0])), (s2_45, .inl (G.2 0, 7, .inl (fun _ => 0))), (s5_48, .inl (G.2 0, 6, .inl (fun _ => 0))), (s8_51, .inl (G.2 4, 4, .inr (.inr (.inr (.inr (va_up (va_up (va_up (va_up (fun _ => none) 0 (some w0_53)) 1 (some w1_54)) 2 (some w2_55)) 3 (some w3_56))))))), (w0_53, .inr (2, [.ref x0_57, .ref x1_58, .ref x2_59, .int 1, .int 7])), (x0_57, .inl (G.2 0, 400, .inl ff0_69)), (x1_58, .inl (G.2 0, 14, .inl gg0_70)), (w1_54, .inr (2, [.ref x3_60, .ref x4_61, .ref x5_62, .int 1, .int 1])), (x3_60, .inl (G.2 0, 400, .inl ff1_71)), (x4_61, .inl (G.2 0, 14, .inl gg1_72)), (w2_55, .inr (2, [.ref x6_63, .ref x7_64, .ref x8_65, .int 1, .int 1])), (x6_63, .inl (G.2 0, 400, .inl ff2_73)), (x7_64, .inl (G.2 0, 14, .inl gg2_74)), (w3_56, .inr (2, [.ref x9_66, .ref x10_67, .ref x11_68, .int 1, .int 1])), (x9_66, .inl (G.2 0, 400, .inl ff3_75)), (x10_67, .inl (G.2 0, 14, .inl gg3_76)), (q77, .inr (6, [.ref a1_78, .ref a2_79, .ref a3_80, .ref a4_81, .int 0, .int 0, .int 0])), (a1_78, .inl (G.2 0, 7, .inl (fun _ => 0))), (a2_79, .inl (G.2 0, 6, .inl (fun _ => 0))), (a3_80, .inl (G.2 0, 7, .inl (fun _ => 0))), (a4_81, .inl (G.2 0, 42, .inl (fun _ => 0))), (q82, .inr (6, [.ref a1_83, .ref a2_84, .ref a3_85, .ref a4_86, .int 0, .int 0, .int 0])), (a1_83, .inl (G.2 0, 7, .inl (fun _ => 0))), (a2_84, .inl (G.2 0, 6, .inl (fun _ => 0))), (a3_85, .inl (G.2 0, 7, .inl (fun _ => 0))), (a4_86, .inl (G.2 0, 42, .inl (fun _ => 0))), (q87, .inr (0, [.ref a1_88, .ref a2_89, .int 0, .int 0])), (a2_89, .inl (G.2 0, 7, .inl (fun _ => 0))), (q90, .inr (1, [.null, .null, .null, .int 0, .int 0]))] H _ := hw
  refine lv_dup hx hb dX9_init_93 rfl ?_
  refine zz_callI (As := []) (rest := [.ref q90, .ref h0]) (wr := [(h0, .inr (9, [.ref q1, .int 0, .ref q2, .int (-1), .ref q9, .ref q43, .ref q77, .ref q82, .ref q87, .null, .null, .null, .null, .null])), (q1, .inl (G.2 1, 2000, .inl (fun _ => 0))), (q2, .inr (4, [.ref b1_3, .ref b2_4, .int 0, .int 0, .int 0, .int (-1), .int 0, .int (-1)])), (b1_3, .inr (7, [.ref a1_5, .ref a2_6, .ref a3_7, .ref a4_8])), (a1_5, .inl (G.2 0, 401, .inl (fun _ => 0))), (a2_6, .inl (G.2 0, 401, .inl (fun _ => 0))), (a3_7, .inl (G.2 0, 401, .inl (fun _ => 0))), (a4_8, .inl (G.2 3, 401, .inr (.inl (fun _ => 0)))), (q9, .inr (5, [.ref s1_10, .ref s2_11, .ref s3_12, .ref s4_13, .ref s5_14, .ref s6_15, .ref s7_16, .ref s8_17, .ref s9_18, .int 0, .int 0, .int 1, .int 0])), (q43, .inr (5, [.ref s1_44, .ref s2_45, .ref s3_46, .ref s4_47, .ref s5_48, .ref s6_49, .ref s7_50, .ref s8_51, .ref s9_52, .int 0, .int 0, .int 1, .int 0])), (s2_45, .inl (G.2 0, 7, .inl (fun _ => 0))), (s5_48, .inl (G.2 0, 6, .inl (fun _ => 0))), (s8_51, .inl (G.2 4, 4, .inr (.inr (.inr (.inr (va_up (va_up (va_up (va_up (fun _ => none) 0 (some w0_53)) 1 (some w1_54)) 2 (some w2_55)) 3 (some w3_56))))))), (w0_53, .inr (2, [.ref x0_57, .ref x1_58, .ref x2_59, .int 1, .int 7])), (x0_57, .inl (G.2 0, 400, .inl ff0_69)), (x1_58, .inl (G.2 0, 14, .inl gg0_70)), (w1_54, .inr (2, [.ref x3_60, .ref x4_61, .ref x5_62, .int 1, .int 1])), (x3_60, .inl (G.2 0, 400, .inl ff1_71)), (x4_61, .inl (G.2 0, 14, .inl gg1_72)), (w2_55, .inr (2, [.ref x6_63, .ref x7_64, .ref x8_65, .int 1, .int 1])), (x6_63, .inl (G.2 0, 400, .inl ff2_73)), (x7_64, .inl (G.2 0, 14, .inl gg2_74)), (w3_56, .inr (2, [.ref x9_66, .ref x10_67, .ref x11_68, .int 1, .int 1])), (x9_66, .inl (G.2 0, 400, .inl ff3_75)), (x10_67, .inl (G.2 0, 14, .inl gg3_76)), (q77, .inr (6, [.ref a1_78, .ref a2_79, .ref a3_80, .ref a4_81, .int 0, .int 0, .int 0])), (a1_78, .inl (G.2 0, 7, .inl (fun _ => 0))), (a2_79, .inl (G.2 0, 6, .inl (fun _ => 0))), (a3_80, .inl (G.2 0, 7, .inl (fun _ => 0))), (a4_81, .inl (G.2 0, 42, .inl (fun _ => 0))), (q82, .inr (6, [.ref a1_83, .ref a2_84, .ref a3_85, .ref a4_86, .int 0, .int 0, .int 0])), (a1_83, .inl (G.2 0, 7, .inl (fun _ => 0))), (a2_84, .inl (G.2 0, 6, .inl (fun _ => 0))), (a3_85, .inl (G.2 0, 7, .inl (fun _ => 0))), (a4_86, .inl (G.2 0, 42, .inl (fun _ => 0))), (q87, .inr (0, [.ref a1_88, .ref a2_89, .int 0, .int 0])), (a2_89, .inl (G.2 0, 7, .inl (fun _ => 0)))]) S hw hl.1 lX9_56 (c_Giving_init l G q90) ⟨Nat.le_of_ble_eq_true rfl, Nat.le_of_ble_eq_true rfl⟩ ⟨Nat.le_of_ble_eq_true rfl, Nat.le_of_ble_eq_true rfl⟩ [37] [0, 1, 2, 3, 4, 5, 6, 7, 8, 9, 10, 11, 12, 13, 14, 15, 16, 17, 18, 19, 20, 21, 22, 23, 24, 25, 26, 27, 28, 29, 30, 31, 32, 33, 34, 35, 36] (by decide) rfl rfl (by decide) (by decide) rfl rfl (Nat.le_of_ble_eq_true rfl) dX9_init_94 (fun rr u H locs hp hw => ?_)
  obtain ⟨a1_91, a2_92, a3_93, rfl, rfl⟩ := hp
  have hw : zz_w G A s [(h0, .inr (9, [.ref q1, .int 0, .ref q2, .int (-1), .ref q9, .ref q43, .ref q77, .ref q82, .ref q87, .null, .null, .null, .null, .null])), (q1, .inl (G.2 1, 2000, .inl (fun _ => 0))), (q2, .inr (4, [.ref b1_3, .ref b2_4, .int 0, .int 0, .int 0, .int (-1), .int 0, .int (-1)])), (b1_3, .inr (7, [.ref a1_5, .ref a2_6, .ref a3_7, .ref a4_8])), (a1_5, .inl (G.2 0, 401, .inl (fun _ => 0))), (a2_6, .inl (G.2 0, 401, .inl (fun _ => 0))), (a3_7, .inl (G.2 0, 401, .inl (fun _ => 0))), (a4_8, .inl (G.2 3, 401, .inr (.inl (fun _ => 0)))), (q9, .inr (5, [.ref s1_10, .ref s2_11, .ref s3_12, .ref s4_13, .ref s5_14, .ref s6_15, .ref s7_16, .ref s8_17, .ref s9_18, .int 0, .int 0, .int 1, .int 0])), (q43, .inr (5, [.ref s1_44, .ref s2_45, .ref s3_46, .ref s4_47, .ref s5_48, .ref s6_49, .ref s7_50, .ref s8_51, .ref s9_52, .int 0, .int 0, .int 1, .int 0])), (s2_45, .inl (G.2 0, 7, .inl (fun _ => 0))), (s5_48, .inl (G.2 0, 6, .inl (fun _ => 0))), (s8_51, .inl (G.2 4, 4, .inr (.inr (.inr (.inr (va_up (va_up (va_up (va_up (fun _ => none) 0 (some w0_53)) 1 (some w1_54)) 2 (some w2_55)) 3 (some w3_56))))))), (w0_53, .inr (2, [.ref x0_57, .ref x1_58, .ref x2_59, .int 1, .int 7])), (x0_57, .inl (G.2 0, 400, .inl ff0_69)), (x1_58, .inl (G.2 0, 14, .inl gg0_70)), (w1_54, .inr (2, [.ref x3_60, .ref x4_61, .ref x5_62, .int 1, .int 1])), (x3_60, .inl (G.2 0, 400, .inl ff1_71)), (x4_61, .inl (G.2 0, 14, .inl gg1_72)), (w2_55, .inr (2, [.ref x6_63, .ref x7_64, .ref x8_65, .int 1, .int 1])), (x6_63, .inl (G.2 0, 400, .inl ff2_73)), (x7_64, .inl (G.2 0, 14, .inl gg2_74)), (w3_56, .inr (2, [.ref x9_66, .ref x10_67, .ref x11_68, .int 1, .int 1])), (x9_66, .inl (G.2 0, 400, .inl ff3_75)), (x10_67, .inl (G.2 0, 14, .inl gg3_76)), (q77, .inr (6, [.ref a1_78, .ref a2_79, .ref a3_80, .ref a4_81, .int 0, .int 0, .int 0])), (a1_78, .inl (G.2 0, 7, .inl (fun _ => 0))), (a2_79, .inl (G.2 0, 6, .inl (fun _ => 0))), (a3_80, .inl (G.2 0, 7, .inl (fun _ => 0))), (a4_81, .inl (G.2 0, 42, .inl (fun _ => 0))), (q82, .inr (6, [.ref a1_83, .ref a2_84, .ref a3_85, .ref a4_86, .int 0, .int 0, .int 0])), (a1_83, .inl (G.2 0, 7, .inl (fun _ => 0))), (a2_84, .inl (G.2 0, 6, .inl (fun _ => 0))), (a3_85, .inl (G.2 0, 7, .inl (fun _ => 0))), (a4_86, .inl (G.2 0, 42, .inl (fun _ => 0))), (q87, .inr (0, [.ref a1_88, .ref a2_89, .int 0, .int 0])), (a2_89, .inl (G.2 0, 7, .inl (fun _ => 0))), (q90, .inr (1, [.ref a1_91, .ref a2_92, .ref a3_93, .int 0, .int 0])), (a1_91, .inl (G.2 0, 42, .inl (fun _ => 0))), (a2_92, .inl (G.2 0, 128, .inl (fun _ => 0))), (a3_93, .inl (G.2 0, 896, .inl (fun _ => 0)))] H _ := hw
  refine W.eq (g2 := F0 m 97 ls [.ref q90, .ref h0]) rfl ?_
  have hw : zz_w G A s [(h0, .inr (9, [.ref q1, .int 0, .ref q2, .int (-1), .ref q9, .ref q43, .ref q77, .ref q82, .ref q87, .null, .null, .null, .null, .null])), (q1, .inl (G.2 1, 2000, .inl (fun _ => 0))), (q2, .inr (4, [.ref b1_3, .ref b2_4, .int 0, .int 0, .int 0, .int (-1), .int 0, .int (-1)])), (b1_3, .inr (7, [.ref a1_5, .ref a2_6, .ref a3_7, .ref a4_8])), (a1_5, .inl (G.2 0, 401, .inl (fun _ => 0))), (a2_6, .inl (G.2 0, 401, .inl (fun _ => 0))), (a3_7, .inl (G.2 0, 401, .inl (fun _ => 0))), (a4_8, .inl (G.2 3, 401, .inr (.inl (fun _ => 0)))), (q9, .inr (5, [.ref s1_10, .ref s2_11, .ref s3_12, .ref s4_13, .ref s5_14, .ref s6_15, .ref s7_16, .ref s8_17, .ref s9_18, .int 0, .int 0, .int 1, .int 0])), (q43, .inr (5, [.ref s1_44, .ref s2_45, .ref s3_46, .ref s4_47, .ref s5_48, .ref s6_49, .ref s7_50, .ref s8_51, .ref s9_52, .int 0, .int 0, .int 1, .int 0])), (s2_45, .inl (G.2 0, 7, .inl (fun _ => 0))), (s5_48, .inl (G.2 0, 6, .inl (fun _ => 0))), (s8_51, .inl (G.2 4, 4, .inr (.inr (.inr (.inr (va_up (va_up (va_up (va_up (fun _ => none) 0 (some w0_53)) 1 (some w1_54)) 2 (some w2_55)) 3 (some w3_56))))))), (w0_53, .inr (2, [.ref x0_57, .ref x1_58, .ref x2_59, .int 1, .int 7])), (x0_57, .inl (G.2 0, 400, .inl ff0_69)), (x1_58, .inl (G.2 0, 14, .inl gg0_70)), (w1_54, .inr (2, [.ref x3_60, .ref x4_61, .ref x5_62, .int 1, .int 1])), (x3_60, .inl (G.2 0, 400, .inl ff1_71)), (x4_61, .inl (G.2 0, 14, .inl gg1_72)), (w2_55, .inr (2, [.ref x6_63, .ref x7_64, .ref x8_65, .int 1, .int 1])), (x6_63, .inl (G.2 0, 400, .inl ff2_73)), (x7_64, .inl (G.2 0, 14, .inl gg2_74)), (w3_56, .inr (2, [.ref x9_66, .ref x10_67, .ref x11_68, .int 1, .int 1])), (x9_66, .inl (G.2 0, 400, .inl ff3_75)), (x10_67, .inl (G.2 0, 14, .inl gg3_76)), (q77, .inr (6, [.ref a1_78, .ref a2_79, .ref a3_80, .ref a4_81, .int 0, .int 0, .int 0])), (a1_78, .inl (G.2 0, 7, .inl (fun _ => 0))), (a2_79, .inl (G.2 0, 6, .inl (fun _ => 0))), (a3_80, .inl (G.2 0, 7, .inl (fun _ => 0))), (a4_81, .inl (G.2 0, 42, .inl (fun _ => 0))), (q82, .inr (6, [.ref a1_83, .ref a2_84, .ref a3_85, .ref a4_86, .int 0, .int 0, .int 0])), (a1_83, .inl (G.2 0, 7, .inl (fun _ => 0))), (a2_84, .inl (G.2 0, 6, .inl (fun _ => 0))), (a3_85, .inl (G.2 0, 7, .inl (fun _ => 0))), (a4_86, .inl (G.2 0, 42, .inl (fun _ => 0))), (q87, .inr (0, [.ref a1_88, .ref a2_89, .int 0, .int 0])), (a2_89, .inl (G.2 0, 7, .inl (fun _ => 0))), (q90, .inr (1, [.ref a1_91, .ref a2_92, .ref a3_93, .int 0, .int 0])), (a2_92, .inl (G.2 0, 128, .inl (fun _ => 0))), (a3_93, .inl (G.2 0, 896, .inl (fun _ => 0)))] H _ := hw.sub [0, 1, 2, 3, 4, 5, 6, 7, 8, 9, 10, 11, 12, 13, 14, 15, 16, 17, 18, 19, 20, 21, 22, 23, 24, 25, 26, 27, 28, 29, 30, 31, 32, 33, 34, 35, 36, 37, 39, 40] (by decide) rfl
  refine zz_putF (ws' := [(h0, .inr (9, [.ref q1, .int 0, .ref q2, .int (-1), .ref q9, .ref q43, .ref q77, .ref q82, .ref q87, .ref q90, .null, .null, .null, .null])), (q1, .inl (G.2 1, 2000, .inl (fun _ => 0))), (q2, .inr (4, [.ref b1_3, .ref b2_4, .int 0, .int 0, .int 0, .int (-1), .int 0, .int (-1)])), (b1_3, .inr (7, [.ref a1_5, .ref a2_6, .ref a3_7, .ref a4_8])), (a1_5, .inl (G.2 0, 401, .inl (fun _ => 0))), (a2_6, .inl (G.2 0, 401, .inl (fun _ => 0))), (a3_7, .inl (G.2 0, 401, .inl (fun _ => 0))), (a4_8, .inl (G.2 3, 401, .inr (.inl (fun _ => 0)))), (q9, .inr (5, [.ref s1_10, .ref s2_11, .ref s3_12, .ref s4_13, .ref s5_14, .ref s6_15, .ref s7_16, .ref s8_17, .ref s9_18, .int 0, .int 0, .int 1, .int 0])), (q43, .inr (5, [.ref s1_44, .ref s2_45, .ref s3_46, .ref s4_47, .ref s5_48, .ref s6_49, .ref s7_50, .ref s8_51, .ref s9_52, .int 0, .int 0, .int 1, .int 0])), (s2_45, .inl (G.2 0, 7, .inl (fun _ => 0))), (s5_48, .inl (G.2 0, 6, .inl (fun _ => 0))), (s8_51, .inl (G.2 4, 4, .inr (.inr (.inr (.inr (va_up (va_up (va_up (va_up (fun _ => none) 0 (some w0_53)) 1 (some w1_54)) 2 (some w2_55)) 3 (some w3_56))))))), (w0_53, .inr (2, [.ref x0_57, .ref x1_58, .ref x2_59, .int 1, .int 7])), (x0_57, .inl (G.2 0, 400, .inl ff0_69)), (x1_58, .inl (G.2 0, 14, .inl gg0_70)), (w1_54, .inr (2, [.ref x3_60, .ref x4_61, .ref x5_62, .int 1, .int 1])), (x3_60, .inl (G.2 0, 400, .inl ff1_71)), (x4_61, .inl (G.2 0, 14, .inl gg1_72)), (w2_55, .inr (2, [.ref x6_63, .ref x7_64, .ref x8_65, .int 1, .int 1])), (x6_63, .inl (G.2 0, 400, .inl ff2_73)), (x7_64, .inl (G.2 0, 14, .inl gg2_74)), (w3_56, .inr (2, [.ref x9_66, .ref x10_67, .ref x11_68, .int 1, .int 1])), (x9_66, .inl (G.2 0, 400, .inl ff3_75)), (x10_67, .inl (G.2 0, 14, .inl gg3_76)), (q77, .inr (6, [.ref a1_78, .ref a2_79, .ref a3_80, .ref a4_81, .int 0, .int 0, .int 0])), (a1_78, .inl (G.2 0, 7, .inl (fun _ => 0))), (a2_79, .inl (G.2 0, 6, .inl (fun _ => 0))), (a3_80, .inl (G.2 0, 7, .inl (fun _ => 0))), (a4_81, .inl (G.2 0, 42, .inl (fun _ => 0))), (q82, .inr (6, [.ref a1_83, .ref a2_84, .ref a3_85, .ref a4_86, .int 0, .int 0, .int 0])), (a1_83, .inl (G.2 0, 7, .inl (fun _ => 0))), (a2_84, .inl (G.2 0, 6, .inl (fun _ => 0))), (a3_85, .inl (G.2 0, 7, .inl (fun _ => 0))), (a4_86, .inl (G.2 0, 42, .inl (fun _ => 0))), (q87, .inr (0, [.ref a1_88, .ref a2_89, .int 0, .int 0])), (a2_89, .inl (G.2 0, 7, .inl (fun _ => 0))), (q90, .inr (1, [.ref a1_91, .ref a2_92, .ref a3_93, .int 0, .int 0])), (a2_92, .inl (G.2 0, 128, .inl (fun _ => 0))), (a3_93, .inl (G.2 0, 896, .inl (fun _ => 0)))]) (v := .ref q90) S hnm hw fpX9_57 0 rfl rfl rfl (Nat.le_of_ble_eq_true rfl) rfl dX9_init_97 (fun H locs hw => ?_)
  refine lv_aload_n hx hb dX9_init_100 rfl (lv_at hl 0 rfl) ?_
  refine zz_new (fs := zz_dX3) S hw kX3 tyX3 tyX3_ok (zz_c2 47 rfl rfl) (zz_c2 48 rfl rfl) (zz_c1 9 rfl rfl) dfX3 (Nat.le_of_ble_eq_true rfl) (Nat.le_of_ble_eq_true rfl) dX9_init_101 (fun q94 H hw => ?_)
  have hw : zz_w G A s [(h0, .inr (9, [.ref q1, .int 0, .ref q2, .int (-1), .ref q9, .ref q43, .ref q77, .ref q82, .ref q87, .ref q90, .null, .null, .null, .null])), (q1, .inl (G.2 1, 2000, .inl (fun _ => 0))), (q2, .inr (4, [.ref b1_3, .ref b2_4, .int 0, .int 0, .int 0, .int (-1), .int 0, .int (-1)])), (b1_3, .inr (7, [.ref a1_5, .ref a2_6, .ref a3_7, .ref a4_8])), (a1_5, .inl (G.2 0, 401, .inl (fun _ => 0))), (a2_6, .inl (G.2 0, 401, .inl (fun _ => 0))), (a3_7, .inl (G.2 0, 401, .inl (fun _ => 0))), (a4_8, .inl (G.2 3, 401, .inr (.inl (fun _ => 0)))), (q9, .inr (5, [.ref s1_10, .ref s2_11, .ref s3_12, .ref s4_13, .ref s5_14, .ref s6_15, .ref s7_16, .ref s8_17, .ref s9_18, .int 0, .int 0, .int 1, .int 0])), (q43, .inr (5, [.ref s1_44, .ref s2_45, .ref s3_46, .ref s4_47, .ref s5_48, .ref s6_49, .ref s7_50, .ref s8_51, .ref s9_52, .int 0, .int 0, .int 1, .int 0])), (s2_45, .inl (G.2 0, 7, .inl (fun _ => 0))), (s5_48, .inl (G.2 0, 6, .inl (fun _ => 0))), (s8_51, .inl (G.2 4, 4, .inr (.inr (.inr (.inr (va_up (va_up (va_up (va_up (fun _ => none) 0 (some w0_53)) 1 (some w1_54)) 2 (some w2_55)) 3 (some w3_56))))))), (w0_53, .inr (2, [.ref x0_57, .ref x1_58, .ref x2_59, .int 1, .int 7])), (x0_57, .inl (G.2 0, 400, .inl ff0_69)), (x1_58, .inl (G.2 0, 14, .inl gg0_70)), (w1_54, .inr (2, [.ref x3_60, .ref x4_61, .ref x5_62, .int 1, .int 1])), (x3_60, .inl (G.2 0, 400, .inl ff1_71)), (x4_61, .inl (G.2 0, 14, .inl gg1_72)), (w2_55, .inr (2, [.ref x6_63, .ref x7_64, .ref x8_65, .int 1, .int 1])), (x6_63, .inl (G.2 0, 400, .inl ff2_73)), (x7_64, .inl (G.2 0, 14, .inl gg2_74)), (w3_56, .inr (2, [.ref x9_66, .ref x10_67, .ref x11_68, .int 1, .int 1])), (x9_66, .inl (G.2 0, 400, .inl ff3_75)), (x10_67, .inl (G.2 0, 14, .inl gg3_76)), (q77, .inr (6, [.ref a1_78, .ref a2_79, .ref a3_80, .ref a4_81, .int 0, .int 0, .int 0])), (a1_78, .inl (G.2 0, 7, .inl (fun _ => 0))), (a2_79, .inl (G.2 0, 6, .inl (fun _ => 0))), (a3_80, .inl (G.2 0, 7, .inl (fun _ => 0))), (a4_81, .inl (G.2 0, 42, .inl (fun _ => 0))), (q82, .inr (6, [.ref a1_83, .ref a2_84, .ref a3_85, .ref a4_86, .int 0, .int 0, .int 0])), (a1_83, .inl (G.2 0, 7, .inl (fun _ => 0))), (a2_84, .inl (G.2 0, 6, .inl (fun _ => 0))), (a3_85, .inl (G.2 0, 7, .inl (fun _ => 0))), (a4_86, .inl (G.2 0, 42, .inl (fun _ => 0))), (q87, .inr (0, [.ref a1_88, .ref a2_89, .int 0, .int 0])), (a2_89, .inl (G.2 0, 7, .inl (fun _ => 0))), (q90, .inr (1, [.ref a1_91, .ref a2_92, .ref a3_93, .int 0, .int 0])), (a2_92, .inl (G.2 0, 128, .inl (fun _ => 0))), (a3_93, .inl (G.2 0, 896, .inl (fun _ => 0))), (q94, .inr (3, [.null, .int 0, .int 0]))] H _ := hw
  refine lv_dup hx hb dX9_init_104 rfl ?_
  refine zz_callI (As := []) (rest := [.ref q94, .ref h0]) (wr := [(h0, .inr (9, [.ref q1, .int 0, .ref q2, .int (-1), .ref q9, .ref q43, .ref q77, .ref q82, .ref q87, .ref q90, .null, .null, .null, .null])), (q1, .inl (G.2 1, 2000, .inl (fun _ => 0))), (q2, .inr (4, [.ref b1_3, .ref b2_4, .int 0, .int 0, .int 0, .int (-1), .int 0, .int (-1)])), (b1_3, .inr (7, [.ref a1_5, .ref a2_6, .ref a3_7, .ref a4_8])), (a1_5, .inl (G.2 0, 401, .inl (fun _ => 0))), (a2_6, .inl (G.2 0, 401, .inl (fun _ => 0))), (a3_7, .inl (G.2 0, 401, .inl (fun _ => 0))), (a4_8, .inl (G.2 3, 401, .inr (.inl (fun _ => 0)))), (q9, .inr (5, [.ref s1_10, .ref s2_11, .ref s3_12, .ref s4_13, .ref s5_14, .ref s6_15, .ref s7_16, .ref s8_17, .ref s9_18, .int 0, .int 0, .int 1, .int 0])), (q43, .inr (5, [.ref s1_44, .ref s2_45, .ref s3_46, .ref s4_47, .ref s5_48, .ref s6_49, .ref s7_50, .ref s8_51, .ref s9_52, .int 0, .int 0, .int 1, .int 0])), (s2_45, .inl (G.2 0, 7, .inl (fun _ => 0))), (s5_48, .inl (G.2 0, 6, .inl (fun _ => 0))), (s8_51, .inl (G.2 4, 4, .inr (.inr (.inr (.inr (va_up (va_up (va_up (va_up (fun _ => none) 0 (some w0_53)) 1 (some w1_54)) 2 (some w2_55)) 3 (some w3_56))))))), (w0_53, .inr (2, [.ref x0_57, .ref x1_58, .ref x2_59, .int 1, .int 7])), (x0_57, .inl (G.2 0, 400, .inl ff0_69)), (x1_58, .inl (G.2 0, 14, .inl gg0_70)), (w1_54, .inr (2, [.ref x3_60, .ref x4_61, .ref x5_62, .int 1, .int 1])), (x3_60, .inl (G.2 0, 400, .inl ff1_71)), (x4_61, .inl (G.2 0, 14, .inl gg1_72)), (w2_55, .inr (2, [.ref x6_63, .ref x7_64, .ref x8_65, .int 1, .int 1])), (x6_63, .inl (G.2 0, 400, .inl ff2_73)), (x7_64, .inl (G.2 0, 14, .inl gg2_74)), (w3_56, .inr (2, [.ref x9_66, .ref x10_67, .ref x11_68, .int 1, .int 1])), (x9_66, .inl (G.2 0, 400, .inl ff3_75)), (x10_67, .inl (G.2 0, 14, .inl gg3_76)), (q77, .inr (6, [.ref a1_78, .ref a2_79, .ref a3_80, .ref a4_81, .int 0, .int 0, .int 0])), (a1_78, .inl (G.2 0, 7, .inl (fun _ => 0))), (a2_79, .inl (G.2 0, 6, .inl (fun _ => 0))), (a3_80, .inl (G.2 0, 7, .inl (fun _ => 0))), (a4_81, .inl (G.2 0, 42, .inl (fun _ => 0))), (q82, .inr (6, [.ref a1_83, .ref a2_84, .ref a3_85, .ref a4_86, .int 0, .int 0, .int 0])), (a1_83, .inl (G.2 0, 7, .inl (fun _ => 0))), (a2_84, .inl (G.2 0, 6, .inl (fun _ => 0))), (a3_85, .inl (G.2 0, 7, .inl (fun _ => 0))), (a4_86, .inl (G.2 0, 42, .inl (fun _ => 0))), (q87, .inr (0, [.ref a1_88, .ref a2_89, .int 0, .int 0])), (a2_89, .inl (G.2 0, 7, .inl (fun _ => 0))), (q90, .inr (1, [.ref a1_91, .ref a2_92, .ref a3_93, .int 0, .int 0])), (a2_92, .inl (G.2 0, 128, .inl (fun _ => 0))), (a3_93, .inl (G.2 0, 896, .inl (fun _ => 0)))]) S hw hl.1 lX9_63 (c_Past_init l G q94) ⟨Nat.le_of_ble_eq_true rfl, Nat.le_of_ble_eq_true rfl⟩ ⟨Nat.le_of_ble_eq_true rfl, Nat.le_of_ble_eq_true rfl⟩ [40] [0, 1, 2, 3, 4, 5, 6, 7, 8, 9, 10, 11, 12, 13, 14, 15, 16, 17, 18, 19, 20, 21, 22, 23, 24, 25, 26, 27, 28, 29, 30, 31, 32, 33, 34, 35, 36, 37, 38, 39] (by decide) rfl rfl (by decide) (by decide) rfl rfl (Nat.le_of_ble_eq_true rfl) dX9_init_105 (fun rr u H locs hp hw => ?_)
  obtain ⟨b1_95, b2_96, a1_97, a2_98, a3_99, a4_100, ff_101, rfl, rfl, hq105_0⟩ := hp
  have hw : zz_w G A s [(h0, .inr (9, [.ref q1, .int 0, .ref q2, .int (-1), .ref q9, .ref q43, .ref q77, .ref q82, .ref q87, .ref q90, .null, .null, .null, .null])), (q1, .inl (G.2 1, 2000, .inl (fun _ => 0))), (q2, .inr (4, [.ref b1_3, .ref b2_4, .int 0, .int 0, .int 0, .int (-1), .int 0, .int (-1)])), (b1_3, .inr (7, [.ref a1_5, .ref a2_6, .ref a3_7, .ref a4_8])), (a1_5, .inl (G.2 0, 401, .inl (fun _ => 0))), (a2_6, .inl (G.2 0, 401, .inl (fun _ => 0))), (a3_7, .inl (G.2 0, 401, .inl (fun _ => 0))), (a4_8, .inl (G.2 3, 401, .inr (.inl (fun _ => 0)))), (q9, .inr (5, [.ref s1_10, .ref s2_11, .ref s3_12, .ref s4_13, .ref s5_14, .ref s6_15, .ref s7_16, .ref s8_17, .ref s9_18, .int 0, .int 0, .int 1, .int 0])), (q43, .inr (5, [.ref s1_44, .ref s2_45, .ref s3_46, .ref s4_47, .ref s5_48, .ref s6_49, .ref s7_50, .ref s8_51, .ref s9_52, .int 0, .int 0, .int 1, .int 0])), (s2_45, .inl (G.2 0, 7, .inl (fun _ => 0))), (s5_48, .inl (G.2 0, 6, .inl (fun _ => 0))), (s8_51, .inl (G.2 4, 4, .inr (.inr (.inr (.inr (va_up (va_up (va_up (va_up (fun _ => none) 0 (some w0_53)) 1 (some w1_54)) 2 (some w2_55)) 3 (some w3_56))))))), (w0_53, .inr (2, [.ref x0_57, .ref x1_58, .ref x2_59, .int 1, .int 7])), (x0_57, .inl (G.2 0, 400, .inl ff0_69)), (x1_58, .inl (G.2 0, 14, .inl gg0_70)), (w1_54, .inr (2, [.ref x3_60, .ref x4_61, .ref x5_62, .int 1, .int 1])), (x3_60, .inl (G.2 0, 400, .inl ff1_71)), (x4_61, .inl (G.2 0, 14, .inl gg1_72)), (w2_55, .inr (2, [.ref x6_63, .ref x7_64, .ref x8_65, .int 1, .int 1])), (x6_63, .inl (G.2 0, 400, .inl ff2_73)), (x7_64, .inl (G.2 0, 14, .inl gg2_74)), (w3_56, .inr (2, [.ref x9_66, .ref x10_67, .ref x11_68, .int 1, .int 1])), (x9_66, .inl (G.2 0, 400, .inl ff3_75)), (x10_67, .inl (G.2 0, 14, .inl gg3_76)), (q77, .inr (6, [.ref a1_78, .ref a2_79, .ref a3_80, .ref a4_81, .int 0, .int 0, .int 0])), (a1_78, .inl (G.2 0, 7, .inl (fun _ => 0))), (a2_79, .inl (G.2 0, 6, .inl (fun _ => 0))), (a3_80, .inl (G.2 0, 7, .inl (fun _ => 0))), (a4_81, .inl (G.2 0, 42, .inl (fun _ => 0))), (q82, .inr (6, [.ref a1_83, .ref a2_84, .ref a3_85, .ref a4_86, .int 0, .int 0, .int 0])), (a1_83, .inl (G.2 0, 7, .inl (fun _ => 0))), (a2_84, .inl (G.2 0, 6, .inl (fun _ => 0))), (a3_85, .inl (G.2 0, 7, .inl (fun _ => 0))), (a4_86, .inl (G.2 0, 42, .inl (fun _ => 0))), (q87, .inr (0, [.ref a1_88, .ref a2_89, .int 0, .int 0])), (a2_89, .inl (G.2 0, 7, .inl (fun _ => 0))), (q90, .inr (1, [.ref a1_91, .ref a2_92, .ref a3_93, .int 0, .int 0])), (a2_92, .inl (G.2 0, 128, .inl (fun _ => 0))), (a3_93, .inl (G.2 0, 896, .inl (fun _ => 0))), (q94, .inr (3, [.ref b1_95, .int 0, .int 0])), (b1_95, .inl (G.2 5, 40, .inr (.inr (.inr (.inr ff_101))))), (b2_96, .inr (6, [.ref a1_97, .ref a2_98, .ref a3_99, .ref a4_100, .int 0, .int 0, .int 0])), (a1_97, .inl (G.2 0, 7, .inl (fun _ => 0))), (a2_98, .inl (G.2 0, 6, .inl (fun _ => 0))), (a3_99, .inl (G.2 0, 7, .inl (fun _ => 0))), (a4_100, .inl (G.2 0, 42, .inl (fun _ => 0)))] H _ := hw
  refine W.eq (g2 := F0 m 108 ls [.ref q94, .ref h0]) rfl ?_
  have hw : zz_w G A s [(h0, .inr (9, [.ref q1, .int 0, .ref q2, .int (-1), .ref q9, .ref q43, .ref q77, .ref q82, .ref q87, .ref q90, .null, .null, .null, .null])), (q1, .inl (G.2 1, 2000, .inl (fun _ => 0))), (q2, .inr (4, [.ref b1_3, .ref b2_4, .int 0, .int 0, .int 0, .int (-1), .int 0, .int (-1)])), (b1_3, .inr (7, [.ref a1_5, .ref a2_6, .ref a3_7, .ref a4_8])), (a1_5, .inl (G.2 0, 401, .inl (fun _ => 0))), (a2_6, .inl (G.2 0, 401, .inl (fun _ => 0))), (a3_7, .inl (G.2 0, 401, .inl (fun _ => 0))), (a4_8, .inl (G.2 3, 401, .inr (.inl (fun _ => 0)))), (q9, .inr (5, [.ref s1_10, .ref s2_11, .ref s3_12, .ref s4_13, .ref s5_14, .ref s6_15, .ref s7_16, .ref s8_17, .ref s9_18, .int 0, .int 0, .int 1, .int 0])), (q43, .inr (5, [.ref s1_44, .ref s2_45, .ref s3_46, .ref s4_47, .ref s5_48, .ref s6_49, .ref s7_50, .ref s8_51, .ref s9_52, .int 0, .int 0, .int 1, .int 0])), (s2_45, .inl (G.2 0, 7, .inl (fun _ => 0))), (s5_48, .inl (G.2 0, 6, .inl (fun _ => 0))), (s8_51, .inl (G.2 4, 4, .inr (.inr (.inr (.inr (va_up (va_up (va_up (va_up (fun _ => none) 0 (some w0_53)) 1 (some w1_54)) 2 (some w2_55)) 3 (some w3_56))))))), (w0_53, .inr (2, [.ref x0_57, .ref x1_58, .ref x2_59, .int 1, .int 7])), (x0_57, .inl (G.2 0, 400, .inl ff0_69)), (x1_58, .inl (G.2 0, 14, .inl gg0_70)), (w1_54, .inr (2, [.ref x3_60, .ref x4_61, .ref x5_62, .int 1, .int 1])), (x3_60, .inl (G.2 0, 400, .inl ff1_71)), (x4_61, .inl (G.2 0, 14, .inl gg1_72)), (w2_55, .inr (2, [.ref x6_63, .ref x7_64, .ref x8_65, .int 1, .int 1])), (x6_63, .inl (G.2 0, 400, .inl ff2_73)), (x7_64, .inl (G.2 0, 14, .inl gg2_74)), (w3_56, .inr (2, [.ref x9_66, .ref x10_67, .ref x11_68, .int 1, .int 1])), (x9_66, .inl (G.2 0, 400, .inl ff3_75)), (x10_67, .inl (G.2 0, 14, .inl gg3_76)), (q77, .inr (6, [.ref a1_78, .ref a2_79, .ref a3_80, .ref a4_81, .int 0, .int 0, .int 0])), (a1_78, .inl (G.2 0, 7, .inl (fun _ => 0))), (a2_79, .inl (G.2 0, 6, .inl (fun _ => 0))), (a3_80, .inl (G.2 0, 7, .inl (fun _ => 0))), (a4_81, .inl (G.2 0, 42, .inl (fun _ => 0))), (q82, .inr (6, [.ref a1_83, .ref a2_84, .ref a3_85, .ref a4_86, .int 0, .int 0, .int 0])), (a1_83, .inl (G.2 0, 7, .inl (fun _ => 0))), (a2_84, .inl (G.2 0, 6, .inl (fun _ => 0))), (a3_85, .inl (G.2 0, 7, .inl (fun _ => 0))), (a4_86, .inl (G.2 0, 42, .inl (fun _ => 0))), (q87, .inr (0, [.ref a1_88, .ref a2_89, .int 0, .int 0])), (a2_89, .inl (G.2 0, 7, .inl (fun _ => 0))), (q90, .inr (1, [.ref a1_91, .ref a2_92, .ref a3_93, .int 0, .int 0])), (a2_92, .inl (G.2 0, 128, .inl (fun _ => 0))), (a3_93, .inl (G.2 0, 896, .inl (fun _ => 0))), (q94, .inr (3, [.ref b1_95, .int 0, .int 0])), (b1_95, .inl (G.2 5, 40, .inr (.inr (.inr (.inr ff_101))))), (b2_96, .inr (6, [.ref a1_97, .ref a2_98, .ref a3_99, .ref a4_100, .int 0, .int 0, .int 0])), (a1_97, .inl (G.2 0, 7, .inl (fun _ => 0))), (a2_98, .inl (G.2 0, 6, .inl (fun _ => 0))), (a3_99, .inl (G.2 0, 7, .inl (fun _ => 0))), (a4_100, .inl (G.2 0, 42, .inl (fun _ => 0)))] H _ := hw.sub [0, 1, 2, 3, 4, 5, 6, 7, 8, 9, 10, 11, 12, 13, 14, 15, 16, 17, 18, 19, 20, 21, 22, 23, 24, 25, 26, 27, 28, 29, 30, 31, 32, 33, 34, 35, 36, 37, 38, 39, 40, 41, 42, 43, 44, 45, 46] (by decide) rfl
  refine zz_putF (ws' := [(h0, .inr (9, [.ref q1, .int 0, .ref q2, .int (-1), .ref q9, .ref q43, .ref q77, .ref q82, .ref q87, .ref q90, .ref q94, .null, .null, .null])), (q1, .inl (G.2 1, 2000, .inl (fun _ => 0))), (q2, .inr (4, [.ref b1_3, .ref b2_4, .int 0, .int 0, .int 0, .int (-1), .int 0, .int (-1)])), (b1_3, .inr (7, [.ref a1_5, .ref a2_6, .ref a3_7, .ref a4_8])), (a1_5, .inl (G.2 0, 401, .inl (fun _ => 0))), (a2_6, .inl (G.2 0, 401, .inl (fun _ => 0))), (a3_7, .inl (G.2 0, 401, .inl (fun _ => 0))), (a4_8, .inl (G.2 3, 401, .inr (.inl (fun _ => 0)))), (q9, .inr (5, [.ref s1_10, .ref s2_11, .ref s3_12, .ref s4_13, .ref s5_14, .ref s6_15, .ref s7_16, .ref s8_17, .ref s9_18, .int 0, .int 0, .int 1, .int 0])), (q43, .inr (5, [.ref s1_44, .ref s2_45, .ref s3_46, .ref s4_47, .ref s5_48, .ref s6_49, .ref s7_50, .ref s8_51, .ref s9_52, .int 0, .int 0, .int 1, .int 0])), (s2_45, .inl (G.2 0, 7, .inl (fun _ => 0))), (s5_48, .inl (G.2 0, 6, .inl (fun _ => 0))), (s8_51, .inl (G.2 4, 4, .inr (.inr (.inr (.inr (va_up (va_up (va_up (va_up (fun _ => none) 0 (some w0_53)) 1 (some w1_54)) 2 (some w2_55)) 3 (some w3_56))))))), (w0_53, .inr (2, [.ref x0_57, .ref x1_58, .ref x2_59, .int 1, .int 7])), (x0_57, .inl (G.2 0, 400, .inl ff0_69)), (x1_58, .inl (G.2 0, 14, .inl gg0_70)), (w1_54, .inr (2, [.ref x3_60, .ref x4_61, .ref x5_62, .int 1, .int 1])), (x3_60, .inl (G.2 0, 400, .inl ff1_71)), (x4_61, .inl (G.2 0, 14, .inl gg1_72)), (w2_55, .inr (2, [.ref x6_63, .ref x7_64, .ref x8_65, .int 1, .int 1])), (x6_63, .inl (G.2 0, 400, .inl ff2_73)), (x7_64, .inl (G.2 0, 14, .inl gg2_74)), (w3_56, .inr (2, [.ref x9_66, .ref x10_67, .ref x11_68, .int 1, .int 1])), (x9_66, .inl (G.2 0, 400, .inl ff3_75)), (x10_67, .inl (G.2 0, 14, .inl gg3_76)), (q77, .inr (6, [.ref a1_78, .ref a2_79, .ref a3_80, .ref a4_81, .int 0, .int 0, .int 0])), (a1_78, .inl (G.2 0, 7, .inl (fun _ => 0))), (a2_79, .inl (G.2 0, 6, .inl (fun _ => 0))), (a3_80, .inl (G.2 0, 7, .inl (fun _ => 0))), (a4_81, .inl (G.2 0, 42, .inl (fun _ => 0))), (q82, .inr (6, [.ref a1_83, .ref a2_84, .ref a3_85, .ref a4_86, .int 0, .int 0, .int 0])), (a1_83, .inl (G.2 0, 7, .inl (fun _ => 0))), (a2_84, .inl (G.2 0, 6, .inl (fun _ => 0))), (a3_85, .inl (G.2 0, 7, .inl (fun _ => 0))), (a4_86, .inl (G.2 0, 42, .inl (fun _ => 0))), (q87, .inr (0, [.ref a1_88, .ref a2_89, .int 0, .int 0])), (a2_89, .inl (G.2 0, 7, .inl (fun _ => 0))), (q90, .inr (1, [.ref a1_91, .ref a2_92, .ref a3_93, .int 0, .int 0])), (a2_92, .inl (G.2 0, 128, .inl (fun _ => 0))), (a3_93, .inl (G.2 0, 896, .inl (fun _ => 0))), (q94, .inr (3, [.ref b1_95, .int 0, .int 0])), (b1_95, .inl (G.2 5, 40, .inr (.inr (.inr (.inr ff_101))))), (b2_96, .inr (6, [.ref a1_97, .ref a2_98, .ref a3_99, .ref a4_100, .int 0, .int 0, .int 0])), (a1_97, .inl (G.2 0, 7, .inl (fun _ => 0))), (a2_98, .inl (G.2 0, 6, .inl (fun _ => 0))), (a3_99, .inl (G.2 0, 7, .inl (fun _ => 0))), (a4_100, .inl (G.2 0, 42, .inl (fun _ => 0)))]) (v := .ref q94) S hnm hw fpX9_64 0 rfl rfl rfl (Nat.le_of_ble_eq_true rfl) rfl dX9_init_108 (fun H locs hw => ?_)
  refine lv_aload_n hx hb dX9_init_111 rfl (lv_at hl 0 rfl) ?_
  refine zz_new (fs := zz_dX8) S hw kX8 tyX8 tyX8_ok (zz_c2 67 rfl rfl) (zz_c2 68 rfl rfl) (zz_c1 10 rfl rfl) dfX8 (Nat.le_of_ble_eq_true rfl) (Nat.le_of_ble_eq_true rfl) dX9_init_112 (fun q102 H hw => ?_)
  have hw : zz_w G A s [(h0, .inr (9, [.ref q1, .int 0, .ref q2, .int (-1), .ref q9, .ref q43, .ref q77, .ref q82, .ref q87, .ref q90, .ref q94, .null, .null, .null])), (q1, .inl (G.2 1, 2000, .inl (fun _ => 0))), (q2, .inr (4, [.ref b1_3, .ref b2_4, .int 0, .int 0, .int 0, .int (-1), .int 0, .int (-1)])), (b1_3, .inr (7, [.ref a1_5, .ref a2_6, .ref a3_7, .ref a4_8])), (a1_5, .inl (G.2 0, 401, .inl (fun _ => 0))), (a2_6, .inl (G.2 0, 401, .inl (fun _ => 0))), (a3_7, .inl (G.2 0, 401, .inl (fun _ => 0))), (a4_8, .inl (G.2 3, 401, .inr (.inl (fun _ => 0)))), (q9, .inr (5, [.ref s1_10, .ref s2_11, .ref s3_12, .ref s4_13, .ref s5_14, .ref s6_15, .ref s7_16, .ref s8_17, .ref s9_18, .int 0, .int 0, .int 1, .int 0])), (q43, .inr (5, [.ref s1_44, .ref s2_45, .ref s3_46, .ref s4_47, .ref s5_48, .ref s6_49, .ref s7_50, .ref s8_51, .ref s9_52, .int 0, .int 0, .int 1, .int 0])), (s2_45, .inl (G.2 0, 7, .inl (fun _ => 0))), (s5_48, .inl (G.2 0, 6, .inl (fun _ => 0))), (s8_51, .inl (G.2 4, 4, .inr (.inr (.inr (.inr (va_up (va_up (va_up (va_up (fun _ => none) 0 (some w0_53)) 1 (some w1_54)) 2 (some w2_55)) 3 (some w3_56))))))), (w0_53, .inr (2, [.ref x0_57, .ref x1_58, .ref x2_59, .int 1, .int 7])), (x0_57, .inl (G.2 0, 400, .inl ff0_69)), (x1_58, .inl (G.2 0, 14, .inl gg0_70)), (w1_54, .inr (2, [.ref x3_60, .ref x4_61, .ref x5_62, .int 1, .int 1])), (x3_60, .inl (G.2 0, 400, .inl ff1_71)), (x4_61, .inl (G.2 0, 14, .inl gg1_72)), (w2_55, .inr (2, [.ref x6_63, .ref x7_64, .ref x8_65, .int 1, .int 1])), (x6_63, .inl (G.2 0, 400, .inl ff2_73)), (x7_64, .inl (G.2 0, 14, .inl gg2_74)), (w3_56, .inr (2, [.ref x9_66, .ref x10_67, .ref x11_68, .int 1, .int 1])), (x9_66, .inl (G.2 0, 400, .inl ff3_75)), (x10_67, .inl (G.2 0, 14, .inl gg3_76)), (q77, .inr (6, [.ref a1_78, .ref a2_79, .ref a3_80, .ref a4_81, .int 0, .int 0, .int 0])), (a1_78, .inl (G.2 0, 7, .inl (fun _ => 0))), (a2_79, .inl (G.2 0, 6, .inl (fun _ => 0))), (a3_80, .inl (G.2 0, 7, .inl (fun _ => 0))), (a4_81, .inl (G.2 0, 42, .inl (fun _ => 0))), (q82, .inr (6, [.ref a1_83, .ref a2_84, .ref a3_85, .ref a4_86, .int 0, .int 0, .int 0])), (a1_83, .inl (G.2 0, 7, .inl (fun _ => 0))), (a2_84, .inl (G.2 0, 6, .inl (fun _ => 0))), (a3_85, .inl (G.2 0, 7, .inl (fun _ => 0))), (a4_86, .inl (G.2 0, 42, .inl (fun _ => 0))), (q87, .inr (0, [.ref a1_88, .ref a2_89, .int 0, .int 0])), (a2_89, .inl (G.2 0, 7, .inl (fun _ => 0))), (q90, .inr (1, [.ref a1_91, .ref a2_92, .ref a3_93, .int 0, .int 0])), (a2_92, .inl (G.2 0, 128, .inl (fun _ => 0))), (a3_93, .inl (G.2 0, 896, .inl (fun _ => 0))), (q94, .inr (3, [.ref b1_95, .int 0, .int 0])), (b1_95, .inl (G.2 5, 40, .inr (.inr (.inr (.inr ff_101))))), (b2_96, .inr (6, [.ref a1_97, .ref a2_98, .ref a3_99, .ref a4_100, .int 0, .int 0, .int 0])), (a1_97, .inl (G.2 0, 7, .inl (fun _ => 0))), (a2_98, .inl (G.2 0, 6, .inl (fun _ => 0))), (a3_99, .inl (G.2 0, 7, .inl (fun _ => 0))), (a4_100, .inl (G.2 0, 42, .inl (fun _ => 0))), (q102, .inr (8, [.null, .null, .null, .int 0]))] H _ := hw
  refine lv_dup hx hb dX9_init_115 rfl ?_
  refine zz_callI (As := []) (rest := [.ref q102, .ref h0]) (wr := [(h0, .inr (9, [.ref q1, .int 0, .ref q2, .int (-1), .ref q9, .ref q43, .ref q77, .ref q82, .ref q87, .ref q90, .ref q94, .null, .null, .null])), (q1, .inl (G.2 1, 2000, .inl (fun _ => 0))), (q2, .inr (4, [.ref b1_3, .ref b2_4, .int 0, .int 0, .int 0, .int (-1), .int 0, .int (-1)])), (b1_3, .inr (7, [.ref a1_5, .ref a2_6, .ref a3_7, .ref a4_8])), (a1_5, .inl (G.2 0, 401, .inl (fun _ => 0))), (a2_6, .inl (G.2 0, 401, .inl (fun _ => 0))), (a3_7, .inl (G.2 0, 401, .inl (fun _ => 0))), (a4_8, .inl (G.2 3, 401, .inr (.inl (fun _ => 0)))), (q9, .inr (5, [.ref s1_10, .ref s2_11, .ref s3_12, .ref s4_13, .ref s5_14, .ref s6_15, .ref s7_16, .ref s8_17, .ref s9_18, .int 0, .int 0, .int 1, .int 0])), (q43, .inr (5, [.ref s1_44, .ref s2_45, .ref s3_46, .ref s4_47, .ref s5_48, .ref s6_49, .ref s7_50, .ref s8_51, .ref s9_52, .int 0, .int 0, .int 1, .int 0])), (s2_45, .inl (G.2 0, 7, .inl (fun _ => 0))), (s5_48, .inl (G.2 0, 6, .inl (fun _ => 0))), (s8_51, .inl (G.2 4, 4, .inr (.inr (.inr (.inr (va_up (va_up (va_up (va_up (fun _ => none) 0 (some w0_53)) 1 (some w1_54)) 2 (some w2_55)) 3 (some w3_56))))))), (w0_53, .inr (2, [.ref x0_57, .ref x1_58, .ref x2_59, .int 1, .int 7])), (x0_57, .inl (G.2 0, 400, .inl ff0_69)), (x1_58, .inl (G.2 0, 14, .inl gg0_70)), (w1_54, .inr (2, [.ref x3_60, .ref x4_61, .ref x5_62, .int 1, .int 1])), (x3_60, .inl (G.2 0, 400, .inl ff1_71)), (x4_61, .inl (G.2 0, 14, .inl gg1_72)), (w2_55, .inr (2, [.ref x6_63, .ref x7_64, .ref x8_65, .int 1, .int 1])), (x6_63, .inl (G.2 0, 400, .inl ff2_73)), (x7_64, .inl (G.2 0, 14, .inl gg2_74)), (w3_56, .inr (2, [.ref x9_66, .ref x10_67, .ref x11_68, .int 1, .int 1])), (x9_66, .inl (G.2 0, 400, .inl ff3_75)), (x10_67, .inl (G.2 0, 14, .inl gg3_76)), (q77, .inr (6, [.ref a1_78, .ref a2_79, .ref a3_80, .ref a4_81, .int 0, .int 0, .int 0])), (a1_78, .inl (G.2 0, 7, .inl (fun _ => 0))), (a2_79, .inl (G.2 0, 6, .inl (fun _ => 0))), (a3_80, .inl (G.2 0, 7, .inl (fun _ => 0))), (a4_81, .inl (G.2 0, 42, .inl (fun _ => 0))), (q82, .inr (6, [.ref a1_83, .ref a2_84, .ref a3_85, .ref a4_86, .int 0, .int 0, .int 0])), (a1_83, .inl (G.2 0, 7, .inl (fun _ => 0))), (a2_84, .inl (G.2 0, 6, .inl (fun _ => 0))), (a3_85, .inl (G.2 0, 7, .inl (fun _ => 0))), (a4_86, .inl (G.2 0, 42, .inl (fun _ => 0))), (q87, .inr (0, [.ref a1_88, .ref a2_89, .int 0, .int 0])), (a2_89, .inl (G.2 0, 7, .inl (fun _ => 0))), (q90, .inr (1, [.ref a1_91, .ref a2_92, .ref a3_93, .int 0, .int 0])), (a2_92, .inl (G.2 0, 128, .inl (fun _ => 0))), (a3_93, .inl (G.2 0, 896, .inl (fun _ => 0))), (q94, .inr (3, [.ref b1_95, .int 0, .int 0])), (b1_95, .inl (G.2 5, 40, .inr (.inr (.inr (.inr ff_101))))), (b2_96, .inr (6, [.ref a1_97, .ref a2_98, .ref a3_99, .ref a4_100, .int 0, .int 0, .int 0])), (a1_97, .inl (G.2 0, 7, .inl (fun _ => 0))), (a2_98, .inl (G.2 0, 6, .inl (fun _ => 0))), (a3_99, .inl (G.2 0, 7, .inl (fun _ => 0))), (a4_100, .inl (G.2 0, 42, .inl (fun _ => 0)))]) S hw hl.1 lX9_70 (c_Told_init l G q102) ⟨Nat.le_of_ble_eq_true rfl, Nat.le_of_ble_eq_true rfl⟩ ⟨Nat.le_of_ble_eq_true rfl, Nat.le_of_ble_eq_true rfl⟩ [47] [0, 1, 2, 3, 4, 5, 6, 7, 8, 9, 10, 11, 12, 13, 14, 15, 16, 17, 18, 19, 20, 21, 22, 23, 24, 25, 26, 27, 28, 29, 30, 31, 32, 33, 34, 35, 36, 37, 38, 39, 40, 41, 42, 43, 44, 45, 46] (by decide) rfl rfl (by decide) (by decide) rfl rfl (Nat.le_of_ble_eq_true rfl) dX9_init_116 (fun rr u H locs hp hw => ?_)
  obtain ⟨a1_103, a2_104, a3_105, rfl, rfl⟩ := hp
  have hw : zz_w G A s [(h0, .inr (9, [.ref q1, .int 0, .ref q2, .int (-1), .ref q9, .ref q43, .ref q77, .ref q82, .ref q87, .ref q90, .ref q94, .null, .null, .null])), (q1, .inl (G.2 1, 2000, .inl (fun _ => 0))), (q2, .inr (4, [.ref b1_3, .ref b2_4, .int 0, .int 0, .int 0, .int (-1), .int 0, .int (-1)])), (b1_3, .inr (7, [.ref a1_5, .ref a2_6, .ref a3_7, .ref a4_8])), (a1_5, .inl (G.2 0, 401, .inl (fun _ => 0))), (a2_6, .inl (G.2 0, 401, .inl (fun _ => 0))), (a3_7, .inl (G.2 0, 401, .inl (fun _ => 0))), (a4_8, .inl (G.2 3, 401, .inr (.inl (fun _ => 0)))), (q9, .inr (5, [.ref s1_10, .ref s2_11, .ref s3_12, .ref s4_13, .ref s5_14, .ref s6_15, .ref s7_16, .ref s8_17, .ref s9_18, .int 0, .int 0, .int 1, .int 0])), (q43, .inr (5, [.ref s1_44, .ref s2_45, .ref s3_46, .ref s4_47, .ref s5_48, .ref s6_49, .ref s7_50, .ref s8_51, .ref s9_52, .int 0, .int 0, .int 1, .int 0])), (s2_45, .inl (G.2 0, 7, .inl (fun _ => 0))), (s5_48, .inl (G.2 0, 6, .inl (fun _ => 0))), (s8_51, .inl (G.2 4, 4, .inr (.inr (.inr (.inr (va_up (va_up (va_up (va_up (fun _ => none) 0 (some w0_53)) 1 (some w1_54)) 2 (some w2_55)) 3 (some w3_56))))))), (w0_53, .inr (2, [.ref x0_57, .ref x1_58, .ref x2_59, .int 1, .int 7])), (x0_57, .inl (G.2 0, 400, .inl ff0_69)), (x1_58, .inl (G.2 0, 14, .inl gg0_70)), (w1_54, .inr (2, [.ref x3_60, .ref x4_61, .ref x5_62, .int 1, .int 1])), (x3_60, .inl (G.2 0, 400, .inl ff1_71)), (x4_61, .inl (G.2 0, 14, .inl gg1_72)), (w2_55, .inr (2, [.ref x6_63, .ref x7_64, .ref x8_65, .int 1, .int 1])), (x6_63, .inl (G.2 0, 400, .inl ff2_73)), (x7_64, .inl (G.2 0, 14, .inl gg2_74)), (w3_56, .inr (2, [.ref x9_66, .ref x10_67, .ref x11_68, .int 1, .int 1])), (x9_66, .inl (G.2 0, 400, .inl ff3_75)), (x10_67, .inl (G.2 0, 14, .inl gg3_76)), (q77, .inr (6, [.ref a1_78, .ref a2_79, .ref a3_80, .ref a4_81, .int 0, .int 0, .int 0])), (a1_78, .inl (G.2 0, 7, .inl (fun _ => 0))), (a2_79, .inl (G.2 0, 6, .inl (fun _ => 0))), (a3_80, .inl (G.2 0, 7, .inl (fun _ => 0))), (a4_81, .inl (G.2 0, 42, .inl (fun _ => 0))), (q82, .inr (6, [.ref a1_83, .ref a2_84, .ref a3_85, .ref a4_86, .int 0, .int 0, .int 0])), (a1_83, .inl (G.2 0, 7, .inl (fun _ => 0))), (a2_84, .inl (G.2 0, 6, .inl (fun _ => 0))), (a3_85, .inl (G.2 0, 7, .inl (fun _ => 0))), (a4_86, .inl (G.2 0, 42, .inl (fun _ => 0))), (q87, .inr (0, [.ref a1_88, .ref a2_89, .int 0, .int 0])), (a2_89, .inl (G.2 0, 7, .inl (fun _ => 0))), (q90, .inr (1, [.ref a1_91, .ref a2_92, .ref a3_93, .int 0, .int 0])), (a2_92, .inl (G.2 0, 128, .inl (fun _ => 0))), (a3_93, .inl (G.2 0, 896, .inl (fun _ => 0))), (q94, .inr (3, [.ref b1_95, .int 0, .int 0])), (b1_95, .inl (G.2 5, 40, .inr (.inr (.inr (.inr ff_101))))), (b2_96, .inr (6, [.ref a1_97, .ref a2_98, .ref a3_99, .ref a4_100, .int 0, .int 0, .int 0])), (a1_97, .inl (G.2 0, 7, .inl (fun _ => 0))), (a2_98, .inl (G.2 0, 6, .inl (fun _ => 0))), (a3_99, .inl (G.2 0, 7, .inl (fun _ => 0))), (a4_100, .inl (G.2 0, 42, .inl (fun _ => 0))), (q102, .inr (8, [.ref a1_103, .ref a2_104, .ref a3_105, .int 0])), (a1_103, .inl (G.2 0, 20, .inl (fun _ => 0))), (a2_104, .inl (G.2 0, 20, .inl (fun _ => 0))), (a3_105, .inl (G.2 2, 20, .inl (fun _ => 0)))] H _ := hw
  refine W.eq (g2 := F0 m 119 ls [.ref q102, .ref h0]) rfl ?_
  have hw : zz_w G A s [(h0, .inr (9, [.ref q1, .int 0, .ref q2, .int (-1), .ref q9, .ref q43, .ref q77, .ref q82, .ref q87, .ref q90, .ref q94, .null, .null, .null])), (q1, .inl (G.2 1, 2000, .inl (fun _ => 0))), (q2, .inr (4, [.ref b1_3, .ref b2_4, .int 0, .int 0, .int 0, .int (-1), .int 0, .int (-1)])), (b1_3, .inr (7, [.ref a1_5, .ref a2_6, .ref a3_7, .ref a4_8])), (a1_5, .inl (G.2 0, 401, .inl (fun _ => 0))), (a2_6, .inl (G.2 0, 401, .inl (fun _ => 0))), (a3_7, .inl (G.2 0, 401, .inl (fun _ => 0))), (a4_8, .inl (G.2 3, 401, .inr (.inl (fun _ => 0)))), (q9, .inr (5, [.ref s1_10, .ref s2_11, .ref s3_12, .ref s4_13, .ref s5_14, .ref s6_15, .ref s7_16, .ref s8_17, .ref s9_18, .int 0, .int 0, .int 1, .int 0])), (q43, .inr (5, [.ref s1_44, .ref s2_45, .ref s3_46, .ref s4_47, .ref s5_48, .ref s6_49, .ref s7_50, .ref s8_51, .ref s9_52, .int 0, .int 0, .int 1, .int 0])), (s2_45, .inl (G.2 0, 7, .inl (fun _ => 0))), (s5_48, .inl (G.2 0, 6, .inl (fun _ => 0))), (s8_51, .inl (G.2 4, 4, .inr (.inr (.inr (.inr (va_up (va_up (va_up (va_up (fun _ => none) 0 (some w0_53)) 1 (some w1_54)) 2 (some w2_55)) 3 (some w3_56))))))), (w0_53, .inr (2, [.ref x0_57, .ref x1_58, .ref x2_59, .int 1, .int 7])), (x0_57, .inl (G.2 0, 400, .inl ff0_69)), (x1_58, .inl (G.2 0, 14, .inl gg0_70)), (w1_54, .inr (2, [.ref x3_60, .ref x4_61, .ref x5_62, .int 1, .int 1])), (x3_60, .inl (G.2 0, 400, .inl ff1_71)), (x4_61, .inl (G.2 0, 14, .inl gg1_72)), (w2_55, .inr (2, [.ref x6_63, .ref x7_64, .ref x8_65, .int 1, .int 1])), (x6_63, .inl (G.2 0, 400, .inl ff2_73)), (x7_64, .inl (G.2 0, 14, .inl gg2_74)), (w3_56, .inr (2, [.ref x9_66, .ref x10_67, .ref x11_68, .int 1, .int 1])), (x9_66, .inl (G.2 0, 400, .inl ff3_75)), (x10_67, .inl (G.2 0, 14, .inl gg3_76)), (q77, .inr (6, [.ref a1_78, .ref a2_79, .ref a3_80, .ref a4_81, .int 0, .int 0, .int 0])), (a1_78, .inl (G.2 0, 7, .inl (fun _ => 0))), (a2_79, .inl (G.2 0, 6, .inl (fun _ => 0))), (a3_80, .inl (G.2 0, 7, .inl (fun _ => 0))), (a4_81, .inl (G.2 0, 42, .inl (fun _ => 0))), (q82, .inr (6, [.ref a1_83, .ref a2_84, .ref a3_85, .ref a4_86, .int 0, .int 0, .int 0])), (a1_83, .inl (G.2 0, 7, .inl (fun _ => 0))), (a2_84, .inl (G.2 0, 6, .inl (fun _ => 0))), (a3_85, .inl (G.2 0, 7, .inl (fun _ => 0))), (a4_86, .inl (G.2 0, 42, .inl (fun _ => 0))), (q87, .inr (0, [.ref a1_88, .ref a2_89, .int 0, .int 0])), (a2_89, .inl (G.2 0, 7, .inl (fun _ => 0))), (q90, .inr (1, [.ref a1_91, .ref a2_92, .ref a3_93, .int 0, .int 0])), (a2_92, .inl (G.2 0, 128, .inl (fun _ => 0))), (a3_93, .inl (G.2 0, 896, .inl (fun _ => 0))), (q94, .inr (3, [.ref b1_95, .int 0, .int 0])), (b1_95, .inl (G.2 5, 40, .inr (.inr (.inr (.inr ff_101))))), (b2_96, .inr (6, [.ref a1_97, .ref a2_98, .ref a3_99, .ref a4_100, .int 0, .int 0, .int 0])), (a1_97, .inl (G.2 0, 7, .inl (fun _ => 0))), (a2_98, .inl (G.2 0, 6, .inl (fun _ => 0))), (a3_99, .inl (G.2 0, 7, .inl (fun _ => 0))), (a4_100, .inl (G.2 0, 42, .inl (fun _ => 0))), (q102, .inr (8, [.ref a1_103, .ref a2_104, .ref a3_105, .int 0]))] H _ := hw.sub [0, 1, 2, 3, 4, 5, 6, 7, 8, 9, 10, 11, 12, 13, 14, 15, 16, 17, 18, 19, 20, 21, 22, 23, 24, 25, 26, 27, 28, 29, 30, 31, 32, 33, 34, 35, 36, 37, 38, 39, 40, 41, 42, 43, 44, 45, 46, 47] (by decide) rfl
  refine zz_putF (ws' := [(h0, .inr (9, [.ref q1, .int 0, .ref q2, .int (-1), .ref q9, .ref q43, .ref q77, .ref q82, .ref q87, .ref q90, .ref q94, .ref q102, .null, .null])), (q1, .inl (G.2 1, 2000, .inl (fun _ => 0))), (q2, .inr (4, [.ref b1_3, .ref b2_4, .int 0, .int 0, .int 0, .int (-1), .int 0, .int (-1)])), (b1_3, .inr (7, [.ref a1_5, .ref a2_6, .ref a3_7, .ref a4_8])), (a1_5, .inl (G.2 0, 401, .inl (fun _ => 0))), (a2_6, .inl (G.2 0, 401, .inl (fun _ => 0))), (a3_7, .inl (G.2 0, 401, .inl (fun _ => 0))), (a4_8, .inl (G.2 3, 401, .inr (.inl (fun _ => 0)))), (q9, .inr (5, [.ref s1_10, .ref s2_11, .ref s3_12, .ref s4_13, .ref s5_14, .ref s6_15, .ref s7_16, .ref s8_17, .ref s9_18, .int 0, .int 0, .int 1, .int 0])), (q43, .inr (5, [.ref s1_44, .ref s2_45, .ref s3_46, .ref s4_47, .ref s5_48, .ref s6_49, .ref s7_50, .ref s8_51, .ref s9_52, .int 0, .int 0, .int 1, .int 0])), (s2_45, .inl (G.2 0, 7, .inl (fun _ => 0))), (s5_48, .inl (G.2 0, 6, .inl (fun _ => 0))), (s8_51, .inl (G.2 4, 4, .inr (.inr (.inr (.inr (va_up (va_up (va_up (va_up (fun _ => none) 0 (some w0_53)) 1 (some w1_54)) 2 (some w2_55)) 3 (some w3_56))))))), (w0_53, .inr (2, [.ref x0_57, .ref x1_58, .ref x2_59, .int 1, .int 7])), (x0_57, .inl (G.2 0, 400, .inl ff0_69)), (x1_58, .inl (G.2 0, 14, .inl gg0_70)), (w1_54, .inr (2, [.ref x3_60, .ref x4_61, .ref x5_62, .int 1, .int 1])), (x3_60, .inl (G.2 0, 400, .inl ff1_71)), (x4_61, .inl (G.2 0, 14, .inl gg1_72)), (w2_55, .inr (2, [.ref x6_63, .ref x7_64, .ref x8_65, .int 1, .int 1])), (x6_63, .inl (G.2 0, 400, .inl ff2_73)), (x7_64, .inl (G.2 0, 14, .inl gg2_74)), (w3_56, .inr (2, [.ref x9_66, .ref x10_67, .ref x11_68, .int 1, .int 1])), (x9_66, .inl (G.2 0, 400, .inl ff3_75)), (x10_67, .inl (G.2 0, 14, .inl gg3_76)), (q77, .inr (6, [.ref a1_78, .ref a2_79, .ref a3_80, .ref a4_81, .int 0, .int 0, .int 0])), (a1_78, .inl (G.2 0, 7, .inl (fun _ => 0))), (a2_79, .inl (G.2 0, 6, .inl (fun _ => 0))), (a3_80, .inl (G.2 0, 7, .inl (fun _ => 0))), (a4_81, .inl (G.2 0, 42, .inl (fun _ => 0))), (q82, .inr (6, [.ref a1_83, .ref a2_84, .ref a3_85, .ref a4_86, .int 0, .int 0, .int 0])), (a1_83, .inl (G.2 0, 7, .inl (fun _ => 0))), (a2_84, .inl (G.2 0, 6, .inl (fun _ => 0))), (a3_85, .inl (G.2 0, 7, .inl (fun _ => 0))), (a4_86, .inl (G.2 0, 42, .inl (fun _ => 0))), (q87, .inr (0, [.ref a1_88, .ref a2_89, .int 0, .int 0])), (a2_89, .inl (G.2 0, 7, .inl (fun _ => 0))), (q90, .inr (1, [.ref a1_91, .ref a2_92, .ref a3_93, .int 0, .int 0])), (a2_92, .inl (G.2 0, 128, .inl (fun _ => 0))), (a3_93, .inl (G.2 0, 896, .inl (fun _ => 0))), (q94, .inr (3, [.ref b1_95, .int 0, .int 0])), (b1_95, .inl (G.2 5, 40, .inr (.inr (.inr (.inr ff_101))))), (b2_96, .inr (6, [.ref a1_97, .ref a2_98, .ref a3_99, .ref a4_100, .int 0, .int 0, .int 0])), (a1_97, .inl (G.2 0, 7, .inl (fun _ => 0))), (a2_98, .inl (G.2 0, 6, .inl (fun _ => 0))), (a3_99, .inl (G.2 0, 7, .inl (fun _ => 0))), (a4_100, .inl (G.2 0, 42, .inl (fun _ => 0))), (q102, .inr (8, [.ref a1_103, .ref a2_104, .ref a3_105, .int 0]))]) (v := .ref q102) S hnm hw fpX9_71 0 rfl rfl rfl (Nat.le_of_ble_eq_true rfl) rfl dX9_init_119 (fun H locs hw => ?_)
  refine lv_aload_n hx hb dX9_init_122 rfl (lv_at hl 0 rfl) ?_
  refine lv_iconst (v := 3) hx hb dX9_init_123 (by decide) ?_
  refine zz_newq 5 S hw (zz_c1 202 rfl rfl) hw.2.2.2.2.2.2.2 rfl (by decide) (nI_clamp (n := 3) (by decide)) (by decide) (Nat.le_of_ble_eq_true rfl) (Nat.le_of_ble_eq_true rfl) dX9_init_124 (fun q106 H hw => ?_)
  have hw : zz_w G A s [(h0, .inr (9, [.ref q1, .int 0, .ref q2, .int (-1), .ref q9, .ref q43, .ref q77, .ref q82, .ref q87, .ref q90, .ref q94, .ref q102, .null, .null])), (q1, .inl (G.2 1, 2000, .inl (fun _ => 0))), (q2, .inr (4, [.ref b1_3, .ref b2_4, .int 0, .int 0, .int 0, .int (-1), .int 0, .int (-1)])), (b1_3, .inr (7, [.ref a1_5, .ref a2_6, .ref a3_7, .ref a4_8])), (a1_5, .inl (G.2 0, 401, .inl (fun _ => 0))), (a2_6, .inl (G.2 0, 401, .inl (fun _ => 0))), (a3_7, .inl (G.2 0, 401, .inl (fun _ => 0))), (a4_8, .inl (G.2 3, 401, .inr (.inl (fun _ => 0)))), (q9, .inr (5, [.ref s1_10, .ref s2_11, .ref s3_12, .ref s4_13, .ref s5_14, .ref s6_15, .ref s7_16, .ref s8_17, .ref s9_18, .int 0, .int 0, .int 1, .int 0])), (q43, .inr (5, [.ref s1_44, .ref s2_45, .ref s3_46, .ref s4_47, .ref s5_48, .ref s6_49, .ref s7_50, .ref s8_51, .ref s9_52, .int 0, .int 0, .int 1, .int 0])), (s2_45, .inl (G.2 0, 7, .inl (fun _ => 0))), (s5_48, .inl (G.2 0, 6, .inl (fun _ => 0))), (s8_51, .inl (G.2 4, 4, .inr (.inr (.inr (.inr (va_up (va_up (va_up (va_up (fun _ => none) 0 (some w0_53)) 1 (some w1_54)) 2 (some w2_55)) 3 (some w3_56))))))), (w0_53, .inr (2, [.ref x0_57, .ref x1_58, .ref x2_59, .int 1, .int 7])), (x0_57, .inl (G.2 0, 400, .inl ff0_69)), (x1_58, .inl (G.2 0, 14, .inl gg0_70)), (w1_54, .inr (2, [.ref x3_60, .ref x4_61, .ref x5_62, .int 1, .int 1])), (x3_60, .inl (G.2 0, 400, .inl ff1_71)), (x4_61, .inl (G.2 0, 14, .inl gg1_72)), (w2_55, .inr (2, [.ref x6_63, .ref x7_64, .ref x8_65, .int 1, .int 1])), (x6_63, .inl (G.2 0, 400, .inl ff2_73)), (x7_64, .inl (G.2 0, 14, .inl gg2_74)), (w3_56, .inr (2, [.ref x9_66, .ref x10_67, .ref x11_68, .int 1, .int 1])), (x9_66, .inl (G.2 0, 400, .inl ff3_75)), (x10_67, .inl (G.2 0, 14, .inl gg3_76)), (q77, .inr (6, [.ref a1_78, .ref a2_79, .ref a3_80, .ref a4_81, .int 0, .int 0, .int 0])), (a1_78, .inl (G.2 0, 7, .inl (fun _ => 0))), (a2_79, .inl (G.2 0, 6, .inl (fun _ => 0))), (a3_80, .inl (G.2 0, 7, .inl (fun _ => 0))), (a4_81, .inl (G.2 0, 42, .inl (fun _ => 0))), (q82, .inr (6, [.ref a1_83, .ref a2_84, .ref a3_85, .ref a4_86, .int 0, .int 0, .int 0])), (a1_83, .inl (G.2 0, 7, .inl (fun _ => 0))), (a2_84, .inl (G.2 0, 6, .inl (fun _ => 0))), (a3_85, .inl (G.2 0, 7, .inl (fun _ => 0))), (a4_86, .inl (G.2 0, 42, .inl (fun _ => 0))), (q87, .inr (0, [.ref a1_88, .ref a2_89, .int 0, .int 0])), (a2_89, .inl (G.2 0, 7, .inl (fun _ => 0))), (q90, .inr (1, [.ref a1_91, .ref a2_92, .ref a3_93, .int 0, .int 0])), (a2_92, .inl (G.2 0, 128, .inl (fun _ => 0))), (a3_93, .inl (G.2 0, 896, .inl (fun _ => 0))), (q94, .inr (3, [.ref b1_95, .int 0, .int 0])), (b1_95, .inl (G.2 5, 40, .inr (.inr (.inr (.inr ff_101))))), (b2_96, .inr (6, [.ref a1_97, .ref a2_98, .ref a3_99, .ref a4_100, .int 0, .int 0, .int 0])), (a1_97, .inl (G.2 0, 7, .inl (fun _ => 0))), (a2_98, .inl (G.2 0, 6, .inl (fun _ => 0))), (a3_99, .inl (G.2 0, 7, .inl (fun _ => 0))), (a4_100, .inl (G.2 0, 42, .inl (fun _ => 0))), (q102, .inr (8, [.ref a1_103, .ref a2_104, .ref a3_105, .int 0])), (q106, .inl (G.2 5, 3, .inr (.inr (.inr (.inr (fun _ => none))))))] H _ := hw
  refine zz_putF (ws' := [(h0, .inr (9, [.ref q1, .int 0, .ref q2, .int (-1), .ref q9, .ref q43, .ref q77, .ref q82, .ref q87, .ref q90, .ref q94, .ref q102, .ref q106, .null])), (q1, .inl (G.2 1, 2000, .inl (fun _ => 0))), (q2, .inr (4, [.ref b1_3, .ref b2_4, .int 0, .int 0, .int 0, .int (-1), .int 0, .int (-1)])), (b1_3, .inr (7, [.ref a1_5, .ref a2_6, .ref a3_7, .ref a4_8])), (a1_5, .inl (G.2 0, 401, .inl (fun _ => 0))), (a2_6, .inl (G.2 0, 401, .inl (fun _ => 0))), (a3_7, .inl (G.2 0, 401, .inl (fun _ => 0))), (a4_8, .inl (G.2 3, 401, .inr (.inl (fun _ => 0)))), (q9, .inr (5, [.ref s1_10, .ref s2_11, .ref s3_12, .ref s4_13, .ref s5_14, .ref s6_15, .ref s7_16, .ref s8_17, .ref s9_18, .int 0, .int 0, .int 1, .int 0])), (q43, .inr (5, [.ref s1_44, .ref s2_45, .ref s3_46, .ref s4_47, .ref s5_48, .ref s6_49, .ref s7_50, .ref s8_51, .ref s9_52, .int 0, .int 0, .int 1, .int 0])), (s2_45, .inl (G.2 0, 7, .inl (fun _ => 0))), (s5_48, .inl (G.2 0, 6, .inl (fun _ => 0))), (s8_51, .inl (G.2 4, 4, .inr (.inr (.inr (.inr (va_up (va_up (va_up (va_up (fun _ => none) 0 (some w0_53)) 1 (some w1_54)) 2 (some w2_55)) 3 (some w3_56))))))), (w0_53, .inr (2, [.ref x0_57, .ref x1_58, .ref x2_59, .int 1, .int 7])), (x0_57, .inl (G.2 0, 400, .inl ff0_69)), (x1_58, .inl (G.2 0, 14, .inl gg0_70)), (w1_54, .inr (2, [.ref x3_60, .ref x4_61, .ref x5_62, .int 1, .int 1])), (x3_60, .inl (G.2 0, 400, .inl ff1_71)), (x4_61, .inl (G.2 0, 14, .inl gg1_72)), (w2_55, .inr (2, [.ref x6_63, .ref x7_64, .ref x8_65, .int 1, .int 1])), (x6_63, .inl (G.2 0, 400, .inl ff2_73)), (x7_64, .inl (G.2 0, 14, .inl gg2_74)), (w3_56, .inr (2, [.ref x9_66, .ref x10_67, .ref x11_68, .int 1, .int 1])), (x9_66, .inl (G.2 0, 400, .inl ff3_75)), (x10_67, .inl (G.2 0, 14, .inl gg3_76)), (q77, .inr (6, [.ref a1_78, .ref a2_79, .ref a3_80, .ref a4_81, .int 0, .int 0, .int 0])), (a1_78, .inl (G.2 0, 7, .inl (fun _ => 0))), (a2_79, .inl (G.2 0, 6, .inl (fun _ => 0))), (a3_80, .inl (G.2 0, 7, .inl (fun _ => 0))), (a4_81, .inl (G.2 0, 42, .inl (fun _ => 0))), (q82, .inr (6, [.ref a1_83, .ref a2_84, .ref a3_85, .ref a4_86, .int 0, .int 0, .int 0])), (a1_83, .inl (G.2 0, 7, .inl (fun _ => 0))), (a2_84, .inl (G.2 0, 6, .inl (fun _ => 0))), (a3_85, .inl (G.2 0, 7, .inl (fun _ => 0))), (a4_86, .inl (G.2 0, 42, .inl (fun _ => 0))), (q87, .inr (0, [.ref a1_88, .ref a2_89, .int 0, .int 0])), (a2_89, .inl (G.2 0, 7, .inl (fun _ => 0))), (q90, .inr (1, [.ref a1_91, .ref a2_92, .ref a3_93, .int 0, .int 0])), (a2_92, .inl (G.2 0, 128, .inl (fun _ => 0))), (a3_93, .inl (G.2 0, 896, .inl (fun _ => 0))), (q94, .inr (3, [.ref b1_95, .int 0, .int 0])), (b1_95, .inl (G.2 5, 40, .inr (.inr (.inr (.inr ff_101))))), (b2_96, .inr (6, [.ref a1_97, .ref a2_98, .ref a3_99, .ref a4_100, .int 0, .int 0, .int 0])), (a1_97, .inl (G.2 0, 7, .inl (fun _ => 0))), (a2_98, .inl (G.2 0, 6, .inl (fun _ => 0))), (a3_99, .inl (G.2 0, 7, .inl (fun _ => 0))), (a4_100, .inl (G.2 0, 42, .inl (fun _ => 0))), (q102, .inr (8, [.ref a1_103, .ref a2_104, .ref a3_105, .int 0])), (q106, .inl (G.2 5, 3, .inr (.inr (.inr (.inr (fun _ => none))))))]) (v := .ref q106) S hnm hw fpX9_75 0 rfl rfl rfl (Nat.le_of_ble_eq_true rfl) rfl dX9_init_127 (fun H locs hw => ?_)
  refine lv_aload_n hx hb dX9_init_130 rfl (lv_at hl 0 rfl) ?_
  refine lv_iconst (v := 3) hx hb dX9_init_131 (by decide) ?_
  refine zz_newa (at_ := .boolean) (a0 := (3, .inl (fun _ => 0))) 2 S hw zz_ar2 rfl rfl (fun _ _ h => h) (fun _ => rfl) (by decide) (nI_clamp (n := 3) (by decide)) (by decide) (Nat.le_of_ble_eq_true rfl) (Nat.le_of_ble_eq_true rfl) dX9_init_132 (fun q107 H hw => ?_)
  have hw : zz_w G A s [(h0, .inr (9, [.ref q1, .int 0, .ref q2, .int (-1), .ref q9, .ref q43, .ref q77, .ref q82, .ref q87, .ref q90, .ref q94, .ref q102, .ref q106, .null])), (q1, .inl (G.2 1, 2000, .inl (fun _ => 0))), (q2, .inr (4, [.ref b1_3, .ref b2_4, .int 0, .int 0, .int 0, .int (-1), .int 0, .int (-1)])), (b1_3, .inr (7, [.ref a1_5, .ref a2_6, .ref a3_7, .ref a4_8])), (a1_5, .inl (G.2 0, 401, .inl (fun _ => 0))), (a2_6, .inl (G.2 0, 401, .inl (fun _ => 0))), (a3_7, .inl (G.2 0, 401, .inl (fun _ => 0))), (a4_8, .inl (G.2 3, 401, .inr (.inl (fun _ => 0)))), (q9, .inr (5, [.ref s1_10, .ref s2_11, .ref s3_12, .ref s4_13, .ref s5_14, .ref s6_15, .ref s7_16, .ref s8_17, .ref s9_18, .int 0, .int 0, .int 1, .int 0])), (q43, .inr (5, [.ref s1_44, .ref s2_45, .ref s3_46, .ref s4_47, .ref s5_48, .ref s6_49, .ref s7_50, .ref s8_51, .ref s9_52, .int 0, .int 0, .int 1, .int 0])), (s2_45, .inl (G.2 0, 7, .inl (fun _ => 0))), (s5_48, .inl (G.2 0, 6, .inl (fun _ => 0))), (s8_51, .inl (G.2 4, 4, .inr (.inr (.inr (.inr (va_up (va_up (va_up (va_up (fun _ => none) 0 (some w0_53)) 1 (some w1_54)) 2 (some w2_55)) 3 (some w3_56))))))), (w0_53, .inr (2, [.ref x0_57, .ref x1_58, .ref x2_59, .int 1, .int 7])), (x0_57, .inl (G.2 0, 400, .inl ff0_69)), (x1_58, .inl (G.2 0, 14, .inl gg0_70)), (w1_54, .inr (2, [.ref x3_60, .ref x4_61, .ref x5_62, .int 1, .int 1])), (x3_60, .inl (G.2 0, 400, .inl ff1_71)), (x4_61, .inl (G.2 0, 14, .inl gg1_72)), (w2_55, .inr (2, [.ref x6_63, .ref x7_64, .ref x8_65, .int 1, .int 1])), (x6_63, .inl (G.2 0, 400, .inl ff2_73)), (x7_64, .inl (G.2 0, 14, .inl gg2_74)), (w3_56, .inr (2, [.ref x9_66, .ref x10_67, .ref x11_68, .int 1, .int 1])), (x9_66, .inl (G.2 0, 400, .inl ff3_75)), (x10_67, .inl (G.2 0, 14, .inl gg3_76)), (q77, .inr (6, [.ref a1_78, .ref a2_79, .ref a3_80, .ref a4_81, .int 0, .int 0, .int 0])), (a1_78, .inl (G.2 0, 7, .inl (fun _ => 0))), (a2_79, .inl (G.2 0, 6, .inl (fun _ => 0))), (a3_80, .inl (G.2 0, 7, .inl (fun _ => 0))), (a4_81, .inl (G.2 0, 42, .inl (fun _ => 0))), (q82, .inr (6, [.ref a1_83, .ref a2_84, .ref a3_85, .ref a4_86, .int 0, .int 0, .int 0])), (a1_83, .inl (G.2 0, 7, .inl (fun _ => 0))), (a2_84, .inl (G.2 0, 6, .inl (fun _ => 0))), (a3_85, .inl (G.2 0, 7, .inl (fun _ => 0))), (a4_86, .inl (G.2 0, 42, .inl (fun _ => 0))), (q87, .inr (0, [.ref a1_88, .ref a2_89, .int 0, .int 0])), (a2_89, .inl (G.2 0, 7, .inl (fun _ => 0))), (q90, .inr (1, [.ref a1_91, .ref a2_92, .ref a3_93, .int 0, .int 0])), (a2_92, .inl (G.2 0, 128, .inl (fun _ => 0))), (a3_93, .inl (G.2 0, 896, .inl (fun _ => 0))), (q94, .inr (3, [.ref b1_95, .int 0, .int 0])), (b1_95, .inl (G.2 5, 40, .inr (.inr (.inr (.inr ff_101))))), (b2_96, .inr (6, [.ref a1_97, .ref a2_98, .ref a3_99, .ref a4_100, .int 0, .int 0, .int 0])), (a1_97, .inl (G.2 0, 7, .inl (fun _ => 0))), (a2_98, .inl (G.2 0, 6, .inl (fun _ => 0))), (a3_99, .inl (G.2 0, 7, .inl (fun _ => 0))), (a4_100, .inl (G.2 0, 42, .inl (fun _ => 0))), (q102, .inr (8, [.ref a1_103, .ref a2_104, .ref a3_105, .int 0])), (q106, .inl (G.2 5, 3, .inr (.inr (.inr (.inr (fun _ => none)))))), (q107, .inl (G.2 2, 3, .inl (fun _ => 0)))] H _ := hw
  refine zz_putF (ws' := [(h0, .inr (9, [.ref q1, .int 0, .ref q2, .int (-1), .ref q9, .ref q43, .ref q77, .ref q82, .ref q87, .ref q90, .ref q94, .ref q102, .ref q106, .ref q107])), (q1, .inl (G.2 1, 2000, .inl (fun _ => 0))), (q2, .inr (4, [.ref b1_3, .ref b2_4, .int 0, .int 0, .int 0, .int (-1), .int 0, .int (-1)])), (b1_3, .inr (7, [.ref a1_5, .ref a2_6, .ref a3_7, .ref a4_8])), (a1_5, .inl (G.2 0, 401, .inl (fun _ => 0))), (a2_6, .inl (G.2 0, 401, .inl (fun _ => 0))), (a3_7, .inl (G.2 0, 401, .inl (fun _ => 0))), (a4_8, .inl (G.2 3, 401, .inr (.inl (fun _ => 0)))), (q9, .inr (5, [.ref s1_10, .ref s2_11, .ref s3_12, .ref s4_13, .ref s5_14, .ref s6_15, .ref s7_16, .ref s8_17, .ref s9_18, .int 0, .int 0, .int 1, .int 0])), (q43, .inr (5, [.ref s1_44, .ref s2_45, .ref s3_46, .ref s4_47, .ref s5_48, .ref s6_49, .ref s7_50, .ref s8_51, .ref s9_52, .int 0, .int 0, .int 1, .int 0])), (s2_45, .inl (G.2 0, 7, .inl (fun _ => 0))), (s5_48, .inl (G.2 0, 6, .inl (fun _ => 0))), (s8_51, .inl (G.2 4, 4, .inr (.inr (.inr (.inr (va_up (va_up (va_up (va_up (fun _ => none) 0 (some w0_53)) 1 (some w1_54)) 2 (some w2_55)) 3 (some w3_56))))))), (w0_53, .inr (2, [.ref x0_57, .ref x1_58, .ref x2_59, .int 1, .int 7])), (x0_57, .inl (G.2 0, 400, .inl ff0_69)), (x1_58, .inl (G.2 0, 14, .inl gg0_70)), (w1_54, .inr (2, [.ref x3_60, .ref x4_61, .ref x5_62, .int 1, .int 1])), (x3_60, .inl (G.2 0, 400, .inl ff1_71)), (x4_61, .inl (G.2 0, 14, .inl gg1_72)), (w2_55, .inr (2, [.ref x6_63, .ref x7_64, .ref x8_65, .int 1, .int 1])), (x6_63, .inl (G.2 0, 400, .inl ff2_73)), (x7_64, .inl (G.2 0, 14, .inl gg2_74)), (w3_56, .inr (2, [.ref x9_66, .ref x10_67, .ref x11_68, .int 1, .int 1])), (x9_66, .inl (G.2 0, 400, .inl ff3_75)), (x10_67, .inl (G.2 0, 14, .inl gg3_76)), (q77, .inr (6, [.ref a1_78, .ref a2_79, .ref a3_80, .ref a4_81, .int 0, .int 0, .int 0])), (a1_78, .inl (G.2 0, 7, .inl (fun _ => 0))), (a2_79, .inl (G.2 0, 6, .inl (fun _ => 0))), (a3_80, .inl (G.2 0, 7, .inl (fun _ => 0))), (a4_81, .inl (G.2 0, 42, .inl (fun _ => 0))), (q82, .inr (6, [.ref a1_83, .ref a2_84, .ref a3_85, .ref a4_86, .int 0, .int 0, .int 0])), (a1_83, .inl (G.2 0, 7, .inl (fun _ => 0))), (a2_84, .inl (G.2 0, 6, .inl (fun _ => 0))), (a3_85, .inl (G.2 0, 7, .inl (fun _ => 0))), (a4_86, .inl (G.2 0, 42, .inl (fun _ => 0))), (q87, .inr (0, [.ref a1_88, .ref a2_89, .int 0, .int 0])), (a2_89, .inl (G.2 0, 7, .inl (fun _ => 0))), (q90, .inr (1, [.ref a1_91, .ref a2_92, .ref a3_93, .int 0, .int 0])), (a2_92, .inl (G.2 0, 128, .inl (fun _ => 0))), (a3_93, .inl (G.2 0, 896, .inl (fun _ => 0))), (q94, .inr (3, [.ref b1_95, .int 0, .int 0])), (b1_95, .inl (G.2 5, 40, .inr (.inr (.inr (.inr ff_101))))), (b2_96, .inr (6, [.ref a1_97, .ref a2_98, .ref a3_99, .ref a4_100, .int 0, .int 0, .int 0])), (a1_97, .inl (G.2 0, 7, .inl (fun _ => 0))), (a2_98, .inl (G.2 0, 6, .inl (fun _ => 0))), (a3_99, .inl (G.2 0, 7, .inl (fun _ => 0))), (a4_100, .inl (G.2 0, 42, .inl (fun _ => 0))), (q102, .inr (8, [.ref a1_103, .ref a2_104, .ref a3_105, .int 0])), (q106, .inl (G.2 5, 3, .inr (.inr (.inr (.inr (fun _ => none)))))), (q107, .inl (G.2 2, 3, .inl (fun _ => 0)))]) (v := .ref q107) S hnm hw fpX9_79 0 rfl rfl rfl (Nat.le_of_ble_eq_true rfl) rfl dX9_init_134 (fun H locs hw => ?_)
  refine lv_iconst (v := 0) hx hb dX9_init_137 (by decide) ?_
  refine lv_istore_n (lv' := [(1, .int 0), (0, .ref h0)]) hx hb dX9_init_138 rfl hl (by decide) rfl (fun ls hl => ?_)
  refine lv_iload_n hx hb dX9_init_139 rfl (lv_at hl 0 rfl) ?_
  refine lv_iconst (v := 3) hx hb dX9_init_140 (by decide) ?_
  refine lv_icmp_ge (tgt := 163) hx hb dX9_init_141 (by decide) (fun cc => absurd cc (by decide)) (fun _ => ?_)
  refine lv_aload_n hx hb dX9_init_144 rfl (lv_at hl 1 rfl) ?_
  refine zz_get (v := .ref q106) S hw fgX9_75 0 rfl rfl dX9_init_145 ?_
  refine lv_iload_n hx hb dX9_init_148 rfl (lv_at hl 0 rfl) ?_
  refine zz_new (fs := zz_dX6) S hw kX6 tyX6 tyX6_ok (zz_c1 202 rfl rfl) (zz_c1 203 rfl rfl) (zz_c1 6 rfl rfl) dfX6 (Nat.le_of_ble_eq_true rfl) (Nat.le_of_ble_eq_true rfl) dX9_init_149 (fun q108 H hw => ?_)
  have hw : zz_w G A s [(h0, .inr (9, [.ref q1, .int 0, .ref q2, .int (-1), .ref q9, .ref q43, .ref q77, .ref q82, .ref q87, .ref q90, .ref q94, .ref q102, .ref q106, .ref q107])), (q1, .inl (G.2 1, 2000, .inl (fun _ => 0))), (q2, .inr (4, [.ref b1_3, .ref b2_4, .int 0, .int 0, .int 0, .int (-1), .int 0, .int (-1)])), (b1_3, .inr (7, [.ref a1_5, .ref a2_6, .ref a3_7, .ref a4_8])), (a1_5, .inl (G.2 0, 401, .inl (fun _ => 0))), (a2_6, .inl (G.2 0, 401, .inl (fun _ => 0))), (a3_7, .inl (G.2 0, 401, .inl (fun _ => 0))), (a4_8, .inl (G.2 3, 401, .inr (.inl (fun _ => 0)))), (q9, .inr (5, [.ref s1_10, .ref s2_11, .ref s3_12, .ref s4_13, .ref s5_14, .ref s6_15, .ref s7_16, .ref s8_17, .ref s9_18, .int 0, .int 0, .int 1, .int 0])), (q43, .inr (5, [.ref s1_44, .ref s2_45, .ref s3_46, .ref s4_47, .ref s5_48, .ref s6_49, .ref s7_50, .ref s8_51, .ref s9_52, .int 0, .int 0, .int 1, .int 0])), (s2_45, .inl (G.2 0, 7, .inl (fun _ => 0))), (s5_48, .inl (G.2 0, 6, .inl (fun _ => 0))), (s8_51, .inl (G.2 4, 4, .inr (.inr (.inr (.inr (va_up (va_up (va_up (va_up (fun _ => none) 0 (some w0_53)) 1 (some w1_54)) 2 (some w2_55)) 3 (some w3_56))))))), (w0_53, .inr (2, [.ref x0_57, .ref x1_58, .ref x2_59, .int 1, .int 7])), (x0_57, .inl (G.2 0, 400, .inl ff0_69)), (x1_58, .inl (G.2 0, 14, .inl gg0_70)), (w1_54, .inr (2, [.ref x3_60, .ref x4_61, .ref x5_62, .int 1, .int 1])), (x3_60, .inl (G.2 0, 400, .inl ff1_71)), (x4_61, .inl (G.2 0, 14, .inl gg1_72)), (w2_55, .inr (2, [.ref x6_63, .ref x7_64, .ref x8_65, .int 1, .int 1])), (x6_63, .inl (G.2 0, 400, .inl ff2_73)), (x7_64, .inl (G.2 0, 14, .inl gg2_74)), (w3_56, .inr (2, [.ref x9_66, .ref x10_67, .ref x11_68, .int 1, .int 1])), (x9_66, .inl (G.2 0, 400, .inl ff3_75)), (x10_67, .inl (G.2 0, 14, .inl gg3_76)), (q77, .inr (6, [.ref a1_78, .ref a2_79, .ref a3_80, .ref a4_81, .int 0, .int 0, .int 0])), (a1_78, .inl (G.2 0, 7, .inl (fun _ => 0))), (a2_79, .inl (G.2 0, 6, .inl (fun _ => 0))), (a3_80, .inl (G.2 0, 7, .inl (fun _ => 0))), (a4_81, .inl (G.2 0, 42, .inl (fun _ => 0))), (q82, .inr (6, [.ref a1_83, .ref a2_84, .ref a3_85, .ref a4_86, .int 0, .int 0, .int 0])), (a1_83, .inl (G.2 0, 7, .inl (fun _ => 0))), (a2_84, .inl (G.2 0, 6, .inl (fun _ => 0))), (a3_85, .inl (G.2 0, 7, .inl (fun _ => 0))), (a4_86, .inl (G.2 0, 42, .inl (fun _ => 0))), (q87, .inr (0, [.ref a1_88, .ref a2_89, .int 0, .int 0])), (a2_89, .inl (G.2 0, 7, .inl (fun _ => 0))), (q90, .inr (1, [.ref a1_91, .ref a2_92, .ref a3_93, .int 0, .int 0])), (a2_92, .inl (G.2 0, 128, .inl (fun _ => 0))), (a3_93, .inl (G.2 0, 896, .inl (fun _ => 0))), (q94, .inr (3, [.ref b1_95, .int 0, .int 0])), (b1_95, .inl (G.2 5, 40, .inr (.inr (.inr (.inr ff_101))))), (b2_96, .inr (6, [.ref a1_97, .ref a2_98, .ref a3_99, .ref a4_100, .int 0, .int 0, .int 0])), (a1_97, .inl (G.2 0, 7, .inl (fun _ => 0))), (a2_98, .inl (G.2 0, 6, .inl (fun _ => 0))), (a3_99, .inl (G.2 0, 7, .inl (fun _ => 0))), (a4_100, .inl (G.2 0, 42, .inl (fun _ => 0))), (q102, .inr (8, [.ref a1_103, .ref a2_104, .ref a3_105, .int 0])), (q106, .inl (G.2 5, 3, .inr (.inr (.inr (.inr (fun _ => none)))))), (q107, .inl (G.2 2, 3, .inl (fun _ => 0))), (q108, .inr (6, [.null, .null, .null, .null, .int 0, .int 0, .int 0]))] H _ := hw
  refine lv_dup hx hb dX9_init_152 rfl ?_
  refine zz_callI (As := []) (rest := [.ref q108, .int 0, .ref q106]) (wr := [(h0, .inr (9, [.ref q1, .int 0, .ref q2, .int (-1), .ref q9, .ref q43, .ref q77, .ref q82, .ref q87, .ref q90, .ref q94, .ref q102, .ref q106, .ref q107])), (q1, .inl (G.2 1, 2000, .inl (fun _ => 0))), (q2, .inr (4, [.ref b1_3, .ref b2_4, .int 0, .int 0, .int 0, .int (-1), .int 0, .int (-1)])), (b1_3, .inr (7, [.ref a1_5, .ref a2_6, .ref a3_7, .ref a4_8])), (a1_5, .inl (G.2 0, 401, .inl (fun _ => 0))), (a2_6, .inl (G.2 0, 401, .inl (fun _ => 0))), (a3_7, .inl (G.2 0, 401, .inl (fun _ => 0))), (a4_8, .inl (G.2 3, 401, .inr (.inl (fun _ => 0)))), (q9, .inr (5, [.ref s1_10, .ref s2_11, .ref s3_12, .ref s4_13, .ref s5_14, .ref s6_15, .ref s7_16, .ref s8_17, .ref s9_18, .int 0, .int 0, .int 1, .int 0])), (q43, .inr (5, [.ref s1_44, .ref s2_45, .ref s3_46, .ref s4_47, .ref s5_48, .ref s6_49, .ref s7_50, .ref s8_51, .ref s9_52, .int 0, .int 0, .int 1, .int 0])), (s2_45, .inl (G.2 0, 7, .inl (fun _ => 0))), (s5_48, .inl (G.2 0, 6, .inl (fun _ => 0))), (s8_51, .inl (G.2 4, 4, .inr (.inr (.inr (.inr (va_up (va_up (va_up (va_up (fun _ => none) 0 (some w0_53)) 1 (some w1_54)) 2 (some w2_55)) 3 (some w3_56))))))), (w0_53, .inr (2, [.ref x0_57, .ref x1_58, .ref x2_59, .int 1, .int 7])), (x0_57, .inl (G.2 0, 400, .inl ff0_69)), (x1_58, .inl (G.2 0, 14, .inl gg0_70)), (w1_54, .inr (2, [.ref x3_60, .ref x4_61, .ref x5_62, .int 1, .int 1])), (x3_60, .inl (G.2 0, 400, .inl ff1_71)), (x4_61, .inl (G.2 0, 14, .inl gg1_72)), (w2_55, .inr (2, [.ref x6_63, .ref x7_64, .ref x8_65, .int 1, .int 1])), (x6_63, .inl (G.2 0, 400, .inl ff2_73)), (x7_64, .inl (G.2 0, 14, .inl gg2_74)), (w3_56, .inr (2, [.ref x9_66, .ref x10_67, .ref x11_68, .int 1, .int 1])), (x9_66, .inl (G.2 0, 400, .inl ff3_75)), (x10_67, .inl (G.2 0, 14, .inl gg3_76)), (q77, .inr (6, [.ref a1_78, .ref a2_79, .ref a3_80, .ref a4_81, .int 0, .int 0, .int 0])), (a1_78, .inl (G.2 0, 7, .inl (fun _ => 0))), (a2_79, .inl (G.2 0, 6, .inl (fun _ => 0))), (a3_80, .inl (G.2 0, 7, .inl (fun _ => 0))), (a4_81, .inl (G.2 0, 42, .inl (fun _ => 0))), (q82, .inr (6, [.ref a1_83, .ref a2_84, .ref a3_85, .ref a4_86, .int 0, .int 0, .int 0])), (a1_83, .inl (G.2 0, 7, .inl (fun _ => 0))), (a2_84, .inl (G.2 0, 6, .inl (fun _ => 0))), (a3_85, .inl (G.2 0, 7, .inl (fun _ => 0))), (a4_86, .inl (G.2 0, 42, .inl (fun _ => 0))), (q87, .inr (0, [.ref a1_88, .ref a2_89, .int 0, .int 0])), (a2_89, .inl (G.2 0, 7, .inl (fun _ => 0))), (q90, .inr (1, [.ref a1_91, .ref a2_92, .ref a3_93, .int 0, .int 0])), (a2_92, .inl (G.2 0, 128, .inl (fun _ => 0))), (a3_93, .inl (G.2 0, 896, .inl (fun _ => 0))), (q94, .inr (3, [.ref b1_95, .int 0, .int 0])), (b1_95, .inl (G.2 5, 40, .inr (.inr (.inr (.inr ff_101))))), (b2_96, .inr (6, [.ref a1_97, .ref a2_98, .ref a3_99, .ref a4_100, .int 0, .int 0, .int 0])), (a1_97, .inl (G.2 0, 7, .inl (fun _ => 0))), (a2_98, .inl (G.2 0, 6, .inl (fun _ => 0))), (a3_99, .inl (G.2 0, 7, .inl (fun _ => 0))), (a4_100, .inl (G.2 0, 42, .inl (fun _ => 0))), (q102, .inr (8, [.ref a1_103, .ref a2_104, .ref a3_105, .int 0])), (q106, .inl (G.2 5, 3, .inr (.inr (.inr (.inr (fun _ => none)))))), (q107, .inl (G.2 2, 3, .inl (fun _ => 0)))]) S hw hl.1 lX9_39 (c_State_init l G q108) ⟨Nat.le_of_ble_eq_true rfl, Nat.le_of_ble_eq_true rfl⟩ ⟨Nat.le_of_ble_eq_true rfl, Nat.le_of_ble_eq_true rfl⟩ [50] [0, 1, 2, 3, 4, 5, 6, 7, 8, 9, 10, 11, 12, 13, 14, 15, 16, 17, 18, 19, 20, 21, 22, 23, 24, 25, 26, 27, 28, 29, 30, 31, 32, 33, 34, 35, 36, 37, 38, 39, 40, 41, 42, 43, 44, 45, 46, 47, 48, 49] (by decide) rfl rfl (by decide) (by decide) rfl rfl (Nat.le_of_ble_eq_true rfl) dX9_init_153 (fun rr u H locs hp hw => ?_)
  obtain ⟨a1_109, a2_110, a3_111, a4_112, rfl, rfl⟩ := hp
  have hw : zz_w G A s [(h0, .inr (9, [.ref q1, .int 0, .ref q2, .int (-1), .ref q9, .ref q43, .ref q77, .ref q82, .ref q87, .ref q90, .ref q94, .ref q102, .ref q106, .ref q107])), (q1, .inl (G.2 1, 2000, .inl (fun _ => 0))), (q2, .inr (4, [.ref b1_3, .ref b2_4, .int 0, .int 0, .int 0, .int (-1), .int 0, .int (-1)])), (b1_3, .inr (7, [.ref a1_5, .ref a2_6, .ref a3_7, .ref a4_8])), (a1_5, .inl (G.2 0, 401, .inl (fun _ => 0))), (a2_6, .inl (G.2 0, 401, .inl (fun _ => 0))), (a3_7, .inl (G.2 0, 401, .inl (fun _ => 0))), (a4_8, .inl (G.2 3, 401, .inr (.inl (fun _ => 0)))), (q9, .inr (5, [.ref s1_10, .ref s2_11, .ref s3_12, .ref s4_13, .ref s5_14, .ref s6_15, .ref s7_16, .ref s8_17, .ref s9_18, .int 0, .int 0, .int 1, .int 0])), (q43, .inr (5, [.ref s1_44, .ref s2_45, .ref s3_46, .ref s4_47, .ref s5_48, .ref s6_49, .ref s7_50, .ref s8_51, .ref s9_52, .int 0, .int 0, .int 1, .int 0])), (s2_45, .inl (G.2 0, 7, .inl (fun _ => 0))), (s5_48, .inl (G.2 0, 6, .inl (fun _ => 0))), (s8_51, .inl (G.2 4, 4, .inr (.inr (.inr (.inr (va_up (va_up (va_up (va_up (fun _ => none) 0 (some w0_53)) 1 (some w1_54)) 2 (some w2_55)) 3 (some w3_56))))))), (w0_53, .inr (2, [.ref x0_57, .ref x1_58, .ref x2_59, .int 1, .int 7])), (x0_57, .inl (G.2 0, 400, .inl ff0_69)), (x1_58, .inl (G.2 0, 14, .inl gg0_70)), (w1_54, .inr (2, [.ref x3_60, .ref x4_61, .ref x5_62, .int 1, .int 1])), (x3_60, .inl (G.2 0, 400, .inl ff1_71)), (x4_61, .inl (G.2 0, 14, .inl gg1_72)), (w2_55, .inr (2, [.ref x6_63, .ref x7_64, .ref x8_65, .int 1, .int 1])), (x6_63, .inl (G.2 0, 400, .inl ff2_73)), (x7_64, .inl (G.2 0, 14, .inl gg2_74)), (w3_56, .inr (2, [.ref x9_66, .ref x10_67, .ref x11_68, .int 1, .int 1])), (x9_66, .inl (G.2 0, 400, .inl ff3_75)), (x10_67, .inl (G.2 0, 14, .inl gg3_76)), (q77, .inr (6, [.ref a1_78, .ref a2_79, .ref a3_80, .ref a4_81, .int 0, .int 0, .int 0])), (a1_78, .inl (G.2 0, 7, .inl (fun _ => 0))), (a2_79, .inl (G.2 0, 6, .inl (fun _ => 0))), (a3_80, .inl (G.2 0, 7, .inl (fun _ => 0))), (a4_81, .inl (G.2 0, 42, .inl (fun _ => 0))), (q82, .inr (6, [.ref a1_83, .ref a2_84, .ref a3_85, .ref a4_86, .int 0, .int 0, .int 0])), (a1_83, .inl (G.2 0, 7, .inl (fun _ => 0))), (a2_84, .inl (G.2 0, 6, .inl (fun _ => 0))), (a3_85, .inl (G.2 0, 7, .inl (fun _ => 0))), (a4_86, .inl (G.2 0, 42, .inl (fun _ => 0))), (q87, .inr (0, [.ref a1_88, .ref a2_89, .int 0, .int 0])), (a2_89, .inl (G.2 0, 7, .inl (fun _ => 0))), (q90, .inr (1, [.ref a1_91, .ref a2_92, .ref a3_93, .int 0, .int 0])), (a2_92, .inl (G.2 0, 128, .inl (fun _ => 0))), (a3_93, .inl (G.2 0, 896, .inl (fun _ => 0))), (q94, .inr (3, [.ref b1_95, .int 0, .int 0])), (b1_95, .inl (G.2 5, 40, .inr (.inr (.inr (.inr ff_101))))), (b2_96, .inr (6, [.ref a1_97, .ref a2_98, .ref a3_99, .ref a4_100, .int 0, .int 0, .int 0])), (a1_97, .inl (G.2 0, 7, .inl (fun _ => 0))), (a2_98, .inl (G.2 0, 6, .inl (fun _ => 0))), (a3_99, .inl (G.2 0, 7, .inl (fun _ => 0))), (a4_100, .inl (G.2 0, 42, .inl (fun _ => 0))), (q102, .inr (8, [.ref a1_103, .ref a2_104, .ref a3_105, .int 0])), (q106, .inl (G.2 5, 3, .inr (.inr (.inr (.inr (fun _ => none)))))), (q107, .inl (G.2 2, 3, .inl (fun _ => 0))), (q108, .inr (6, [.ref a1_109, .ref a2_110, .ref a3_111, .ref a4_112, .int 0, .int 0, .int 0])), (a1_109, .inl (G.2 0, 7, .inl (fun _ => 0))), (a2_110, .inl (G.2 0, 6, .inl (fun _ => 0))), (a3_111, .inl (G.2 0, 7, .inl (fun _ => 0))), (a4_112, .inl (G.2 0, 42, .inl (fun _ => 0)))] H _ := hw
  refine W.eq (g2 := F0 m 156 ls [.ref q108, .int 0, .ref q106]) rfl ?_
  refine zz_astS (ws' := [(h0, .inr (9, [.ref q1, .int 0, .ref q2, .int (-1), .ref q9, .ref q43, .ref q77, .ref q82, .ref q87, .ref q90, .ref q94, .ref q102, .ref q106, .ref q107])), (q1, .inl (G.2 1, 2000, .inl (fun _ => 0))), (q2, .inr (4, [.ref b1_3, .ref b2_4, .int 0, .int 0, .int 0, .int (-1), .int 0, .int (-1)])), (b1_3, .inr (7, [.ref a1_5, .ref a2_6, .ref a3_7, .ref a4_8])), (a1_5, .inl (G.2 0, 401, .inl (fun _ => 0))), (a2_6, .inl (G.2 0, 401, .inl (fun _ => 0))), (a3_7, .inl (G.2 0, 401, .inl (fun _ => 0))), (a4_8, .inl (G.2 3, 401, .inr (.inl (fun _ => 0)))), (q9, .inr (5, [.ref s1_10, .ref s2_11, .ref s3_12, .ref s4_13, .ref s5_14, .ref s6_15, .ref s7_16, .ref s8_17, .ref s9_18, .int 0, .int 0, .int 1, .int 0])), (q43, .inr (5, [.ref s1_44, .ref s2_45, .ref s3_46, .ref s4_47, .ref s5_48, .ref s6_49, .ref s7_50, .ref s8_51, .ref s9_52, .int 0, .int 0, .int 1, .int 0])), (s2_45, .inl (G.2 0, 7, .inl (fun _ => 0))), (s5_48, .inl (G.2 0, 6, .inl (fun _ => 0))), (s8_51, .inl (G.2 4, 4, .inr (.inr (.inr (.inr (va_up (va_up (va_up (va_up (fun _ => none) 0 (some w0_53)) 1 (some w1_54)) 2 (some w2_55)) 3 (some w3_56))))))), (w0_53, .inr (2, [.ref x0_57, .ref x1_58, .ref x2_59, .int 1, .int 7])), (x0_57, .inl (G.2 0, 400, .inl ff0_69)), (x1_58, .inl (G.2 0, 14, .inl gg0_70)), (w1_54, .inr (2, [.ref x3_60, .ref x4_61, .ref x5_62, .int 1, .int 1])), (x3_60, .inl (G.2 0, 400, .inl ff1_71)), (x4_61, .inl (G.2 0, 14, .inl gg1_72)), (w2_55, .inr (2, [.ref x6_63, .ref x7_64, .ref x8_65, .int 1, .int 1])), (x6_63, .inl (G.2 0, 400, .inl ff2_73)), (x7_64, .inl (G.2 0, 14, .inl gg2_74)), (w3_56, .inr (2, [.ref x9_66, .ref x10_67, .ref x11_68, .int 1, .int 1])), (x9_66, .inl (G.2 0, 400, .inl ff3_75)), (x10_67, .inl (G.2 0, 14, .inl gg3_76)), (q77, .inr (6, [.ref a1_78, .ref a2_79, .ref a3_80, .ref a4_81, .int 0, .int 0, .int 0])), (a1_78, .inl (G.2 0, 7, .inl (fun _ => 0))), (a2_79, .inl (G.2 0, 6, .inl (fun _ => 0))), (a3_80, .inl (G.2 0, 7, .inl (fun _ => 0))), (a4_81, .inl (G.2 0, 42, .inl (fun _ => 0))), (q82, .inr (6, [.ref a1_83, .ref a2_84, .ref a3_85, .ref a4_86, .int 0, .int 0, .int 0])), (a1_83, .inl (G.2 0, 7, .inl (fun _ => 0))), (a2_84, .inl (G.2 0, 6, .inl (fun _ => 0))), (a3_85, .inl (G.2 0, 7, .inl (fun _ => 0))), (a4_86, .inl (G.2 0, 42, .inl (fun _ => 0))), (q87, .inr (0, [.ref a1_88, .ref a2_89, .int 0, .int 0])), (a2_89, .inl (G.2 0, 7, .inl (fun _ => 0))), (q90, .inr (1, [.ref a1_91, .ref a2_92, .ref a3_93, .int 0, .int 0])), (a2_92, .inl (G.2 0, 128, .inl (fun _ => 0))), (a3_93, .inl (G.2 0, 896, .inl (fun _ => 0))), (q94, .inr (3, [.ref b1_95, .int 0, .int 0])), (b1_95, .inl (G.2 5, 40, .inr (.inr (.inr (.inr ff_101))))), (b2_96, .inr (6, [.ref a1_97, .ref a2_98, .ref a3_99, .ref a4_100, .int 0, .int 0, .int 0])), (a1_97, .inl (G.2 0, 7, .inl (fun _ => 0))), (a2_98, .inl (G.2 0, 6, .inl (fun _ => 0))), (a3_99, .inl (G.2 0, 7, .inl (fun _ => 0))), (a4_100, .inl (G.2 0, 42, .inl (fun _ => 0))), (q102, .inr (8, [.ref a1_103, .ref a2_104, .ref a3_105, .int 0])), (q106, .inl (G.2 5, 3, .inr (.inr (.inr (.inr (va_up (fun _ => none) 0 (some q108))))))), (q107, .inl (G.2 2, 3, .inl (fun _ => 0))), (q108, .inr (6, [.ref a1_109, .ref a2_110, .ref a3_111, .ref a4_112, .int 0, .int 0, .int 0])), (a1_109, .inl (G.2 0, 7, .inl (fun _ => 0))), (a2_110, .inl (G.2 0, 6, .inl (fun _ => 0))), (a3_111, .inl (G.2 0, 7, .inl (fun _ => 0))), (a4_112, .inl (G.2 0, 42, .inl (fun _ => 0)))]) (g := (va_up (fun _ => none) 0 (some q108))) S hw 48 50 rfl rfl (vp_in_nI (n := 0) (by decide) (by decide)) (zz_vun (n := 0) (by decide)) rfl dX9_init_156 (fun H locs hw => ?_)
  refine lv_iinc (v := 1) (lv' := [(1, .int 1), (0, .ref h0)]) hx hb dX9_init_157 hl (k := 0) rfl (by decide) (by decide) rfl (fun ls hl => ?_)
  refine lv_goto (tgt := 139) hx hb dX9_init_160 (by decide) ?_
  refine lv_iload_n hx hb dX9_init_139 rfl (lv_at hl 0 rfl) ?_
  refine lv_iconst (v := 3) hx hb dX9_init_140 (by decide) ?_
  refine lv_icmp_ge (tgt := 163) hx hb dX9_init_141 (by decide) (fun cc => absurd cc (by decide)) (fun _ => ?_)
  refine lv_aload_n hx hb dX9_init_144 rfl (lv_at hl 1 rfl) ?_
  refine zz_get (v := .ref q106) S hw fgX9_75 0 rfl rfl dX9_init_145 ?_
  refine lv_iload_n hx hb dX9_init_148 rfl (lv_at hl 0 rfl) ?_
  refine zz_new (fs := zz_dX6) S hw kX6 tyX6 tyX6_ok (zz_c1 202 rfl rfl) (zz_c1 203 rfl rfl) (zz_c1 6 rfl rfl) dfX6 (Nat.le_of_ble_eq_true rfl) (Nat.le_of_ble_eq_true rfl) dX9_init_149 (fun q113 H hw => ?_)
  have hw : zz_w G A s [(h0, .inr (9, [.ref q1, .int 0, .ref q2, .int (-1), .ref q9, .ref q43, .ref q77, .ref q82, .ref q87, .ref q90, .ref q94, .ref q102, .ref q106, .ref q107])), (q1, .inl (G.2 1, 2000, .inl (fun _ => 0))), (q2, .inr (4, [.ref b1_3, .ref b2_4, .int 0, .int 0, .int 0, .int (-1), .int 0, .int (-1)])), (b1_3, .inr (7, [.ref a1_5, .ref a2_6, .ref a3_7, .ref a4_8])), (a1_5, .inl (G.2 0, 401, .inl (fun _ => 0))), (a2_6, .inl (G.2 0, 401, .inl (fun _ => 0))), (a3_7, .inl (G.2 0, 401, .inl (fun _ => 0))), (a4_8, .inl (G.2 3, 401, .inr (.inl (fun _ => 0)))), (q9, .inr (5, [.ref s1_10, .ref s2_11, .ref s3_12, .ref s4_13, .ref s5_14, .ref s6_15, .ref s7_16, .ref s8_17, .ref s9_18, .int 0, .int 0, .int 1, .int 0])), (q43, .inr (5, [.ref s1_44, .ref s2_45, .ref s3_46, .ref s4_47, .ref s5_48, .ref s6_49, .ref s7_50, .ref s8_51, .ref s9_52, .int 0, .int 0, .int 1, .int 0])), (s2_45, .inl (G.2 0, 7, .inl (fun _ => 0))), (s5_48, .inl (G.2 0, 6, .inl (fun _ => 0))), (s8_51, .inl (G.2 4, 4, .inr (.inr (.inr (.inr (va_up (va_up (va_up (va_up (fun _ => none) 0 (some w0_53)) 1 (some w1_54)) 2 (some w2_55)) 3 (some w3_56))))))), (w0_53, .inr (2, [.ref x0_57, .ref x1_58, .ref x2_59, .int 1, .int 7])), (x0_57, .inl (G.2 0, 400, .inl ff0_69)), (x1_58, .inl (G.2 0, 14, .inl gg0_70)), (w1_54, .inr (2, [.ref x3_60, .ref x4_61, .ref x5_62, .int 1, .int 1])), (x3_60, .inl (G.2 0, 400, .inl ff1_71)), (x4_61, .inl (G.2 0, 14, .inl gg1_72)), (w2_55, .inr (2, [.ref x6_63, .ref x7_64, .ref x8_65, .int 1, .int 1])), (x6_63, .inl (G.2 0, 400, .inl ff2_73)), (x7_64, .inl (G.2 0, 14, .inl gg2_74)), (w3_56, .inr (2, [.ref x9_66, .ref x10_67, .ref x11_68, .int 1, .int 1])), (x9_66, .inl (G.2 0, 400, .inl ff3_75)), (x10_67, .inl (G.2 0, 14, .inl gg3_76)), (q77, .inr (6, [.ref a1_78, .ref a2_79, .ref a3_80, .ref a4_81, .int 0, .int 0, .int 0])), (a1_78, .inl (G.2 0, 7, .inl (fun _ => 0))), (a2_79, .inl (G.2 0, 6, .inl (fun _ => 0))), (a3_80, .inl (G.2 0, 7, .inl (fun _ => 0))), (a4_81, .inl (G.2 0, 42, .inl (fun _ => 0))), (q82, .inr (6, [.ref a1_83, .ref a2_84, .ref a3_85, .ref a4_86, .int 0, .int 0, .int 0])), (a1_83, .inl (G.2 0, 7, .inl (fun _ => 0))), (a2_84, .inl (G.2 0, 6, .inl (fun _ => 0))), (a3_85, .inl (G.2 0, 7, .inl (fun _ => 0))), (a4_86, .inl (G.2 0, 42, .inl (fun _ => 0))), (q87, .inr (0, [.ref a1_88, .ref a2_89, .int 0, .int 0])), (a2_89, .inl (G.2 0, 7, .inl (fun _ => 0))), (q90, .inr (1, [.ref a1_91, .ref a2_92, .ref a3_93, .int 0, .int 0])), (a2_92, .inl (G.2 0, 128, .inl (fun _ => 0))), (a3_93, .inl (G.2 0, 896, .inl (fun _ => 0))), (q94, .inr (3, [.ref b1_95, .int 0, .int 0])), (b1_95, .inl (G.2 5, 40, .inr (.inr (.inr (.inr ff_101))))), (b2_96, .inr (6, [.ref a1_97, .ref a2_98, .ref a3_99, .ref a4_100, .int 0, .int 0, .int 0])), (a1_97, .inl (G.2 0, 7, .inl (fun _ => 0))), (a2_98, .inl (G.2 0, 6, .inl (fun _ => 0))), (a3_99, .inl (G.2 0, 7, .inl (fun _ => 0))), (a4_100, .inl (G.2 0, 42, .inl (fun _ => 0))), (q102, .inr (8, [.ref a1_103, .ref a2_104, .ref a3_105, .int 0])), (q106, .inl (G.2 5, 3, .inr (.inr (.inr (.inr (va_up (fun _ => none) 0 (some q108))))))), (q107, .inl (G.2 2, 3, .inl (fun _ => 0))), (q108, .inr (6, [.ref a1_109, .ref a2_110, .ref a3_111, .ref a4_112, .int 0, .int 0, .int 0])), (a1_109, .inl (G.2 0, 7, .inl (fun _ => 0))), (a2_110, .inl (G.2 0, 6, .inl (fun _ => 0))), (a3_111, .inl (G.2 0, 7, .inl (fun _ => 0))), (a4_112, .inl (G.2 0, 42, .inl (fun _ => 0))), (q113, .inr (6, [.null, .null, .null, .null, .int 0, .int 0, .int 0]))] H _ := hw
  refine lv_dup hx hb dX9_init_152 rfl ?_
  refine zz_callI (As := []) (rest := [.ref q113, .int 1, .ref q106]) (wr := [(h0, .inr (9, [.ref q1, .int 0, .ref q2, .int (-1), .ref q9, .ref q43, .ref q77, .ref q82, .ref q87, .ref q90, .ref q94, .ref q102, .ref q106, .ref q107])), (q1, .inl (G.2 1, 2000, .inl (fun _ => 0))), (q2, .inr (4, [.ref b1_3, .ref b2_4, .int 0, .int 0, .int 0, .int (-1), .int 0, .int (-1)])), (b1_3, .inr (7, [.ref a1_5, .ref a2_6, .ref a3_7, .ref a4_8])), (a1_5, .inl (G.2 0, 401, .inl (fun _ => 0))), (a2_6, .inl (G.2 0, 401, .inl (fun _ => 0))), (a3_7, .inl (G.2 0, 401, .inl (fun _ => 0))), (a4_8, .inl (G.2 3, 401, .inr (.inl (fun _ => 0)))), (q9, .inr (5, [.ref s1_10, .ref s2_11, .ref s3_12, .ref s4_13, .ref s5_14, .ref s6_15, .ref s7_16, .ref s8_17, .ref s9_18, .int 0, .int 0, .int 1, .int 0])), (q43, .inr (5, [.ref s1_44, .ref s2_45, .ref s3_46, .ref s4_47, .ref s5_48, .ref s6_49, .ref s7_50, .ref s8_51, .ref s9_52, .int 0, .int 0, .int 1, .int 0])), (s2_45, .inl (G.2 0, 7, .inl (fun _ => 0))), (s5_48, .inl (G.2 0, 6, .inl (fun _ => 0))), (s8_51, .inl (G.2 4, 4, .inr (.inr (.inr (.inr (va_up (va_up (va_up (va_up (fun _ => none) 0 (some w0_53)) 1 (some w1_54)) 2 (some w2_55)) 3 (some w3_56))))))), (w0_53, .inr (2, [.ref x0_57, .ref x1_58, .ref x2_59, .int 1, .int 7])), (x0_57, .inl (G.2 0, 400, .inl ff0_69)), (x1_58, .inl (G.2 0, 14, .inl gg0_70)), (w1_54, .inr (2, [.ref x3_60, .ref x4_61, .ref x5_62, .int 1, .int 1])), (x3_60, .inl (G.2 0, 400, .inl ff1_71)), (x4_61, .inl (G.2 0, 14, .inl gg1_72)), (w2_55, .inr (2, [.ref x6_63, .ref x7_64, .ref x8_65, .int 1, .int 1])), (x6_63, .inl (G.2 0, 400, .inl ff2_73)), (x7_64, .inl (G.2 0, 14, .inl gg2_74)), (w3_56, .inr (2, [.ref x9_66, .ref x10_67, .ref x11_68, .int 1, .int 1])), (x9_66, .inl (G.2 0, 400, .inl ff3_75)), (x10_67, .inl (G.2 0, 14, .inl gg3_76)), (q77, .inr (6, [.ref a1_78, .ref a2_79, .ref a3_80, .ref a4_81, .int 0, .int 0, .int 0])), (a1_78, .inl (G.2 0, 7, .inl (fun _ => 0))), (a2_79, .inl (G.2 0, 6, .inl (fun _ => 0))), (a3_80, .inl (G.2 0, 7, .inl (fun _ => 0))), (a4_81, .inl (G.2 0, 42, .inl (fun _ => 0))), (q82, .inr (6, [.ref a1_83, .ref a2_84, .ref a3_85, .ref a4_86, .int 0, .int 0, .int 0])), (a1_83, .inl (G.2 0, 7, .inl (fun _ => 0))), (a2_84, .inl (G.2 0, 6, .inl (fun _ => 0))), (a3_85, .inl (G.2 0, 7, .inl (fun _ => 0))), (a4_86, .inl (G.2 0, 42, .inl (fun _ => 0))), (q87, .inr (0, [.ref a1_88, .ref a2_89, .int 0, .int 0])), (a2_89, .inl (G.2 0, 7, .inl (fun _ => 0))), (q90, .inr (1, [.ref a1_91, .ref a2_92, .ref a3_93, .int 0, .int 0])), (a2_92, .inl (G.2 0, 128, .inl (fun _ => 0))), (a3_93, .inl (G.2 0, 896, .inl (fun _ => 0))), (q94, .inr (3, [.ref b1_95, .int 0, .int 0])), (b1_95, .inl (G.2 5, 40, .inr (.inr (.inr (.inr ff_101))))), (b2_96, .inr (6, [.ref a1_97, .ref a2_98, .ref a3_99, .ref a4_100, .int 0, .int 0, .int 0])), (a1_97, .inl (G.2 0, 7, .inl (fun _ => 0))), (a2_98, .inl (G.2 0, 6, .inl (fun _ => 0))), (a3_99, .inl (G.2 0, 7, .inl (fun _ => 0))), (a4_100, .inl (G.2 0, 42, .inl (fun _ => 0))), (q102, .inr (8, [.ref a1_103, .ref a2_104, .ref a3_105, .int 0])), (q106, .inl (G.2 5, 3, .inr (.inr (.inr (.inr (va_up (fun _ => none) 0 (some q108))))))), (q107, .inl (G.2 2, 3, .inl (fun _ => 0))), (q108, .inr (6, [.ref a1_109, .ref a2_110, .ref a3_111, .ref a4_112, .int 0, .int 0, .int 0])), (a1_109, .inl (G.2 0, 7, .inl (fun _ => 0))), (a2_110, .inl (G.2 0, 6, .inl (fun _ => 0))), (a3_111, .inl (G.2 0, 7, .inl (fun _ => 0))), (a4_112, .inl (G.2 0, 42, .inl (fun _ => 0)))]) S hw hl.1 lX9_39 (c_State_init l G q113) ⟨Nat.le_of_ble_eq_true rfl, Nat.le_of_ble_eq_true rfl⟩ ⟨Nat.le_of_ble_eq_true rfl, Nat.le_of_ble_eq_true rfl⟩ [55] [0, 1, 2, 3, 4, 5, 6, 7, 8, 9, 10, 11, 12, 13, 14, 15, 16, 17, 18, 19, 20, 21, 22, 23, 24, 25, 26, 27, 28, 29, 30, 31, 32, 33, 34, 35, 36, 37, 38, 39, 40, 41, 42, 43, 44, 45, 46, 47, 48, 49, 50, 51, 52, 53, 54] (by decide) rfl rfl (by decide) (by decide) rfl rfl (Nat.le_of_ble_eq_true rfl) dX9_init_153 (fun rr u H locs hp hw => ?_)
  obtain ⟨a1_114, a2_115, a3_116, a4_117, rfl, rfl⟩ := hp
  have hw : zz_w G A s [(h0, .inr (9, [.ref q1, .int 0, .ref q2, .int (-1), .ref q9, .ref q43, .ref q77, .ref q82, .ref q87, .ref q90, .ref q94, .ref q102, .ref q106, .ref q107])), (q1, .inl (G.2 1, 2000, .inl (fun _ => 0))), (q2, .inr (4, [.ref b1_3, .ref b2_4, .int 0, .int 0, .int 0, .int (-1), .int 0, .int (-1)])), (b1_3, .inr (7, [.ref a1_5, .ref a2_6, .ref a3_7, .ref a4_8])), (a1_5, .inl (G.2 0, 401, .inl (fun _ => 0))), (a2_6, .inl (G.2 0, 401, .inl (fun _ => 0))), (a3_7, .inl (G.2 0, 401, .inl (fun _ => 0))), (a4_8, .inl (G.2 3, 401, .inr (.inl (fun _ => 0)))), (q9, .inr (5, [.ref s1_10, .ref s2_11, .ref s3_12, .ref s4_13, .ref s5_14, .ref s6_15, .ref s7_16, .ref s8_17, .ref s9_18, .int 0, .int 0, .int 1, .int 0])), (q43, .inr (5, [.ref s1_44, .ref s2_45, .ref s3_46, .ref s4_47, .ref s5_48, .ref s6_49, .ref s7_50, .ref s8_51, .ref s9_52, .int 0, .int 0, .int 1, .int 0])), (s2_45, .inl (G.2 0, 7, .inl (fun _ => 0))), (s5_48, .inl (G.2 0, 6, .inl (fun _ => 0))), (s8_51, .inl (G.2 4, 4, .inr (.inr (.inr (.inr (va_up (va_up (va_up (va_up (fun _ => none) 0 (some w0_53)) 1 (some w1_54)) 2 (some w2_55)) 3 (some w3_56))))))), (w0_53, .inr (2, [.ref x0_57, .ref x1_58, .ref x2_59, .int 1, .int 7])), (x0_57, .inl (G.2 0, 400, .inl ff0_69)), (x1_58, .inl (G.2 0, 14, .inl gg0_70)), (w1_54, .inr (2, [.ref x3_60, .ref x4_61, .ref x5_62, .int 1, .int 1])), (x3_60, .inl (G.2 0, 400, .inl ff1_71)), (x4_61, .inl (G.2 0, 14, .inl gg1_72)), (w2_55, .inr (2, [.ref x6_63, .ref x7_64, .ref x8_65, .int 1, .int 1])), (x6_63, .inl (G.2 0, 400, .inl ff2_73)), (x7_64, .inl (G.2 0, 14, .inl gg2_74)), (w3_56, .inr (2, [.ref x9_66, .ref x10_67, .ref x11_68, .int 1, .int 1])), (x9_66, .inl (G.2 0, 400, .inl ff3_75)), (x10_67, .inl (G.2 0, 14, .inl gg3_76)), (q77, .inr (6, [.ref a1_78, .ref a2_79, .ref a3_80, .ref a4_81, .int 0, .int 0, .int 0])), (a1_78, .inl (G.2 0, 7, .inl (fun _ => 0))), (a2_79, .inl (G.2 0, 6, .inl (fun _ => 0))), (a3_80, .inl (G.2 0, 7, .inl (fun _ => 0))), (a4_81, .inl (G.2 0, 42, .inl (fun _ => 0))), (q82, .inr (6, [.ref a1_83, .ref a2_84, .ref a3_85, .ref a4_86, .int 0, .int 0, .int 0])), (a1_83, .inl (G.2 0, 7, .inl (fun _ => 0))), (a2_84, .inl (G.2 0, 6, .inl (fun _ => 0))), (a3_85, .inl (G.2 0, 7, .inl (fun _ => 0))), (a4_86, .inl (G.2 0, 42, .inl (fun _ => 0))), (q87, .inr (0, [.ref a1_88, .ref a2_89, .int 0, .int 0])), (a2_89, .inl (G.2 0, 7, .inl (fun _ => 0))), (q90, .inr (1, [.ref a1_91, .ref a2_92, .ref a3_93, .int 0, .int 0])), (a2_92, .inl (G.2 0, 128, .inl (fun _ => 0))), (a3_93, .inl (G.2 0, 896, .inl (fun _ => 0))), (q94, .inr (3, [.ref b1_95, .int 0, .int 0])), (b1_95, .inl (G.2 5, 40, .inr (.inr (.inr (.inr ff_101))))), (b2_96, .inr (6, [.ref a1_97, .ref a2_98, .ref a3_99, .ref a4_100, .int 0, .int 0, .int 0])), (a1_97, .inl (G.2 0, 7, .inl (fun _ => 0))), (a2_98, .inl (G.2 0, 6, .inl (fun _ => 0))), (a3_99, .inl (G.2 0, 7, .inl (fun _ => 0))), (a4_100, .inl (G.2 0, 42, .inl (fun _ => 0))), (q102, .inr (8, [.ref a1_103, .ref a2_104, .ref a3_105, .int 0])), (q106, .inl (G.2 5, 3, .inr (.inr (.inr (.inr (va_up (fun _ => none) 0 (some q108))))))), (q107, .inl (G.2 2, 3, .inl (fun _ => 0))), (q108, .inr (6, [.ref a1_109, .ref a2_110, .ref a3_111, .ref a4_112, .int 0, .int 0, .int 0])), (a1_109, .inl (G.2 0, 7, .inl (fun _ => 0))), (a2_110, .inl (G.2 0, 6, .inl (fun _ => 0))), (a3_111, .inl (G.2 0, 7, .inl (fun _ => 0))), (a4_112, .inl (G.2 0, 42, .inl (fun _ => 0))), (q113, .inr (6, [.ref a1_114, .ref a2_115, .ref a3_116, .ref a4_117, .int 0, .int 0, .int 0])), (a1_114, .inl (G.2 0, 7, .inl (fun _ => 0))), (a2_115, .inl (G.2 0, 6, .inl (fun _ => 0))), (a3_116, .inl (G.2 0, 7, .inl (fun _ => 0))), (a4_117, .inl (G.2 0, 42, .inl (fun _ => 0)))] H _ := hw
  refine W.eq (g2 := F0 m 156 ls [.ref q113, .int 1, .ref q106]) rfl ?_
  refine zz_astS (ws' := [(h0, .inr (9, [.ref q1, .int 0, .ref q2, .int (-1), .ref q9, .ref q43, .ref q77, .ref q82, .ref q87, .ref q90, .ref q94, .ref q102, .ref q106, .ref q107])), (q1, .inl (G.2 1, 2000, .inl (fun _ => 0))), (q2, .inr (4, [.ref b1_3, .ref b2_4, .int 0, .int 0, .int 0, .int (-1), .int 0, .int (-1)])), (b1_3, .inr (7, [.ref a1_5, .ref a2_6, .ref a3_7, .ref a4_8])), (a1_5, .inl (G.2 0, 401, .inl (fun _ => 0))), (a2_6, .inl (G.2 0, 401, .inl (fun _ => 0))), (a3_7, .inl (G.2 0, 401, .inl (fun _ => 0))), (a4_8, .inl (G.2 3, 401, .inr (.inl (fun _ => 0)))), (q9, .inr (5, [.ref s1_10, .ref s2_11, .ref s3_12, .ref s4_13, .ref s5_14, .ref s6_15, .ref s7_16, .ref s8_17, .ref s9_18, .int 0, .int 0, .int 1, .int 0])), (q43, .inr (5, [.ref s1_44, .ref s2_45, .ref s3_46, .ref s4_47, .ref s5_48, .ref s6_49, .ref s7_50, .ref s8_51, .ref s9_52, .int 0, .int 0, .int 1, .int 0])), (s2_45, .inl (G.2 0, 7, .inl (fun _ => 0))), (s5_48, .inl (G.2 0, 6, .inl (fun _ => 0))), (s8_51, .inl (G.2 4, 4, .inr (.inr (.inr (.inr (va_up (va_up (va_up (va_up (fun _ => none) 0 (some w0_53)) 1 (some w1_54)) 2 (some w2_55)) 3 (some w3_56))))))), (w0_53, .inr (2, [.ref x0_57, .ref x1_58, .ref x2_59, .int 1, .int 7])), (x0_57, .inl (G.2 0, 400, .inl ff0_69)), (x1_58, .inl (G.2 0, 14, .inl gg0_70)), (w1_54, .inr (2, [.ref x3_60, .ref x4_61, .ref x5_62, .int 1, .int 1])), (x3_60, .inl (G.2 0, 400, .inl ff1_71)), (x4_61, .inl (G.2 0, 14, .inl gg1_72)), (w2_55, .inr (2, [.ref x6_63, .ref x7_64, .ref x8_65, .int 1, .int 1])), (x6_63, .inl (G.2 0, 400, .inl ff2_73)), (x7_64, .inl (G.2 0, 14, .inl gg2_74)), (w3_56, .inr (2, [.ref x9_66, .ref x10_67, .ref x11_68, .int 1, .int 1])), (x9_66, .inl (G.2 0, 400, .inl ff3_75)), (x10_67, .inl (G.2 0, 14, .inl gg3_76)), (q77, .inr (6, [.ref a1_78, .ref a2_79, .ref a3_80, .ref a4_81, .int 0, .int 0, .int 0])), (a1_78, .inl (G.2 0, 7, .inl (fun _ => 0))), (a2_79, .inl (G.2 0, 6, .inl (fun _ => 0))), (a3_80, .inl (G.2 0, 7, .inl (fun _ => 0))), (a4_81, .inl (G.2 0, 42, .inl (fun _ => 0))), (q82, .inr (6, [.ref a1_83, .ref a2_84, .ref a3_85, .ref a4_86, .int 0, .int 0, .int 0])), (a1_83, .inl (G.2 0, 7, .inl (fun _ => 0))), (a2_84, .inl (G.2 0, 6, .inl (fun _ => 0))), (a3_85, .inl (G.2 0, 7, .inl (fun _ => 0))), (a4_86, .inl (G.2 0, 42, .inl (fun _ => 0))), (q87, .inr (0, [.ref a1_88, .ref a2_89, .int 0, .int 0])), (a2_89, .inl (G.2 0, 7, .inl (fun _ => 0))), (q90, .inr (1, [.ref a1_91, .ref a2_92, .ref a3_93, .int 0, .int 0])), (a2_92, .inl (G.2 0, 128, .inl (fun _ => 0))), (a3_93, .inl (G.2 0, 896, .inl (fun _ => 0))), (q94, .inr (3, [.ref b1_95, .int 0, .int 0])), (b1_95, .inl (G.2 5, 40, .inr (.inr (.inr (.inr ff_101))))), (b2_96, .inr (6, [.ref a1_97, .ref a2_98, .ref a3_99, .ref a4_100, .int 0, .int 0, .int 0])), (a1_97, .inl (G.2 0, 7, .inl (fun _ => 0))), (a2_98, .inl (G.2 0, 6, .inl (fun _ => 0))), (a3_99, .inl (G.2 0, 7, .inl (fun _ => 0))), (a4_100, .inl (G.2 0, 42, .inl (fun _ => 0))), (q102, .inr (8, [.ref a1_103, .ref a2_104, .ref a3_105, .int 0])), (q106, .inl (G.2 5, 3, .inr (.inr (.inr (.inr (va_up (va_up (fun _ => none) 0 (some q108)) 1 (some q113))))))), (q107, .inl (G.2 2, 3, .inl (fun _ => 0))), (q108, .inr (6, [.ref a1_109, .ref a2_110, .ref a3_111, .ref a4_112, .int 0, .int 0, .int 0])), (a1_109, .inl (G.2 0, 7, .inl (fun _ => 0))), (a2_110, .inl (G.2 0, 6, .inl (fun _ => 0))), (a3_111, .inl (G.2 0, 7, .inl (fun _ => 0))), (a4_112, .inl (G.2 0, 42, .inl (fun _ => 0))), (q113, .inr (6, [.ref a1_114, .ref a2_115, .ref a3_116, .ref a4_117, .int 0, .int 0, .int 0])), (a1_114, .inl (G.2 0, 7, .inl (fun _ => 0))), (a2_115, .inl (G.2 0, 6, .inl (fun _ => 0))), (a3_116, .inl (G.2 0, 7, .inl (fun _ => 0))), (a4_117, .inl (G.2 0, 42, .inl (fun _ => 0)))]) (g := (va_up (va_up (fun _ => none) 0 (some q108)) 1 (some q113))) S hw 48 55 rfl rfl (vp_in_nI (n := 1) (by decide) (by decide)) (zz_vun (n := 1) (by decide)) rfl dX9_init_156 (fun H locs hw => ?_)
  refine lv_iinc (v := 2) (lv' := [(1, .int 2), (0, .ref h0)]) hx hb dX9_init_157 hl (k := 0) rfl (by decide) (by decide) rfl (fun ls hl => ?_)
  refine lv_goto (tgt := 139) hx hb dX9_init_160 (by decide) ?_
  refine lv_iload_n hx hb dX9_init_139 rfl (lv_at hl 0 rfl) ?_
  refine lv_iconst (v := 3) hx hb dX9_init_140 (by decide) ?_
  refine lv_icmp_ge (tgt := 163) hx hb dX9_init_141 (by decide) (fun cc => absurd cc (by decide)) (fun _ => ?_)
  refine lv_aload_n hx hb dX9_init_144 rfl (lv_at hl 1 rfl) ?_
  refine zz_get (v := .ref q106) S hw fgX9_75 0 rfl rfl dX9_init_145 ?_
  refine lv_iload_n hx hb dX9_init_148 rfl (lv_at hl 0 rfl) ?_
  refine zz_new (fs := zz_dX6) S hw kX6 tyX6 tyX6_ok (zz_c1 202 rfl rfl) (zz_c1 203 rfl rfl) (zz_c1 6 rfl rfl) dfX6 (Nat.le_of_ble_eq_true rfl) (Nat.le_of_ble_eq_true rfl) dX9_init_149 (fun q118 H hw => ?_)
  have hw : zz_w G A s [(h0, .inr (9, [.ref q1, .int 0, .ref q2, .int (-1), .ref q9, .ref q43, .ref q77, .ref q82, .ref q87, .ref q90, .ref q94, .ref q102, .ref q106, .ref q107])), (q1, .inl (G.2 1, 2000, .inl (fun _ => 0))), (q2, .inr (4, [.ref b1_3, .ref b2_4, .int 0, .int 0, .int 0, .int (-1), .int 0, .int (-1)])), (b1_3, .inr (7, [.ref a1_5, .ref a2_6, .ref a3_7, .ref a4_8])), (a1_5, .inl (G.2 0, 401, .inl (fun _ => 0))), (a2_6, .inl (G.2 0, 401, .inl (fun _ => 0))), (a3_7, .inl (G.2 0, 401, .inl (fun _ => 0))), (a4_8, .inl (G.2 3, 401, .inr (.inl (fun _ => 0)))), (q9, .inr (5, [.ref s1_10, .ref s2_11, .ref s3_12, .ref s4_13, .ref s5_14, .ref s6_15, .ref s7_16, .ref s8_17, .ref s9_18, .int 0, .int 0, .int 1, .int 0])), (q43, .inr (5, [.ref s1_44, .ref s2_45, .ref s3_46, .ref s4_47, .ref s5_48, .ref s6_49, .ref s7_50, .ref s8_51, .ref s9_52, .int 0, .int 0, .int 1, .int 0])), (s2_45, .inl (G.2 0, 7, .inl (fun _ => 0))), (s5_48, .inl (G.2 0, 6, .inl (fun _ => 0))), (s8_51, .inl (G.2 4, 4, .inr (.inr (.inr (.inr (va_up (va_up (va_up (va_up (fun _ => none) 0 (some w0_53)) 1 (some w1_54)) 2 (some w2_55)) 3 (some w3_56))))))), (w0_53, .inr (2, [.ref x0_57, .ref x1_58, .ref x2_59, .int 1, .int 7])), (x0_57, .inl (G.2 0, 400, .inl ff0_69)), (x1_58, .inl (G.2 0, 14, .inl gg0_70)), (w1_54, .inr (2, [.ref x3_60, .ref x4_61, .ref x5_62, .int 1, .int 1])), (x3_60, .inl (G.2 0, 400, .inl ff1_71)), (x4_61, .inl (G.2 0, 14, .inl gg1_72)), (w2_55, .inr (2, [.ref x6_63, .ref x7_64, .ref x8_65, .int 1, .int 1])), (x6_63, .inl (G.2 0, 400, .inl ff2_73)), (x7_64, .inl (G.2 0, 14, .inl gg2_74)), (w3_56, .inr (2, [.ref x9_66, .ref x10_67, .ref x11_68, .int 1, .int 1])), (x9_66, .inl (G.2 0, 400, .inl ff3_75)), (x10_67, .inl (G.2 0, 14, .inl gg3_76)), (q77, .inr (6, [.ref a1_78, .ref a2_79, .ref a3_80, .ref a4_81, .int 0, .int 0, .int 0])), (a1_78, .inl (G.2 0, 7, .inl (fun _ => 0))), (a2_79, .inl (G.2 0, 6, .inl (fun _ => 0))), (a3_80, .inl (G.2 0, 7, .inl (fun _ => 0))), (a4_81, .inl (G.2 0, 42, .inl (fun _ => 0))), (q82, .inr (6, [.ref a1_83, .ref a2_84, .ref a3_85, .ref a4_86, .int 0, .int 0, .int 0])), (a1_83, .inl (G.2 0, 7, .inl (fun _ => 0))), (a2_84, .inl (G.2 0, 6, .inl (fun _ => 0))), (a3_85, .inl (G.2 0, 7, .inl (fun _ => 0))), (a4_86, .inl (G.2 0, 42, .inl (fun _ => 0))), (q87, .inr (0, [.ref a1_88, .ref a2_89, .int 0, .int 0])), (a2_89, .inl (G.2 0, 7, .inl (fun _ => 0))), (q90, .inr (1, [.ref a1_91, .ref a2_92, .ref a3_93, .int 0, .int 0])), (a2_92, .inl (G.2 0, 128, .inl (fun _ => 0))), (a3_93, .inl (G.2 0, 896, .inl (fun _ => 0))), (q94, .inr (3, [.ref b1_95, .int 0, .int 0])), (b1_95, .inl (G.2 5, 40, .inr (.inr (.inr (.inr ff_101))))), (b2_96, .inr (6, [.ref a1_97, .ref a2_98, .ref a3_99, .ref a4_100, .int 0, .int 0, .int 0])), (a1_97, .inl (G.2 0, 7, .inl (fun _ => 0))), (a2_98, .inl (G.2 0, 6, .inl (fun _ => 0))), (a3_99, .inl (G.2 0, 7, .inl (fun _ => 0))), (a4_100, .inl (G.2 0, 42, .inl (fun _ => 0))), (q102, .inr (8, [.ref a1_103, .ref a2_104, .ref a3_105, .int 0])), (q106, .inl (G.2 5, 3, .inr (.inr (.inr (.inr (va_up (va_up (fun _ => none) 0 (some q108)) 1 (some q113))))))), (q107, .inl (G.2 2, 3, .inl (fun _ => 0))), (q108, .inr (6, [.ref a1_109, .ref a2_110, .ref a3_111, .ref a4_112, .int 0, .int 0, .int 0])), (a1_109, .inl (G.2 0, 7, .inl (fun _ => 0))), (a2_110, .inl (G.2 0, 6, .inl (fun _ => 0))), (a3_111, .inl (G.2 0, 7, .inl (fun _ => 0))), (a4_112, .inl (G.2 0, 42, .inl (fun _ => 0))), (q113, .inr (6, [.ref a1_114, .ref a2_115, .ref a3_116, .ref a4_117, .int 0, .int 0, .int 0])), (a1_114, .inl (G.2 0, 7, .inl (fun _ => 0))), (a2_115, .inl (G.2 0, 6, .inl (fun _ => 0))), (a3_116, .inl (G.2 0, 7, .inl (fun _ => 0))), (a4_117, .inl (G.2 0, 42, .inl (fun _ => 0))), (q118, .inr (6, [.null, .null, .null, .null, .int 0, .int 0, .int 0]))] H _ := hw
  refine lv_dup hx hb dX9_init_152 rfl ?_
  refine zz_callI (As := []) (rest := [.ref q118, .int 2, .ref q106]) (wr := [(h0, .inr (9, [.ref q1, .int 0, .ref q2, .int (-1), .ref q9, .ref q43, .ref q77, .ref q82, .ref q87, .ref q90, .ref q94, .ref q102, .ref q106, .ref q107])), (q1, .inl (G.2 1, 2000, .inl (fun _ => 0))), (q2, .inr (4, [.ref b1_3, .ref b2_4, .int 0, .int 0, .int 0, .int (-1), .int 0, .int (-1)])), (b1_3, .inr (7, [.ref a1_5, .ref a2_6, .ref a3_7, .ref a4_8])), (a1_5, .inl (G.2 0, 401, .inl (fun _ => 0))), (a2_6, .inl (G.2 0, 401, .inl (fun _ => 0))), (a3_7, .inl (G.2 0, 401, .inl (fun _ => 0))), (a4_8, .inl (G.2 3, 401, .inr (.inl (fun _ => 0)))), (q9, .inr (5, [.ref s1_10, .ref s2_11, .ref s3_12, .ref s4_13, .ref s5_14, .ref s6_15, .ref s7_16, .ref s8_17, .ref s9_18, .int 0, .int 0, .int 1, .int 0])), (q43, .inr (5, [.ref s1_44, .ref s2_45, .ref s3_46, .ref s4_47, .ref s5_48, .ref s6_49, .ref s7_50, .ref s8_51, .ref s9_52, .int 0, .int 0, .int 1, .int 0])), (s2_45, .inl (G.2 0, 7, .inl (fun _ => 0))), (s5_48, .inl (G.2 0, 6, .inl (fun _ => 0))), (s8_51, .inl (G.2 4, 4, .inr (.inr (.inr (.inr (va_up (va_up (va_up (va_up (fun _ => none) 0 (some w0_53)) 1 (some w1_54)) 2 (some w2_55)) 3 (some w3_56))))))), (w0_53, .inr (2, [.ref x0_57, .ref x1_58, .ref x2_59, .int 1, .int 7])), (x0_57, .inl (G.2 0, 400, .inl ff0_69)), (x1_58, .inl (G.2 0, 14, .inl gg0_70)), (w1_54, .inr (2, [.ref x3_60, .ref x4_61, .ref x5_62, .int 1, .int 1])), (x3_60, .inl (G.2 0, 400, .inl ff1_71)), (x4_61, .inl (G.2 0, 14, .inl gg1_72)), (w2_55, .inr (2, [.ref x6_63, .ref x7_64, .ref x8_65, .int 1, .int 1])), (x6_63, .inl (G.2 0, 400, .inl ff2_73)), (x7_64, .inl (G.2 0, 14, .inl gg2_74)), (w3_56, .inr (2, [.ref x9_66, .ref x10_67, .ref x11_68, .int 1, .int 1])), (x9_66, .inl (G.2 0, 400, .inl ff3_75)), (x10_67, .inl (G.2 0, 14, .inl gg3_76)), (q77, .inr (6, [.ref a1_78, .ref a2_79, .ref a3_80, .ref a4_81, .int 0, .int 0, .int 0])), (a1_78, .inl (G.2 0, 7, .inl (fun _ => 0))), (a2_79, .inl (G.2 0, 6, .inl (fun _ => 0))), (a3_80, .inl (G.2 0, 7, .inl (fun _ => 0))), (a4_81, .inl (G.2 0, 42, .inl (fun _ => 0))), (q82, .inr (6, [.ref a1_83, .ref a2_84, .ref a3_85, .ref a4_86, .int 0, .int 0, .int 0])), (a1_83, .inl (G.2 0, 7, .inl (fun _ => 0))), (a2_84, .inl (G.2 0, 6, .inl (fun _ => 0))), (a3_85, .inl (G.2 0, 7, .inl (fun _ => 0))), (a4_86, .inl (G.2 0, 42, .inl (fun _ => 0))), (q87, .inr (0, [.ref a1_88, .ref a2_89, .int 0, .int 0])), (a2_89, .inl (G.2 0, 7, .inl (fun _ => 0))), (q90, .inr (1, [.ref a1_91, .ref a2_92, .ref a3_93, .int 0, .int 0])), (a2_92, .inl (G.2 0, 128, .inl (fun _ => 0))), (a3_93, .inl (G.2 0, 896, .inl (fun _ => 0))), (q94, .inr (3, [.ref b1_95, .int 0, .int 0])), (b1_95, .inl (G.2 5, 40, .inr (.inr (.inr (.inr ff_101))))), (b2_96, .inr (6, [.ref a1_97, .ref a2_98, .ref a3_99, .ref a4_100, .int 0, .int 0, .int 0])), (a1_97, .inl (G.2 0, 7, .inl (fun _ => 0))), (a2_98, .inl (G.2 0, 6, .inl (fun _ => 0))), (a3_99, .inl (G.2 0, 7, .inl (fun _ => 0))), (a4_100, .inl (G.2 0, 42, .inl (fun _ => 0))), (q102, .inr (8, [.ref a1_103, .ref a2_104, .ref a3_105, .int 0])), (q106, .inl (G.2 5, 3, .inr (.inr (.inr (.inr (va_up (va_up (fun _ => none) 0 (some q108)) 1 (some q113))))))), (q107, .inl (G.2 2, 3, .inl (fun _ => 0))), (q108, .inr (6, [.ref a1_109, .ref a2_110, .ref a3_111, .ref a4_112, .int 0, .int 0, .int 0])), (a1_109, .inl (G.2 0, 7, .inl (fun _ => 0))), (a2_110, .inl (G.2 0, 6, .inl (fun _ => 0))), (a3_111, .inl (G.2 0, 7, .inl (fun _ => 0))), (a4_112, .inl (G.2 0, 42, .inl (fun _ => 0))), (q113, .inr (6, [.ref a1_114, .ref a2_115, .ref a3_116, .ref a4_117, .int 0, .int 0, .int 0])), (a1_114, .inl (G.2 0, 7, .inl (fun _ => 0))), (a2_115, .inl (G.2 0, 6, .inl (fun _ => 0))), (a3_116, .inl (G.2 0, 7, .inl (fun _ => 0))), (a4_117, .inl (G.2 0, 42, .inl (fun _ => 0)))]) S hw hl.1 lX9_39 (c_State_init l G q118) ⟨Nat.le_of_ble_eq_true rfl, Nat.le_of_ble_eq_true rfl⟩ ⟨Nat.le_of_ble_eq_true rfl, Nat.le_of_ble_eq_true rfl⟩ [60] [0, 1, 2, 3, 4, 5, 6, 7, 8, 9, 10, 11, 12, 13, 14, 15, 16, 17, 18, 19, 20, 21, 22, 23, 24, 25, 26, 27, 28, 29, 30, 31, 32, 33, 34, 35, 36, 37, 38, 39, 40, 41, 42, 43, 44, 45, 46, 47, 48, 49, 50, 51, 52, 53, 54, 55, 56, 57, 58, 59] (by decide) rfl rfl (by decide) (by decide) rfl rfl (Nat.le_of_ble_eq_true rfl) dX9_init_153 (fun rr u H locs hp hw => ?_)
  obtain ⟨a1_119, a2_120, a3_121, a4_122, rfl, rfl⟩ := hp
  have hw : zz_w G A s [(h0, .inr (9, [.ref q1, .int 0, .ref q2, .int (-1), .ref q9, .ref q43, .ref q77, .ref q82, .ref q87, .ref q90, .ref q94, .ref q102, .ref q106, .ref q107])), (q1, .inl (G.2 1, 2000, .inl (fun _ => 0))), (q2, .inr (4, [.ref b1_3, .ref b2_4, .int 0, .int 0, .int 0, .int (-1), .int 0, .int (-1)])), (b1_3, .inr (7, [.ref a1_5, .ref a2_6, .ref a3_7, .ref a4_8])), (a1_5, .inl (G.2 0, 401, .inl (fun _ => 0))), (a2_6, .inl (G.2 0, 401, .inl (fun _ => 0))), (a3_7, .inl (G.2 0, 401, .inl (fun _ => 0))), (a4_8, .inl (G.2 3, 401, .inr (.inl (fun _ => 0)))), (q9, .inr (5, [.ref s1_10, .ref s2_11, .ref s3_12, .ref s4_13, .ref s5_14, .ref s6_15, .ref s7_16, .ref s8_17, .ref s9_18, .int 0, .int 0, .int 1, .int 0])), (q43, .inr (5, [.ref s1_44, .ref s2_45, .ref s3_46, .ref s4_47, .ref s5_48, .ref s6_49, .ref s7_50, .ref s8_51, .ref s9_52, .int 0, .int 0, .int 1, .int 0])), (s2_45, .inl (G.2 0, 7, .inl (fun _ => 0))), (s5_48, .inl (G.2 0, 6, .inl (fun _ => 0))), (s8_51, .inl (G.2 4, 4, .inr (.inr (.inr (.inr (va_up (va_up (va_up (va_up (fun _ => none) 0 (some w0_53)) 1 (some w1_54)) 2 (some w2_55)) 3 (some w3_56))))))), (w0_53, .inr (2, [.ref x0_57, .ref x1_58, .ref x2_59, .int 1, .int 7])), (x0_57, .inl (G.2 0, 400, .inl ff0_69)), (x1_58, .inl (G.2 0, 14, .inl gg0_70)), (w1_54, .inr (2, [.ref x3_60, .ref x4_61, .ref x5_62, .int 1, .int 1])), (x3_60, .inl (G.2 0, 400, .inl ff1_71)), (x4_61, .inl (G.2 0, 14, .inl gg1_72)), (w2_55, .inr (2, [.ref x6_63, .ref x7_64, .ref x8_65, .int 1, .int 1])), (x6_63, .inl (G.2 0, 400, .inl ff2_73)), (x7_64, .inl (G.2 0, 14, .inl gg2_74)), (w3_56, .inr (2, [.ref x9_66, .ref x10_67, .ref x11_68, .int 1, .int 1])), (x9_66, .inl (G.2 0, 400, .inl ff3_75)), (x10_67, .inl (G.2 0, 14, .inl gg3_76)), (q77, .inr (6, [.ref a1_78, .ref a2_79, .ref a3_80, .ref a4_81, .int 0, .int 0, .int 0])), (a1_78, .inl (G.2 0, 7, .inl (fun _ => 0))), (a2_79, .inl (G.2 0, 6, .inl (fun _ => 0))), (a3_80, .inl (G.2 0, 7, .inl (fun _ => 0))), (a4_81, .inl (G.2 0, 42, .inl (fun _ => 0))), (q82, .inr (6, [.ref a1_83, .ref a2_84, .ref a3_85, .ref a4_86, .int 0, .int 0, .int 0])), (a1_83, .inl (G.2 0, 7, .inl (fun _ => 0))), (a2_84, .inl (G.2 0, 6, .inl (fun _ => 0))), (a3_85, .inl (G.2 0, 7, .inl (fun _ => 0))), (a4_86, .inl (G.2 0, 42, .inl (fun _ => 0))), (q87, .inr (0, [.ref a1_88, .ref a2_89, .int 0, .int 0])), (a2_89, .inl (G.2 0, 7, .inl (fun _ => 0))), (q90, .inr (1, [.ref a1_91, .ref a2_92, .ref a3_93, .int 0, .int 0])), (a2_92, .inl (G.2 0, 128, .inl (fun _ => 0))), (a3_93, .inl (G.2 0, 896, .inl (fun _ => 0))), (q94, .inr (3, [.ref b1_95, .int 0, .int 0])), (b1_95, .inl (G.2 5, 40, .inr (.inr (.inr (.inr ff_101))))), (b2_96, .inr (6, [.ref a1_97, .ref a2_98, .ref a3_99, .ref a4_100, .int 0, .int 0, .int 0])), (a1_97, .inl (G.2 0, 7, .inl (fun _ => 0))), (a2_98, .inl (G.2 0, 6, .inl (fun _ => 0))), (a3_99, .inl (G.2 0, 7, .inl (fun _ => 0))), (a4_100, .inl (G.2 0, 42, .inl (fun _ => 0))), (q102, .inr (8, [.ref a1_103, .ref a2_104, .ref a3_105, .int 0])), (q106, .inl (G.2 5, 3, .inr (.inr (.inr (.inr (va_up (va_up (fun _ => none) 0 (some q108)) 1 (some q113))))))), (q107, .inl (G.2 2, 3, .inl (fun _ => 0))), (q108, .inr (6, [.ref a1_109, .ref a2_110, .ref a3_111, .ref a4_112, .int 0, .int 0, .int 0])), (a1_109, .inl (G.2 0, 7, .inl (fun _ => 0))), (a2_110, .inl (G.2 0, 6, .inl (fun _ => 0))), (a3_111, .inl (G.2 0, 7, .inl (fun _ => 0))), (a4_112, .inl (G.2 0, 42, .inl (fun _ => 0))), (q113, .inr (6, [.ref a1_114, .ref a2_115, .ref a3_116, .ref a4_117, .int 0, .int 0, .int 0])), (a1_114, .inl (G.2 0, 7, .inl (fun _ => 0))), (a2_115, .inl (G.2 0, 6, .inl (fun _ => 0))), (a3_116, .inl (G.2 0, 7, .inl (fun _ => 0))), (a4_117, .inl (G.2 0, 42, .inl (fun _ => 0))), (q118, .inr (6, [.ref a1_119, .ref a2_120, .ref a3_121, .ref a4_122, .int 0, .int 0, .int 0])), (a1_119, .inl (G.2 0, 7, .inl (fun _ => 0))), (a2_120, .inl (G.2 0, 6, .inl (fun _ => 0))), (a3_121, .inl (G.2 0, 7, .inl (fun _ => 0))), (a4_122, .inl (G.2 0, 42, .inl (fun _ => 0)))] H _ := hw
  refine W.eq (g2 := F0 m 156 ls [.ref q118, .int 2, .ref q106]) rfl ?_
  refine zz_astS (ws' := [(h0, .inr (9, [.ref q1, .int 0, .ref q2, .int (-1), .ref q9, .ref q43, .ref q77, .ref q82, .ref q87, .ref q90, .ref q94, .ref q102, .ref q106, .ref q107])), (q1, .inl (G.2 1, 2000, .inl (fun _ => 0))), (q2, .inr (4, [.ref b1_3, .ref b2_4, .int 0, .int 0, .int 0, .int (-1), .int 0, .int (-1)])), (b1_3, .inr (7, [.ref a1_5, .ref a2_6, .ref a3_7, .ref a4_8])), (a1_5, .inl (G.2 0, 401, .inl (fun _ => 0))), (a2_6, .inl (G.2 0, 401, .inl (fun _ => 0))), (a3_7, .inl (G.2 0, 401, .inl (fun _ => 0))), (a4_8, .inl (G.2 3, 401, .inr (.inl (fun _ => 0)))), (q9, .inr (5, [.ref s1_10, .ref s2_11, .ref s3_12, .ref s4_13, .ref s5_14, .ref s6_15, .ref s7_16, .ref s8_17, .ref s9_18, .int 0, .int 0, .int 1, .int 0])), (q43, .inr (5, [.ref s1_44, .ref s2_45, .ref s3_46, .ref s4_47, .ref s5_48, .ref s6_49, .ref s7_50, .ref s8_51, .ref s9_52, .int 0, .int 0, .int 1, .int 0])), (s2_45, .inl (G.2 0, 7, .inl (fun _ => 0))), (s5_48, .inl (G.2 0, 6, .inl (fun _ => 0))), (s8_51, .inl (G.2 4, 4, .inr (.inr (.inr (.inr (va_up (va_up (va_up (va_up (fun _ => none) 0 (some w0_53)) 1 (some w1_54)) 2 (some w2_55)) 3 (some w3_56))))))), (w0_53, .inr (2, [.ref x0_57, .ref x1_58, .ref x2_59, .int 1, .int 7])), (x0_57, .inl (G.2 0, 400, .inl ff0_69)), (x1_58, .inl (G.2 0, 14, .inl gg0_70)), (w1_54, .inr (2, [.ref x3_60, .ref x4_61, .ref x5_62, .int 1, .int 1])), (x3_60, .inl (G.2 0, 400, .inl ff1_71)), (x4_61, .inl (G.2 0, 14, .inl gg1_72)), (w2_55, .inr (2, [.ref x6_63, .ref x7_64, .ref x8_65, .int 1, .int 1])), (x6_63, .inl (G.2 0, 400, .inl ff2_73)), (x7_64, .inl (G.2 0, 14, .inl gg2_74)), (w3_56, .inr (2, [.ref x9_66, .ref x10_67, .ref x11_68, .int 1, .int 1])), (x9_66, .inl (G.2 0, 400, .inl ff3_75)), (x10_67, .inl (G.2 0, 14, .inl gg3_76)), (q77, .inr (6, [.ref a1_78, .ref a2_79, .ref a3_80, .ref a4_81, .int 0, .int 0, .int 0])), (a1_78, .inl (G.2 0, 7, .inl (fun _ => 0))), (a2_79, .inl (G.2 0, 6, .inl (fun _ => 0))), (a3_80, .inl (G.2 0, 7, .inl (fun _ => 0))), (a4_81, .inl (G.2 0, 42, .inl (fun _ => 0))), (q82, .inr (6, [.ref a1_83, .ref a2_84, .ref a3_85, .ref a4_86, .int 0, .int 0, .int 0])), (a1_83, .inl (G.2 0, 7, .inl (fun _ => 0))), (a2_84, .inl (G.2 0, 6, .inl (fun _ => 0))), (a3_85, .inl (G.2 0, 7, .inl (fun _ => 0))), (a4_86, .inl (G.2 0, 42, .inl (fun _ => 0))), (q87, .inr (0, [.ref a1_88, .ref a2_89, .int 0, .int 0])), (a2_89, .inl (G.2 0, 7, .inl (fun _ => 0))), (q90, .inr (1, [.ref a1_91, .ref a2_92, .ref a3_93, .int 0, .int 0])), (a2_92, .inl (G.2 0, 128, .inl (fun _ => 0))), (a3_93, .inl (G.2 0, 896, .inl (fun _ => 0))), (q94, .inr (3, [.ref b1_95, .int 0, .int 0])), (b1_95, .inl (G.2 5, 40, .inr (.inr (.inr (.inr ff_101))))), (b2_96, .inr (6, [.ref a1_97, .ref a2_98, .ref a3_99, .ref a4_100, .int 0, .int 0, .int 0])), (a1_97, .inl (G.2 0, 7, .inl (fun _ => 0))), (a2_98, .inl (G.2 0, 6, .inl (fun _ => 0))), (a3_99, .inl (G.2 0, 7, .inl (fun _ => 0))), (a4_100, .inl (G.2 0, 42, .inl (fun _ => 0))), (q102, .inr (8, [.ref a1_103, .ref a2_104, .ref a3_105, .int 0])), (q106, .inl (G.2 5, 3, .inr (.inr (.inr (.inr (va_up (va_up (va_up (fun _ => none) 0 (some q108)) 1 (some q113)) 2 (some q118))))))), (q107, .inl (G.2 2, 3, .inl (fun _ => 0))), (q108, .inr (6, [.ref a1_109, .ref a2_110, .ref a3_111, .ref a4_112, .int 0, .int 0, .int 0])), (a1_109, .inl (G.2 0, 7, .inl (fun _ => 0))), (a2_110, .inl (G.2 0, 6, .inl (fun _ => 0))), (a3_111, .inl (G.2 0, 7, .inl (fun _ => 0))), (a4_112, .inl (G.2 0, 42, .inl (fun _ => 0))), (q113, .inr (6, [.ref a1_114, .ref a2_115, .ref a3_116, .ref a4_117, .int 0, .int 0, .int 0])), (a1_114, .inl (G.2 0, 7, .inl (fun _ => 0))), (a2_115, .inl (G.2 0, 6, .inl (fun _ => 0))), (a3_116, .inl (G.2 0, 7, .inl (fun _ => 0))), (a4_117, .inl (G.2 0, 42, .inl (fun _ => 0))), (q118, .inr (6, [.ref a1_119, .ref a2_120, .ref a3_121, .ref a4_122, .int 0, .int 0, .int 0])), (a1_119, .inl (G.2 0, 7, .inl (fun _ => 0))), (a2_120, .inl (G.2 0, 6, .inl (fun _ => 0))), (a3_121, .inl (G.2 0, 7, .inl (fun _ => 0))), (a4_122, .inl (G.2 0, 42, .inl (fun _ => 0)))]) (g := (va_up (va_up (va_up (fun _ => none) 0 (some q108)) 1 (some q113)) 2 (some q118))) S hw 48 60 rfl rfl (vp_in_nI (n := 2) (by decide) (by decide)) (zz_vun (n := 2) (by decide)) rfl dX9_init_156 (fun H locs hw => ?_)
  refine lv_iinc (v := 3) (lv' := [(1, .int 3), (0, .ref h0)]) hx hb dX9_init_157 hl (k := 0) rfl (by decide) (by decide) rfl (fun ls hl => ?_)
  refine lv_goto (tgt := 139) hx hb dX9_init_160 (by decide) ?_
  refine lv_iload_n hx hb dX9_init_139 rfl (lv_at hl 0 rfl) ?_
  refine lv_iconst (v := 3) hx hb dX9_init_140 (by decide) ?_
  refine lv_icmp_ge (tgt := 163) hx hb dX9_init_141 (by decide) (fun _ => ?_) (fun cc => absurd cc (by decide))
  refine W.widen (k := 300) (n := 11718) (by omega) (by omega) ?_
  exact hret _ _ _ _ _ ⟨(fun k => if k = 0 then h0 else if k = 1 then q1 else if k = 2 then q2 else if k = 3 then b1_3 else if k = 4 then a1_5 else if k = 5 then a2_6 else if k = 6 then a3_7 else if k = 7 then a4_8 else if k = 8 then b2_4 else if k = 10 then q9 else if k = 11 then s1_10 else if k = 12 then s2_11 else if k = 13 then s3_12 else if k = 14 then s4_13 else if k = 15 then s5_14 else if k = 16 then s6_15 else if k = 17 then s7_16 else if k = 18 then s8_17 else if k = 19 then s9_18 else if k = 20 then q43 else if k = 21 then s1_44 else if k = 22 then s2_45 else if k = 23 then s3_46 else if k = 24 then s4_47 else if k = 25 then s5_48 else if k = 26 then s6_49 else if k = 27 then s7_50 else if k = 28 then s8_51 else if k = 29 then s9_52 else if k = 30 then w0_53 else if k = 31 then x0_57 else if k = 32 then x1_58 else if k = 33 then x2_59 else if k = 34 then w1_54 else if k = 35 then x3_60 else if k = 36 then x4_61 else if k = 37 then x5_62 else if k = 38 then w2_55 else if k = 39 then x6_63 else if k = 40 then x7_64 else if k = 41 then x8_65 else if k = 42 then w3_56 else if k = 43 then x9_66 else if k = 44 then x10_67 else if k = 45 then x11_68 else if k = 50 then q77 else if k = 51 then a1_78 else if k = 52 then a2_79 else if k = 53 then a3_80 else if k = 54 then a4_81 else if k = 55 then q82 else if k = 56 then a1_83 else if k = 57 then a2_84 else if k = 58 then a3_85 else if k = 59 then a4_86 else if k = 60 then q87 else if k = 61 then a1_88 else if k = 62 then a2_89 else if k = 63 then q90 else if k = 64 then a1_91 else if k = 65 then a2_92 else if k = 66 then a3_93 else if k = 67 then q94 else if k = 68 then b1_95 else if k = 69 then b2_96 else if k = 70 then a1_97 else if k = 71 then a2_98 else if k = 72 then a3_99 else if k = 73 then a4_100 else if k = 74 then q102 else if k = 75 then a1_103 else if k = 76 then a2_104 else if k = 77 then a3_105 else if k = 78 then q106 else if k = 80 then q108 else if k = 81 then a1_109 else if k = 82 then a2_110 else if k = 83 then a3_111 else if k = 84 then a4_112 else if k = 85 then q113 else if k = 86 then a1_114 else if k = 87 then a2_115 else if k = 88 then a3_116 else if k = 89 then a4_117 else if k = 90 then q118 else if k = 91 then a1_119 else if k = 92 then a2_120 else if k = 93 then a3_121 else if k = 94 then a4_122 else if k = 95 then q107 else  0), ff0_69, gg0_70, ff1_71, gg1_72, ff2_73, gg2_74, ff3_75, gg3_76, ff_101, rfl, rfl, rfl, hq105_0⟩ (hw.sub [0, 1, 2, 3, 4, 5, 6, 7, 8, 9, 10, 11, 12, 13, 14, 15, 16, 17, 18, 19, 20, 21, 22, 23, 24, 25, 26, 27, 28, 29, 30, 31, 32, 33, 34, 35, 36, 37, 38, 39, 40, 41, 42, 43, 44, 45, 46, 47, 48, 50, 51, 52, 53, 54, 55, 56, 57, 58, 59, 60, 61, 62, 63, 64, 49] (by decide) rfl) dX9_init_163
end
section
theorem zz_tri (n : Int32) : n < 0 ∨ n = 0 ∨ 0 < n := by
  by_cases h : n < 0
  · exact Or.inl h
  · by_cases h2 : 0 < n
    · exact Or.inr (Or.inr h2)
    · have h3 := Int32.not_lt.mp h
      have h4 := Int32.not_lt.mp h2
      have q3 := Int32.le_iff_toInt_le.mp h3
      have q4 := Int32.le_iff_toInt_le.mp h4
      exact Or.inr (Or.inl (Int32.toInt_inj.mp (Int.le_antisymm q4 q3)))
theorem zz_ti {x y : Int32} (h : x < y) : x.toInt < y.toInt := Int32.lt_iff_toInt_lt.mp h
/-- what lies outside lo..hi isn't equal to a number in it -/
theorem zz_outne {x lo hi k : Int32} (h : x < lo ∨ hi < x) (h1 : ¬ k < lo) (h2 : ¬ hi < k) : ¬ x = k := by
  rintro rfl
  exact h.elim h1 h2
theorem dX9_putFourBytes_0 : decode cX9_putFourBytes 0 = .ok (.bipush 24, 2) := by decide +kernel
theorem dX9_putFourBytes_2 : decode cX9_putFourBytes 2 = .ok (.istore_n 2, 1) := by decide +kernel
theorem dX9_putFourBytes_3 : decode cX9_putFourBytes 3 = .ok (.iload_n 2, 1) := by decide +kernel
theorem dX9_putFourBytes_4 : decode cX9_putFourBytes 4 = .ok (.ifCond .lt 42, 3) := by decide +kernel
theorem dX9_putFourBytes_7 : decode cX9_putFourBytes 7 = .ok (.aload_n 0, 1) := by decide +kernel
theorem dX9_putFourBytes_8 : decode cX9_putFourBytes 8 = .ok (.getfield 13, 3) := by decide +kernel
theorem dX9_putFourBytes_11 : decode cX9_putFourBytes 11 = .ok (.sipush 2000, 3) := by decide +kernel
theorem dX9_putFourBytes_14 : decode cX9_putFourBytes 14 = .ok (.if_icmp .ge 32, 3) := by decide +kernel
theorem dX9_putFourBytes_17 : decode cX9_putFourBytes 17 = .ok (.aload_n 0, 1) := by decide +kernel
theorem dX9_putFourBytes_18 : decode cX9_putFourBytes 18 = .ok (.getfield 9, 3) := by decide +kernel
theorem dX9_putFourBytes_21 : decode cX9_putFourBytes 21 = .ok (.aload_n 0, 1) := by decide +kernel
theorem dX9_putFourBytes_22 : decode cX9_putFourBytes 22 = .ok (.getfield 13, 3) := by decide +kernel
theorem dX9_putFourBytes_25 : decode cX9_putFourBytes 25 = .ok (.iload_n 1, 1) := by decide +kernel
theorem dX9_putFourBytes_26 : decode cX9_putFourBytes 26 = .ok (.iload_n 2, 1) := by decide +kernel
theorem dX9_putFourBytes_27 : decode cX9_putFourBytes 27 = .ok (.iushr, 1) := by decide +kernel
theorem dX9_putFourBytes_28 : decode cX9_putFourBytes 28 = .ok (.i2b, 1) := by decide +kernel
theorem dX9_putFourBytes_29 : decode cX9_putFourBytes 29 = .ok (.bastore, 1) := by decide +kernel
theorem dX9_putFourBytes_30 : decode cX9_putFourBytes 30 = .ok (.aload_n 0, 1) := by decide +kernel
theorem dX9_putFourBytes_31 : decode cX9_putFourBytes 31 = .ok (.dup, 1) := by decide +kernel
theorem dX9_putFourBytes_32 : decode cX9_putFourBytes 32 = .ok (.getfield 13, 3) := by decide +kernel
theorem dX9_putFourBytes_35 : decode cX9_putFourBytes 35 = .ok (.iconst 1, 1) := by decide +kernel
theorem dX9_putFourBytes_36 : decode cX9_putFourBytes 36 = .ok (.iadd, 1) := by decide +kernel
theorem dX9_putFourBytes_37 : decode cX9_putFourBytes 37 = .ok (.putfield 13, 3) := by decide +kernel
theorem dX9_putFourBytes_40 : decode cX9_putFourBytes 40 = .ok (.iinc 2 (-8), 3) := by decide +kernel
theorem dX9_putFourBytes_43 : decode cX9_putFourBytes 43 = .ok (.goto (-40), 3) := by decide +kernel
theorem dX9_putFourBytes_46 : decode cX9_putFourBytes 46 = .ok (.return_, 1) := by decide +kernel
set_option maxHeartbeats 4000000 in
set_option maxRecDepth 100000 in
theorem c_putFourBytes (l : Launch) (G : zz_G) (r : Nat → Nat) (t : Nat) (w : Int32) (f : Nat → Int32) (ht : t + 4 ≤ 2000) : zz_M l G mX9_putFourBytes 0 0 0 [.ref (r 0), .int w] [((r 0), .inr (9, [.ref (r 1), .int (nI t), .ref (r 2), .int (-1), .ref (r 10), .ref (r 20), .ref (r 50), .ref (r 55), .ref (r 60), .ref (r 63), .ref (r 67), .ref (r 74), .ref (r 78), .ref (r 95)])), ((r 1), .inl (G.2 1, 2000, .inl f))] (fun rr u => ∃ (ff : Nat → Int32), rr = none ∧ u = [((r 0), .inr (9, [.ref (r 1), .int (nI (t + 4)), .ref (r 2), .int (-1), .ref (r 10), .ref (r 20), .ref (r 50), .ref (r 55), .ref (r 60), .ref (r 63), .ref (r 67), .ref (r 74), .ref (r 78), .ref (r 95)])), ((r 1), .inl (G.2 1, 2000, .inl ff))]) := by
  refine zz_enterv (by decide +kernel) (Nat.le_of_ble_eq_true rfl) ?_
  intro p e s m args below meth c A Q ls S hnm hret hw hl
  have hl : lv_has ls 3 [(0, .ref (r 0)), (1, .int w)] := hl
  have hx := S.1
  have hb := S.2.1
  refine lv_bipush (v := 24) hx hb dX9_putFourBytes_0 (by decide) ?_
  refine lv_istore_n (lv' := [(2, .int 24), (0, .ref (r 0)), (1, .int w)]) hx hb dX9_putFourBytes_2 rfl hl (by decide) rfl (fun ls hl => ?_)
  refine lv_iload_n hx hb dX9_putFourBytes_3 rfl (lv_at hl 0 rfl) ?_
  refine lv_if_lt (tgt := 46) hx hb dX9_putFourBytes_4 (by decide) (fun cc => absurd cc (by decide)) (fun _ => ?_)
  refine lv_aload_n hx hb dX9_putFourBytes_7 rfl (lv_at hl 1 rfl) ?_
  refine zz_get (v := .int (nI t)) S hw fgX9_13 0 rfl rfl dX9_putFourBytes_8 ?_
  refine lv_sipush (v := 2000) hx hb dX9_putFourBytes_11 (by decide) ?_
  refine lv_icmp_ge (tgt := 46) hx hb dX9_putFourBytes_14 (by decide) (fun cc => absurd ((zz_le (a := 2000) (b := t) rfl rfl (by omega) (by omega)).mp cc) (by omega)) (fun _ => ?_)
  refine lv_aload_n hx hb dX9_putFourBytes_17 rfl (lv_at hl 1 rfl) ?_
  refine zz_get (v := .ref (r 1)) S hw fgX9_9 0 rfl rfl dX9_putFourBytes_18 ?_
  refine lv_aload_n hx hb dX9_putFourBytes_21 rfl (lv_at hl 1 rfl) ?_
  refine zz_get (v := .int (nI t)) S hw fgX9_13 0 rfl rfl dX9_putFourBytes_22 ?_
  refine lv_iload_n hx hb dX9_putFourBytes_25 rfl (lv_at hl 2 rfl) ?_
  refine lv_iload_n hx hb dX9_putFourBytes_26 rfl (lv_at hl 0 rfl) ?_
  obtain ⟨z1, ez1⟩ : ∃ z : Int32, (w.toUInt32 >>> ((24 : Int32).toUInt32 &&& Int32.toUInt32 31)).toInt32 = z := ⟨_, rfl⟩
  refine lv_iushr (v := z1) hx hb dX9_putFourBytes_27 ez1 ?_
  obtain ⟨z2, ez2⟩ : ∃ z : Int32, z1.toInt8.toInt32 = z := ⟨_, rfl⟩
  refine lv_i2b (v := z2) hx hb dX9_putFourBytes_28 ez2 ?_
  obtain ⟨z3, ez3⟩ : ∃ z : Nat → Int32, upd f ((nI t) : Int32).toNatClampNeg (vp_nar .byte z2) = z := ⟨_, rfl⟩
  refine zz_bast (ws' := [((r 0), .inr (9, [.ref (r 1), .int (nI t), .ref (r 2), .int (-1), .ref (r 10), .ref (r 20), .ref (r 50), .ref (r 55), .ref (r 60), .ref (r 63), .ref (r 67), .ref (r 74), .ref (r 78), .ref (r 95)])), ((r 1), .inl (G.2 1, 2000, .inl z3))]) (g := z3) S hw 1 rfl (vp_in_nI (n := t) (by omega) (by decide)) (ez3) rfl dX9_putFourBytes_29 (fun H locs hw => ?_)
  refine lv_aload_n hx hb dX9_putFourBytes_30 rfl (lv_at hl 1 rfl) ?_
  refine lv_dup hx hb dX9_putFourBytes_31 rfl ?_
  refine zz_get (v := .int (nI t)) S hw fgX9_13 0 rfl rfl dX9_putFourBytes_32 ?_
  refine lv_iconst (v := 1) hx hb dX9_putFourBytes_35 (by decide) ?_
  refine lv_iadd hx hb dX9_putFourBytes_36 ?_
  refine zz_topi (y := (nI (t + 1))) (nI_add _ _) ?_
  refine zz_put (ws' := [((r 0), .inr (9, [.ref (r 1), .int (nI (t + 1)), .ref (r 2), .int (-1), .ref (r 10), .ref (r 20), .ref (r 50), .ref (r 55), .ref (r 60), .ref (r 63), .ref (r 67), .ref (r 74), .ref (r 78), .ref (r 95)])), ((r 1), .inl (G.2 1, 2000, .inl z3))]) (v := .int (nI (t + 1))) S hw fpX9_13 0 rfl rfl rfl (Nat.le_of_ble_eq_true rfl) rfl dX9_putFourBytes_37 (fun H locs hw => ?_)
  refine lv_iinc (v := 16) (lv' := [(2, .int 16), (0, .ref (r 0)), (1, .int w)]) hx hb dX9_putFourBytes_40 hl (k := 0) rfl (by decide) (by decide) rfl (fun ls hl => ?_)
  refine lv_goto (tgt := 3) hx hb dX9_putFourBytes_43 (by decide) ?_
  refine lv_iload_n hx hb dX9_putFourBytes_3 rfl (lv_at hl 0 rfl) ?_
  refine lv_if_lt (tgt := 46) hx hb dX9_putFourBytes_4 (by decide) (fun cc => absurd cc (by decide)) (fun _ => ?_)
  refine lv_aload_n hx hb dX9_putFourBytes_7 rfl (lv_at hl 1 rfl) ?_
  refine zz_get (v := .int (nI (t + 1))) S hw fgX9_13 0 rfl rfl dX9_putFourBytes_8 ?_
  refine lv_sipush (v := 2000) hx hb dX9_putFourBytes_11 (by decide) ?_
  refine lv_icmp_ge (tgt := 46) hx hb dX9_putFourBytes_14 (by decide) (fun cc => absurd ((zz_le (a := 2000) (b := (t + 1)) rfl rfl (by omega) (by omega)).mp cc) (by omega)) (fun _ => ?_)
  refine lv_aload_n hx hb dX9_putFourBytes_17 rfl (lv_at hl 1 rfl) ?_
  refine zz_get (v := .ref (r 1)) S hw fgX9_9 0 rfl rfl dX9_putFourBytes_18 ?_
  refine lv_aload_n hx hb dX9_putFourBytes_21 rfl (lv_at hl 1 rfl) ?_
  refine zz_get (v := .int (nI (t + 1))) S hw fgX9_13 0 rfl rfl dX9_putFourBytes_22 ?_
  refine lv_iload_n hx hb dX9_putFourBytes_25 rfl (lv_at hl 2 rfl) ?_
  refine lv_iload_n hx hb dX9_putFourBytes_26 rfl (lv_at hl 0 rfl) ?_
  obtain ⟨z4, ez4⟩ : ∃ z : Int32, (w.toUInt32 >>> ((16 : Int32).toUInt32 &&& Int32.toUInt32 31)).toInt32 = z := ⟨_, rfl⟩
  refine lv_iushr (v := z4) hx hb dX9_putFourBytes_27 ez4 ?_
  obtain ⟨z5, ez5⟩ : ∃ z : Int32, z4.toInt8.toInt32 = z := ⟨_, rfl⟩
  refine lv_i2b (v := z5) hx hb dX9_putFourBytes_28 ez5 ?_
  obtain ⟨z6, ez6⟩ : ∃ z : Nat → Int32, upd z3 ((nI (t + 1)) : Int32).toNatClampNeg (vp_nar .byte z5) = z := ⟨_, rfl⟩
  refine zz_bast (ws' := [((r 0), .inr (9, [.ref (r 1), .int (nI (t + 1)), .ref (r 2), .int (-1), .ref (r 10), .ref (r 20), .ref (r 50), .ref (r 55), .ref (r 60), .ref (r 63), .ref (r 67), .ref (r 74), .ref (r 78), .ref (r 95)])), ((r 1), .inl (G.2 1, 2000, .inl z6))]) (g := z6) S hw 1 rfl (vp_in_nI (n := (t + 1)) (by omega) (by decide)) (ez6) rfl dX9_putFourBytes_29 (fun H locs hw => ?_)
  refine lv_aload_n hx hb dX9_putFourBytes_30 rfl (lv_at hl 1 rfl) ?_
  refine lv_dup hx hb dX9_putFourBytes_31 rfl ?_
  refine zz_get (v := .int (nI (t + 1))) S hw fgX9_13 0 rfl rfl dX9_putFourBytes_32 ?_
  refine lv_iconst (v := 1) hx hb dX9_putFourBytes_35 (by decide) ?_
  refine lv_iadd hx hb dX9_putFourBytes_36 ?_
  refine zz_topi (y := (nI (t + 2))) (nI_add _ _) ?_
  refine zz_put (ws' := [((r 0), .inr (9, [.ref (r 1), .int (nI (t + 2)), .ref (r 2), .int (-1), .ref (r 10), .ref (r 20), .ref (r 50), .ref (r 55), .ref (r 60), .ref (r 63), .ref (r 67), .ref (r 74), .ref (r 78), .ref (r 95)])), ((r 1), .inl (G.2 1, 2000, .inl z6))]) (v := .int (nI (t + 2))) S hw fpX9_13 0 rfl rfl rfl (Nat.le_of_ble_eq_true rfl) rfl dX9_putFourBytes_37 (fun H locs hw => ?_)
  refine lv_iinc (v := 8) (lv' := [(2, .int 8), (0, .ref (r 0)), (1, .int w)]) hx hb dX9_putFourBytes_40 hl (k := 0) rfl (by decide) (by decide) rfl (fun ls hl => ?_)
  refine lv_goto (tgt := 3) hx hb dX9_putFourBytes_43 (by decide) ?_
  refine lv_iload_n hx hb dX9_putFourBytes_3 rfl (lv_at hl 0 rfl) ?_
  refine lv_if_lt (tgt := 46) hx hb dX9_putFourBytes_4 (by decide) (fun cc => absurd cc (by decide)) (fun _ => ?_)
  refine lv_aload_n hx hb dX9_putFourBytes_7 rfl (lv_at hl 1 rfl) ?_
  refine zz_get (v := .int (nI (t + 2))) S hw fgX9_13 0 rfl rfl dX9_putFourBytes_8 ?_
  refine lv_sipush (v := 2000) hx hb dX9_putFourBytes_11 (by decide) ?_
  refine lv_icmp_ge (tgt := 46) hx hb dX9_putFourBytes_14 (by decide) (fun cc => absurd ((zz_le (a := 2000) (b := (t + 2)) rfl rfl (by omega) (by omega)).mp cc) (by omega)) (fun _ => ?_)
  refine lv_aload_n hx hb dX9_putFourBytes_17 rfl (lv_at hl 1 rfl) ?_
  refine zz_get (v := .ref (r 1)) S hw fgX9_9 0 rfl rfl dX9_putFourBytes_18 ?_
  refine lv_aload_n hx hb dX9_putFourBytes_21 rfl (lv_at hl 1 rfl) ?_
  refine zz_get (v := .int (nI (t + 2))) S hw fgX9_13 0 rfl rfl dX9_putFourBytes_22 ?_
  refine lv_iload_n hx hb dX9_putFourBytes_25 rfl (lv_at hl 2 rfl) ?_
  refine lv_iload_n hx hb dX9_putFourBytes_26 rfl (lv_at hl 0 rfl) ?_
  obtain ⟨z7, ez7⟩ : ∃ z : Int32, (w.toUInt32 >>> ((8 : Int32).toUInt32 &&& Int32.toUInt32 31)).toInt32 = z := ⟨_, rfl⟩
  refine lv_iushr (v := z7) hx hb dX9_putFourBytes_27 ez7 ?_
  obtain ⟨z8, ez8⟩ : ∃ z : Int32, z7.toInt8.toInt32 = z := ⟨_, rfl⟩
  refine lv_i2b (v := z8) hx hb dX9_putFourBytes_28 ez8 ?_
  obtain ⟨z9, ez9⟩ : ∃ z : Nat → Int32, upd z6 ((nI (t + 2)) : Int32).toNatClampNeg (vp_nar .byte z8) = z := ⟨_, rfl⟩
  refine zz_bast (ws' := [((r 0), .inr (9, [.ref (r 1), .int (nI (t + 2)), .ref (r 2), .int (-1), .ref (r 10), .ref (r 20), .ref (r 50), .ref (r 55), .ref (r 60), .ref (r 63), .ref (r 67), .ref (r 74), .ref (r 78), .ref (r 95)])), ((r 1), .inl (G.2 1, 2000, .inl z9))]) (g := z9) S hw 1 rfl (vp_in_nI (n := (t + 2)) (by omega) (by decide)) (ez9) rfl dX9_putFourBytes_29 (fun H locs hw => ?_)
  refine lv_aload_n hx hb dX9_putFourBytes_30 rfl (lv_at hl 1 rfl) ?_
  refine lv_dup hx hb dX9_putFourBytes_31 rfl ?_
  refine zz_get (v := .int (nI (t + 2))) S hw fgX9_13 0 rfl rfl dX9_putFourBytes_32 ?_
  refine lv_iconst (v := 1) hx hb dX9_putFourBytes_35 (by decide) ?_
  refine lv_iadd hx hb dX9_putFourBytes_36 ?_
  refine zz_topi (y := (nI (t + 3))) (nI_add _ _) ?_
  refine zz_put (ws' := [((r 0), .inr (9, [.ref (r 1), .int (nI (t + 3)), .ref (r 2), .int (-1), .ref (r 10), .ref (r 20), .ref (r 50), .ref (r 55), .ref (r 60), .ref (r 63), .ref (r 67), .ref (r 74), .ref (r 78), .ref (r 95)])), ((r 1), .inl (G.2 1, 2000, .inl z9))]) (v := .int (nI (t + 3))) S hw fpX9_13 0 rfl rfl rfl (Nat.le_of_ble_eq_true rfl) rfl dX9_putFourBytes_37 (fun H locs hw => ?_)
  refine lv_iinc (v := 0) (lv' := [(2, .int 0), (0, .ref (r 0)), (1, .int w)]) hx hb dX9_putFourBytes_40 hl (k := 0) rfl (by decide) (by decide) rfl (fun ls hl => ?_)
  refine lv_goto (tgt := 3) hx hb dX9_putFourBytes_43 (by decide) ?_
  refine lv_iload_n hx hb dX9_putFourBytes_3 rfl (lv_at hl 0 rfl) ?_
  refine lv_if_lt (tgt := 46) hx hb dX9_putFourBytes_4 (by decide) (fun cc => absurd cc (by decide)) (fun _ => ?_)
  refine lv_aload_n hx hb dX9_putFourBytes_7 rfl (lv_at hl 1 rfl) ?_
  refine zz_get (v := .int (nI (t + 3))) S hw fgX9_13 0 rfl rfl dX9_putFourBytes_8 ?_
  refine lv_sipush (v := 2000) hx hb dX9_putFourBytes_11 (by decide) ?_
  refine lv_icmp_ge (tgt := 46) hx hb dX9_putFourBytes_14 (by decide) (fun cc => absurd ((zz_le (a := 2000) (b := (t + 3)) rfl rfl (by omega) (by omega)).mp cc) (by omega)) (fun _ => ?_)
  refine lv_aload_n hx hb dX9_putFourBytes_17 rfl (lv_at hl 1 rfl) ?_
  refine zz_get (v := .ref (r 1)) S hw fgX9_9 0 rfl rfl dX9_putFourBytes_18 ?_
  refine lv_aload_n hx hb dX9_putFourBytes_21 rfl (lv_at hl 1 rfl) ?_
  refine zz_get (v := .int (nI (t + 3))) S hw fgX9_13 0 rfl rfl dX9_putFourBytes_22 ?_
  refine lv_iload_n hx hb dX9_putFourBytes_25 rfl (lv_at hl 2 rfl) ?_
  refine lv_iload_n hx hb dX9_putFourBytes_26 rfl (lv_at hl 0 rfl) ?_
  obtain ⟨z10, ez10⟩ : ∃ z : Int32, (w.toUInt32 >>> ((0 : Int32).toUInt32 &&& Int32.toUInt32 31)).toInt32 = z := ⟨_, rfl⟩
  refine lv_iushr (v := z10) hx hb dX9_putFourBytes_27 ez10 ?_
  obtain ⟨z11, ez11⟩ : ∃ z : Int32, z10.toInt8.toInt32 = z := ⟨_, rfl⟩
  refine lv_i2b (v := z11) hx hb dX9_putFourBytes_28 ez11 ?_
  obtain ⟨z12, ez12⟩ : ∃ z : Nat → Int32, upd z9 ((nI (t + 3)) : Int32).toNatClampNeg (vp_nar .byte z11) = z := ⟨_, rfl⟩
  refine zz_bast (ws' := [((r 0), .inr (9, [.ref (r 1), .int (nI (t + 3)), .ref (r 2), .int (-1), .ref (r 10), .ref (r 20), .ref (r 50), .ref (r 55), .ref (r 60), .ref (r 63), .ref (r 67), .ref (r 74), .ref (r 78), .ref (r 95)])), ((r 1), .inl (G.2 1, 2000, .inl z12))]) (g := z12) S hw 1 rfl (vp_in_nI (n := (t + 3)) (by omega) (by decide)) (ez12) rfl dX9_putFourBytes_29 (fun H locs hw => ?_)
  refine lv_aload_n hx hb dX9_putFourBytes_30 rfl (lv_at hl 1 rfl) ?_
  refine lv_dup hx hb dX9_putFourBytes_31 rfl ?_
  refine zz_get (v := .int (nI (t + 3))) S hw fgX9_13 0 rfl rfl dX9_putFourBytes_32 ?_
  refine lv_iconst (v := 1) hx hb dX9_putFourBytes_35 (by decide) ?_
  refine lv_iadd hx hb dX9_putFourBytes_36 ?_
  refine zz_topi (y := (nI (t + 4))) (nI_add _ _) ?_
  refine zz_put (ws' := [((r 0), .inr (9, [.ref (r 1), .int (nI (t + 4)), .ref (r 2), .int (-1), .ref (r 10), .ref (r 20), .ref (r 50), .ref (r 55), .ref (r 60), .ref (r 63), .ref (r 67), .ref (r 74), .ref (r 78), .ref (r 95)])), ((r 1), .inl (G.2 1, 2000, .inl z12))]) (v := .int (nI (t + 4))) S hw fpX9_13 0 rfl rfl rfl (Nat.le_of_ble_eq_true rfl) rfl dX9_putFourBytes_37 (fun H locs hw => ?_)
  refine lv_iinc (v := (-8)) (lv' := [(2, .int (-8)), (0, .ref (r 0)), (1, .int w)]) hx hb dX9_putFourBytes_40 hl (k := 0) rfl (by decide) (by decide) rfl (fun ls hl => ?_)
  refine lv_goto (tgt := 3) hx hb dX9_putFourBytes_43 (by decide) ?_
  refine lv_iload_n hx hb dX9_putFourBytes_3 rfl (lv_at hl 0 rfl) ?_
  refine lv_if_lt (tgt := 46) hx hb dX9_putFourBytes_4 (by decide) (fun _ => ?_) (fun cc => absurd cc (by decide))
  exact hret _ _ _ _ _ ⟨z12, rfl, rfl⟩ hw dX9_putFourBytes_46
theorem dX9_feed_0 : decode cX9_feed 0 = .ok (.aload_n 0, 1) := by decide +kernel
theorem dX9_feed_1 : decode cX9_feed 1 = .ok (.getfield 13, 3) := by decide +kernel
theorem dX9_feed_4 : decode cX9_feed 4 = .ok (.sipush 1980, 3) := by decide +kernel
theorem dX9_feed_7 : decode cX9_feed 7 = .ok (.if_icmp .le 5, 3) := by decide +kernel
theorem dX9_feed_10 : decode cX9_feed 10 = .ok (.iconst (-1), 1) := by decide +kernel
theorem dX9_feed_11 : decode cX9_feed 11 = .ok (.ireturn, 1) := by decide +kernel
theorem dX9_feed_12 : decode cX9_feed 12 = .ok (.aload_n 0, 1) := by decide +kernel
theorem dX9_feed_13 : decode cX9_feed 13 = .ok (.iload_n 1, 1) := by decide +kernel
theorem dX9_feed_14 : decode cX9_feed 14 = .ok (.invokevirtual 83, 3) := by decide +kernel
theorem dX9_feed_17 : decode cX9_feed 17 = .ok (.aload_n 0, 1) := by decide +kernel
theorem dX9_feed_18 : decode cX9_feed 18 = .ok (.iload_n 2, 1) := by decide +kernel
theorem dX9_feed_19 : decode cX9_feed 19 = .ok (.invokevirtual 83, 3) := by decide +kernel
theorem dX9_feed_22 : decode cX9_feed 22 = .ok (.aload_n 0, 1) := by decide +kernel
theorem dX9_feed_23 : decode cX9_feed 23 = .ok (.iload_n 3, 1) := by decide +kernel
theorem dX9_feed_24 : decode cX9_feed 24 = .ok (.invokevirtual 83, 3) := by decide +kernel
theorem dX9_feed_27 : decode cX9_feed 27 = .ok (.aload_n 0, 1) := by decide +kernel
theorem dX9_feed_28 : decode cX9_feed 28 = .ok (.iload 4, 2) := by decide +kernel
theorem dX9_feed_30 : decode cX9_feed 30 = .ok (.invokevirtual 83, 3) := by decide +kernel
theorem dX9_feed_33 : decode cX9_feed 33 = .ok (.aload_n 0, 1) := by decide +kernel
theorem dX9_feed_34 : decode cX9_feed 34 = .ok (.iload 5, 2) := by decide +kernel
theorem dX9_feed_36 : decode cX9_feed 36 = .ok (.invokevirtual 83, 3) := by decide +kernel
theorem dX9_feed_39 : decode cX9_feed 39 = .ok (.aload_n 0, 1) := by decide +kernel
theorem dX9_feed_40 : decode cX9_feed 40 = .ok (.getfield 13, 3) := by decide +kernel
theorem dX9_feed_43 : decode cX9_feed 43 = .ok (.ireturn, 1) := by decide +kernel
set_option maxHeartbeats 4000000 in
set_option maxRecDepth 100000 in
theorem c_feed (l : Launch) (G : zz_G) (r : Nat → Nat) (v1 : Int32) (v2 : Int32) (v3 : Int32) (v4 : Int32) (v5 : Int32) : zz_M l G mX9_feed 1 0 0 [.ref (r 0), .int v1, .int v2, .int v3, .int v4, .int v5] [((r 0), .inr (9, [.ref (r 1), .int 0, .ref (r 2), .int (-1), .ref (r 10), .ref (r 20), .ref (r 50), .ref (r 55), .ref (r 60), .ref (r 63), .ref (r 67), .ref (r 74), .ref (r 78), .ref (r 95)])), ((r 1), .inl (G.2 1, 2000, .inl (fun _ => 0)))] (fun rr u => rr = some (.int 20) ∧ u = []) := by
  refine zz_enteri (by decide +kernel) (Nat.le_of_ble_eq_true rfl) ?_
  intro p e s m args below meth c A Q ls S hnm hret hw hl
  have hl : lv_has ls 6 [(0, .ref (r 0)), (1, .int v1), (2, .int v2), (3, .int v3), (4, .int v4), (5, .int v5)] := hl
  have hx := S.1
  have hb := S.2.1
  refine lv_aload_n hx hb dX9_feed_0 rfl (lv_at hl 0 rfl) ?_
  refine zz_get (v := .int 0) S hw fgX9_13 0 rfl rfl dX9_feed_1 ?_
  refine lv_sipush (v := 1980) hx hb dX9_feed_4 (by decide) ?_
  refine lv_icmp_le (tgt := 12) hx hb dX9_feed_7 (by decide) (fun _ => ?_) (fun cc => absurd cc (by decide))
  refine lv_aload_n hx hb dX9_feed_12 rfl (lv_at hl 0 rfl) ?_
  refine lv_iload_n hx hb dX9_feed_13 rfl (lv_at hl 1 rfl) ?_
  refine zz_callV (qb := 0) (As := [.int v1]) (rest := []) (wr := []) S hw hl.1 lX9_83 (c_putFourBytes l G r 0 v1 (fun _ => 0) (by decide)) ⟨Nat.le_of_ble_eq_true rfl, Nat.le_of_ble_eq_true rfl⟩ ⟨Nat.le_of_ble_eq_true rfl, Nat.le_of_ble_eq_true rfl⟩ [0, 1] [] (by decide) rfl rfl (by decide) (by decide) rfl rfl rfl rfl (Nat.le_of_ble_eq_true rfl) dX9_feed_14 (fun rr u H locs hp hw => ?_)
  obtain ⟨ff_1, rfl, rfl⟩ := hp
  have hw : zz_w G A s [((r 0), .inr (9, [.ref (r 1), .int 4, .ref (r 2), .int (-1), .ref (r 10), .ref (r 20), .ref (r 50), .ref (r 55), .ref (r 60), .ref (r 63), .ref (r 67), .ref (r 74), .ref (r 78), .ref (r 95)])), ((r 1), .inl (G.2 1, 2000, .inl ff_1))] H _ := hw
  refine W.eq (g2 := F0 m 17 ls []) rfl ?_
  refine lv_aload_n hx hb dX9_feed_17 rfl (lv_at hl 0 rfl) ?_
  refine lv_iload_n hx hb dX9_feed_18 rfl (lv_at hl 2 rfl) ?_
  refine zz_callV (qb := 0) (As := [.int v2]) (rest := []) (wr := []) S hw hl.1 lX9_83 (c_putFourBytes l G r 4 v2 ff_1 (by decide)) ⟨Nat.le_of_ble_eq_true rfl, Nat.le_of_ble_eq_true rfl⟩ ⟨Nat.le_of_ble_eq_true rfl, Nat.le_of_ble_eq_true rfl⟩ [0, 1] [] (by decide) rfl rfl (by decide) (by decide) rfl rfl rfl rfl (Nat.le_of_ble_eq_true rfl) dX9_feed_19 (fun rr u H locs hp hw => ?_)
  obtain ⟨ff_2, rfl, rfl⟩ := hp
  have hw : zz_w G A s [((r 0), .inr (9, [.ref (r 1), .int 8, .ref (r 2), .int (-1), .ref (r 10), .ref (r 20), .ref (r 50), .ref (r 55), .ref (r 60), .ref (r 63), .ref (r 67), .ref (r 74), .ref (r 78), .ref (r 95)])), ((r 1), .inl (G.2 1, 2000, .inl ff_2))] H _ := hw
  refine W.eq (g2 := F0 m 22 ls []) rfl ?_
  refine lv_aload_n hx hb dX9_feed_22 rfl (lv_at hl 0 rfl) ?_
  refine lv_iload_n hx hb dX9_feed_23 rfl (lv_at hl 3 rfl) ?_
  refine zz_callV (qb := 0) (As := [.int v3]) (rest := []) (wr := []) S hw hl.1 lX9_83 (c_putFourBytes l G r 8 v3 ff_2 (by decide)) ⟨Nat.le_of_ble_eq_true rfl, Nat.le_of_ble_eq_true rfl⟩ ⟨Nat.le_of_ble_eq_true rfl, Nat.le_of_ble_eq_true rfl⟩ [0, 1] [] (by decide) rfl rfl (by decide) (by decide) rfl rfl rfl rfl (Nat.le_of_ble_eq_true rfl) dX9_feed_24 (fun rr u H locs hp hw => ?_)
  obtain ⟨ff_3, rfl, rfl⟩ := hp
  have hw : zz_w G A s [((r 0), .inr (9, [.ref (r 1), .int 12, .ref (r 2), .int (-1), .ref (r 10), .ref (r 20), .ref (r 50), .ref (r 55), .ref (r 60), .ref (r 63), .ref (r 67), .ref (r 74), .ref (r 78), .ref (r 95)])), ((r 1), .inl (G.2 1, 2000, .inl ff_3))] H _ := hw
  refine W.eq (g2 := F0 m 27 ls []) rfl ?_
  refine lv_aload_n hx hb dX9_feed_27 rfl (lv_at hl 0 rfl) ?_
  refine lv_iload hx hb dX9_feed_28 (lv_at hl 4 rfl) ?_
  refine zz_callV (qb := 0) (As := [.int v4]) (rest := []) (wr := []) S hw hl.1 lX9_83 (c_putFourBytes l G r 12 v4 ff_3 (by decide)) ⟨Nat.le_of_ble_eq_true rfl, Nat.le_of_ble_eq_true rfl⟩ ⟨Nat.le_of_ble_eq_true rfl, Nat.le_of_ble_eq_true rfl⟩ [0, 1] [] (by decide) rfl rfl (by decide) (by decide) rfl rfl rfl rfl (Nat.le_of_ble_eq_true rfl) dX9_feed_30 (fun rr u H locs hp hw => ?_)
  obtain ⟨ff_4, rfl, rfl⟩ := hp
  have hw : zz_w G A s [((r 0), .inr (9, [.ref (r 1), .int 16, .ref (r 2), .int (-1), .ref (r 10), .ref (r 20), .ref (r 50), .ref (r 55), .ref (r 60), .ref (r 63), .ref (r 67), .ref (r 74), .ref (r 78), .ref (r 95)])), ((r 1), .inl (G.2 1, 2000, .inl ff_4))] H _ := hw
  refine W.eq (g2 := F0 m 33 ls []) rfl ?_
  refine lv_aload_n hx hb dX9_feed_33 rfl (lv_at hl 0 rfl) ?_
  refine lv_iload hx hb dX9_feed_34 (lv_at hl 5 rfl) ?_
  refine zz_callV (qb := 0) (As := [.int v5]) (rest := []) (wr := []) S hw hl.1 lX9_83 (c_putFourBytes l G r 16 v5 ff_4 (by decide)) ⟨Nat.le_of_ble_eq_true rfl, Nat.le_of_ble_eq_true rfl⟩ ⟨Nat.le_of_ble_eq_true rfl, Nat.le_of_ble_eq_true rfl⟩ [0, 1] [] (by decide) rfl rfl (by decide) (by decide) rfl rfl rfl rfl (Nat.le_of_ble_eq_true rfl) dX9_feed_36 (fun rr u H locs hp hw => ?_)
  obtain ⟨ff_5, rfl, rfl⟩ := hp
  have hw : zz_w G A s [((r 0), .inr (9, [.ref (r 1), .int 20, .ref (r 2), .int (-1), .ref (r 10), .ref (r 20), .ref (r 50), .ref (r 55), .ref (r 60), .ref (r 63), .ref (r 67), .ref (r 74), .ref (r 78), .ref (r 95)])), ((r 1), .inl (G.2 1, 2000, .inl ff_5))] H _ := hw
  refine W.eq (g2 := F0 m 39 ls []) rfl ?_
  refine lv_aload_n hx hb dX9_feed_39 rfl (lv_at hl 0 rfl) ?_
  refine zz_get (v := .int 20) S hw fgX9_13 0 rfl rfl dX9_feed_40 ?_
  exact hret _ _ _ _ _ _ ⟨rfl, rfl⟩ (hw.sub [] (by decide) rfl) rfl dX9_feed_43
theorem dX9_back_0 : decode cX9_back 0 = .ok (.iload_n 1, 1) := by decide +kernel
theorem dX9_back_1 : decode cX9_back 1 = .ok (.ifCond .lt 11, 3) := by decide +kernel
theorem dX9_back_4 : decode cX9_back 4 = .ok (.iload_n 1, 1) := by decide +kernel
theorem dX9_back_5 : decode cX9_back 5 = .ok (.aload_n 0, 1) := by decide +kernel
theorem dX9_back_6 : decode cX9_back 6 = .ok (.getfield 13, 3) := by decide +kernel
theorem dX9_back_9 : decode cX9_back 9 = .ok (.if_icmp .le 5, 3) := by decide +kernel
theorem dX9_back_12 : decode cX9_back 12 = .ok (.iconst (-1), 1) := by decide +kernel
theorem dX9_back_13 : decode cX9_back 13 = .ok (.ireturn, 1) := by decide +kernel
theorem dX9_back_14 : decode cX9_back 14 = .ok (.aload_n 0, 1) := by decide +kernel
theorem dX9_back_15 : decode cX9_back 15 = .ok (.dup, 1) := by decide +kernel
theorem dX9_back_16 : decode cX9_back 16 = .ok (.getfield 13, 3) := by decide +kernel
theorem dX9_back_19 : decode cX9_back 19 = .ok (.iload_n 1, 1) := by decide +kernel
theorem dX9_back_20 : decode cX9_back 20 = .ok (.isub, 1) := by decide +kernel
theorem dX9_back_21 : decode cX9_back 21 = .ok (.putfield 13, 3) := by decide +kernel
theorem dX9_back_24 : decode cX9_back 24 = .ok (.aload_n 0, 1) := by decide +kernel
theorem dX9_back_25 : decode cX9_back 25 = .ok (.getfield 13, 3) := by decide +kernel
theorem dX9_back_28 : decode cX9_back 28 = .ok (.ireturn, 1) := by decide +kernel
set_option maxHeartbeats 4000000 in
set_option maxRecDepth 100000 in
theorem c_back_z (l : Launch) (G : zz_G) (r : Nat → Nat) : zz_M l G mX9_back 0 0 0 [.ref (r 0), .int 0] [((r 0), .inr (9, [.ref (r 1), .int 0, .ref (r 2), .int (-1), .ref (r 10), .ref (r 20), .ref (r 50), .ref (r 55), .ref (r 60), .ref (r 63), .ref (r 67), .ref (r 74), .ref (r 78), .ref (r 95)]))] (fun rr u => rr = some (.int 0) ∧ u = []) := by
  refine zz_enteri (by decide +kernel) (Nat.le_of_ble_eq_true rfl) ?_
  intro p e s m args below meth c A Q ls S hnm hret hw hl
  have hl : lv_has ls 2 [(0, .ref (r 0)), (1, .int 0)] := hl
  have hx := S.1
  have hb := S.2.1
  refine lv_iload_n hx hb dX9_back_0 rfl (lv_at hl 1 rfl) ?_
  refine lv_if_lt (tgt := 12) hx hb dX9_back_1 (by decide) (fun cc => absurd cc (by decide)) (fun _ => ?_)
  refine lv_iload_n hx hb dX9_back_4 rfl (lv_at hl 1 rfl) ?_
  refine lv_aload_n hx hb dX9_back_5 rfl (lv_at hl 0 rfl) ?_
  refine zz_get (v := .int 0) S hw fgX9_13 0 rfl rfl dX9_back_6 ?_
  refine lv_icmp_le (tgt := 14) hx hb dX9_back_9 (by decide) (fun _ => ?_) (fun cc => absurd cc (by decide))
  refine lv_aload_n hx hb dX9_back_14 rfl (lv_at hl 0 rfl) ?_
  refine lv_dup hx hb dX9_back_15 rfl ?_
  refine zz_get (v := .int 0) S hw fgX9_13 0 rfl rfl dX9_back_16 ?_
  refine lv_iload_n hx hb dX9_back_19 rfl (lv_at hl 1 rfl) ?_
  refine lv_isub hx hb dX9_back_20 ?_
  refine zz_topi (y := 0) (by decide) ?_
  refine zz_put (ws' := [((r 0), .inr (9, [.ref (r 1), .int 0, .ref (r 2), .int (-1), .ref (r 10), .ref (r 20), .ref (r 50), .ref (r 55), .ref (r 60), .ref (r 63), .ref (r 67), .ref (r 74), .ref (r 78), .ref (r 95)]))]) (v := .int 0) S hw fpX9_13 0 rfl rfl rfl (Nat.le_of_ble_eq_true rfl) rfl dX9_back_21 (fun H locs hw => ?_)
  refine lv_aload_n hx hb dX9_back_24 rfl (lv_at hl 0 rfl) ?_
  refine zz_get (v := .int 0) S hw fgX9_13 0 rfl rfl dX9_back_25 ?_
  exact hret _ _ _ _ _ _ ⟨rfl, rfl⟩ (hw.sub [] (by decide) rfl) rfl dX9_back_28
set_option maxHeartbeats 4000000 in
set_option maxRecDepth 100000 in
theorem c_back_n (l : Launch) (G : zz_G) (r : Nat → Nat) (n : Int32) (h : n < 0 ∨ 0 < n) : zz_M l G mX9_back 0 0 0 [.ref (r 0), .int n] [((r 0), .inr (9, [.ref (r 1), .int 0, .ref (r 2), .int (-1), .ref (r 10), .ref (r 20), .ref (r 50), .ref (r 55), .ref (r 60), .ref (r 63), .ref (r 67), .ref (r 74), .ref (r 78), .ref (r 95)]))] (fun rr u => rr = some (.int (-1)) ∧ u = []) := by
  refine zz_enteri (by decide +kernel) (Nat.le_of_ble_eq_true rfl) ?_
  intro p e s m args below meth c A Q ls S hnm hret hw hl
  have hl : lv_has ls 2 [(0, .ref (r 0)), (1, .int n)] := hl
  have hx := S.1
  have hb := S.2.1
  refine lv_iload_n hx hb dX9_back_0 rfl (lv_at hl 1 rfl) ?_
  refine lv_if_lt (tgt := 12) hx hb dX9_back_1 (by decide) (fun c1_1 => ?_) (fun c1_1 => ?_)
  · skip
    refine lv_iconst (v := (-1)) hx hb dX9_back_12 (by decide) ?_
    exact hret _ _ _ _ _ _ ⟨rfl, rfl⟩ (hw.sub [] (by decide) rfl) rfl dX9_back_13
  · skip
    refine lv_iload_n hx hb dX9_back_4 rfl (lv_at hl 1 rfl) ?_
    refine lv_aload_n hx hb dX9_back_5 rfl (lv_at hl 0 rfl) ?_
    refine zz_get (v := .int 0) S hw fgX9_13 0 rfl rfl dX9_back_6 ?_
    refine lv_icmp_le (tgt := 14) hx hb dX9_back_9 (by decide) (fun cc => absurd cc (Int32.not_le.mpr (h.resolve_left c1_1))) (fun _ => ?_)
    refine lv_iconst (v := (-1)) hx hb dX9_back_12 (by decide) ?_
    exact hret _ _ _ _ _ _ ⟨rfl, rfl⟩ (hw.sub [] (by decide) rfl) rfl dX9_back_13
theorem dX9_place_0 : decode cX9_place 0 = .ok (.aload_n 0, 1) := by decide +kernel
theorem dX9_place_1 : decode cX9_place 1 = .ok (.getfield 24, 3) := by decide +kernel
theorem dX9_place_4 : decode cX9_place 4 = .ok (.ireturn, 1) := by decide +kernel
set_option maxHeartbeats 4000000 in
set_option maxRecDepth 100000 in
theorem c_place (l : Launch) (G : zz_G) (r : Nat → Nat) : zz_M l G mX9_place 0 0 0 [.ref (r 0)] [((r 0), .inr (9, [.ref (r 1), .int 0, .ref (r 2), .int (-1), .ref (r 10), .ref (r 20), .ref (r 50), .ref (r 55), .ref (r 60), .ref (r 63), .ref (r 67), .ref (r 74), .ref (r 78), .ref (r 95)]))] (fun rr u => rr = some (.int (-1)) ∧ u = []) := by
  refine zz_enteri (by decide +kernel) (Nat.le_of_ble_eq_true rfl) ?_
  intro p e s m args below meth c A Q ls S hnm hret hw hl
  have hl : lv_has ls 1 [(0, .ref (r 0))] := hl
  have hx := S.1
  have hb := S.2.1
  refine lv_aload_n hx hb dX9_place_0 rfl (lv_at hl 0 rfl) ?_
  refine zz_get (v := .int (-1)) S hw fgX9_24 0 rfl rfl dX9_place_1 ?_
  exact hret _ _ _ _ _ _ ⟨rfl, rfl⟩ (hw.sub [] (by decide) rfl) rfl dX9_place_4
theorem dX9_isPerson_0 : decode cX9_isPerson 0 = .ok (.iload_n 1, 1) := by decide +kernel
theorem dX9_isPerson_1 : decode cX9_isPerson 1 = .ok (.ifCond .lt 18, 3) := by decide +kernel
theorem dX9_isPerson_4 : decode cX9_isPerson 4 = .ok (.iload_n 1, 1) := by decide +kernel
theorem dX9_isPerson_5 : decode cX9_isPerson 5 = .ok (.aload_n 0, 1) := by decide +kernel
theorem dX9_isPerson_6 : decode cX9_isPerson 6 = .ok (.getfield 30, 3) := by decide +kernel
theorem dX9_isPerson_9 : decode cX9_isPerson 9 = .ok (.getfield 105, 3) := by decide +kernel
theorem dX9_isPerson_12 : decode cX9_isPerson 12 = .ok (.if_icmp .ge 7, 3) := by decide +kernel
theorem dX9_isPerson_15 : decode cX9_isPerson 15 = .ok (.iconst 1, 1) := by decide +kernel
theorem dX9_isPerson_16 : decode cX9_isPerson 16 = .ok (.goto 4, 3) := by decide +kernel
theorem dX9_isPerson_19 : decode cX9_isPerson 19 = .ok (.iconst 0, 1) := by decide +kernel
theorem dX9_isPerson_20 : decode cX9_isPerson 20 = .ok (.ireturn, 1) := by decide +kernel
set_option maxHeartbeats 4000000 in
set_option maxRecDepth 100000 in
theorem c_isPerson (l : Launch) (G : zz_G) (r : Nat → Nat) (a : Int32) : zz_M l G mX9_isPerson 0 0 0 [.ref (r 0), .int a] [((r 0), .inr (9, [.ref (r 1), .int 0, .ref (r 2), .int (-1), .ref (r 10), .ref (r 20), .ref (r 50), .ref (r 55), .ref (r 60), .ref (r 63), .ref (r 67), .ref (r 74), .ref (r 78), .ref (r 95)])), ((r 10), .inr (5, [.ref (r 11), .ref (r 12), .ref (r 13), .ref (r 14), .ref (r 15), .ref (r 16), .ref (r 17), .ref (r 18), .ref (r 19), .int 0, .int 0, .int 1, .int 0]))] (fun rr u => rr = some (.int 0) ∧ u = [((r 0), .inr (9, [.ref (r 1), .int 0, .ref (r 2), .int (-1), .ref (r 10), .ref (r 20), .ref (r 50), .ref (r 55), .ref (r 60), .ref (r 63), .ref (r 67), .ref (r 74), .ref (r 78), .ref (r 95)])), ((r 10), .inr (5, [.ref (r 11), .ref (r 12), .ref (r 13), .ref (r 14), .ref (r 15), .ref (r 16), .ref (r 17), .ref (r 18), .ref (r 19), .int 0, .int 0, .int 1, .int 0]))]) := by
  refine zz_enteri (by decide +kernel) (Nat.le_of_ble_eq_true rfl) ?_
  intro p e s m args below meth c A Q ls S hnm hret hw hl
  have hl : lv_has ls 2 [(0, .ref (r 0)), (1, .int a)] := hl
  have hx := S.1
  have hb := S.2.1
  refine lv_iload_n hx hb dX9_isPerson_0 rfl (lv_at hl 1 rfl) ?_
  refine lv_if_lt (tgt := 19) hx hb dX9_isPerson_1 (by decide) (fun c1_1 => ?_) (fun c1_1 => ?_)
  · skip
    refine lv_iconst (v := 0) hx hb dX9_isPerson_19 (by decide) ?_
    exact hret _ _ _ _ _ _ ⟨rfl, rfl⟩ hw rfl dX9_isPerson_20
  · skip
    refine lv_iload_n hx hb dX9_isPerson_4 rfl (lv_at hl 1 rfl) ?_
    refine lv_aload_n hx hb dX9_isPerson_5 rfl (lv_at hl 0 rfl) ?_
    refine zz_get (v := .ref (r 10)) S hw fgX9_30 0 rfl rfl dX9_isPerson_6 ?_
    refine zz_get (v := .int 0) S hw fgX9_105 1 rfl rfl dX9_isPerson_9 ?_
    refine lv_icmp_ge (tgt := 19) hx hb dX9_isPerson_12 (by decide) (fun _ => ?_) (fun cc => absurd (Int32.not_lt.mp c1_1) cc)
    refine lv_iconst (v := 0) hx hb dX9_isPerson_19 (by decide) ?_
    exact hret _ _ _ _ _ _ ⟨rfl, rfl⟩ hw rfl dX9_isPerson_20
theorem dX9_isPart_0 : decode cX9_isPart 0 = .ok (.iload_n 1, 1) := by decide +kernel
theorem dX9_isPart_1 : decode cX9_isPart 1 = .ok (.ifCond .lt 18, 3) := by decide +kernel
theorem dX9_isPart_4 : decode cX9_isPart 4 = .ok (.iload_n 1, 1) := by decide +kernel
theorem dX9_isPart_5 : decode cX9_isPart 5 = .ok (.aload_n 0, 1) := by decide +kernel
theorem dX9_isPart_6 : decode cX9_isPart 6 = .ok (.getfield 30, 3) := by decide +kernel
theorem dX9_isPart_9 : decode cX9_isPart 9 = .ok (.getfield 108, 3) := by decide +kernel
theorem dX9_isPart_12 : decode cX9_isPart 12 = .ok (.if_icmp .ge 7, 3) := by decide +kernel
theorem dX9_isPart_15 : decode cX9_isPart 15 = .ok (.iconst 1, 1) := by decide +kernel
theorem dX9_isPart_16 : decode cX9_isPart 16 = .ok (.goto 4, 3) := by decide +kernel
theorem dX9_isPart_19 : decode cX9_isPart 19 = .ok (.iconst 0, 1) := by decide +kernel
theorem dX9_isPart_20 : decode cX9_isPart 20 = .ok (.ireturn, 1) := by decide +kernel
set_option maxHeartbeats 4000000 in
set_option maxRecDepth 100000 in
theorem c_isPart (l : Launch) (G : zz_G) (r : Nat → Nat) (a : Int32) : zz_M l G mX9_isPart 0 0 0 [.ref (r 0), .int a] [((r 0), .inr (9, [.ref (r 1), .int 0, .ref (r 2), .int (-1), .ref (r 10), .ref (r 20), .ref (r 50), .ref (r 55), .ref (r 60), .ref (r 63), .ref (r 67), .ref (r 74), .ref (r 78), .ref (r 95)])), ((r 10), .inr (5, [.ref (r 11), .ref (r 12), .ref (r 13), .ref (r 14), .ref (r 15), .ref (r 16), .ref (r 17), .ref (r 18), .ref (r 19), .int 0, .int 0, .int 1, .int 0]))] (fun rr u => rr = some (.int 0) ∧ u = [((r 0), .inr (9, [.ref (r 1), .int 0, .ref (r 2), .int (-1), .ref (r 10), .ref (r 20), .ref (r 50), .ref (r 55), .ref (r 60), .ref (r 63), .ref (r 67), .ref (r 74), .ref (r 78), .ref (r 95)])), ((r 10), .inr (5, [.ref (r 11), .ref (r 12), .ref (r 13), .ref (r 14), .ref (r 15), .ref (r 16), .ref (r 17), .ref (r 18), .ref (r 19), .int 0, .int 0, .int 1, .int 0]))]) := by
  refine zz_enteri (by decide +kernel) (Nat.le_of_ble_eq_true rfl) ?_
  intro p e s m args below meth c A Q ls S hnm hret hw hl
  have hl : lv_has ls 2 [(0, .ref (r 0)), (1, .int a)] := hl
  have hx := S.1
  have hb := S.2.1
  refine lv_iload_n hx hb dX9_isPart_0 rfl (lv_at hl 1 rfl) ?_
  refine lv_if_lt (tgt := 19) hx hb dX9_isPart_1 (by decide) (fun c1_1 => ?_) (fun c1_1 => ?_)
  · skip
    refine lv_iconst (v := 0) hx hb dX9_isPart_19 (by decide) ?_
    exact hret _ _ _ _ _ _ ⟨rfl, rfl⟩ hw rfl dX9_isPart_20
  · skip
    refine lv_iload_n hx hb dX9_isPart_4 rfl (lv_at hl 1 rfl) ?_
    refine lv_aload_n hx hb dX9_isPart_5 rfl (lv_at hl 0 rfl) ?_
    refine zz_get (v := .ref (r 10)) S hw fgX9_30 0 rfl rfl dX9_isPart_6 ?_
    refine zz_get (v := .int 0) S hw fgX9_108 1 rfl rfl dX9_isPart_9 ?_
    refine lv_icmp_ge (tgt := 19) hx hb dX9_isPart_12 (by decide) (fun _ => ?_) (fun cc => absurd (Int32.not_lt.mp c1_1) cc)
    refine lv_iconst (v := 0) hx hb dX9_isPart_19 (by decide) ?_
    exact hret _ _ _ _ _ _ ⟨rfl, rfl⟩ hw rfl dX9_isPart_20
theorem dX9_isOneOfTwo_0 : decode cX9_isOneOfTwo 0 = .ok (.iload_n 0, 1) := by decide +kernel
theorem dX9_isOneOfTwo_1 : decode cX9_isOneOfTwo 1 = .ok (.ifCond .eq 8, 3) := by decide +kernel
theorem dX9_isOneOfTwo_4 : decode cX9_isOneOfTwo 4 = .ok (.iload_n 0, 1) := by decide +kernel
theorem dX9_isOneOfTwo_5 : decode cX9_isOneOfTwo 5 = .ok (.iconst 1, 1) := by decide +kernel
theorem dX9_isOneOfTwo_6 : decode cX9_isOneOfTwo 6 = .ok (.if_icmp .ne 7, 3) := by decide +kernel
theorem dX9_isOneOfTwo_9 : decode cX9_isOneOfTwo 9 = .ok (.iconst 1, 1) := by decide +kernel
theorem dX9_isOneOfTwo_10 : decode cX9_isOneOfTwo 10 = .ok (.goto 4, 3) := by decide +kernel
theorem dX9_isOneOfTwo_13 : decode cX9_isOneOfTwo 13 = .ok (.iconst 0, 1) := by decide +kernel
theorem dX9_isOneOfTwo_14 : decode cX9_isOneOfTwo 14 = .ok (.ireturn, 1) := by decide +kernel
set_option maxHeartbeats 4000000 in
set_option maxRecDepth 100000 in
theorem c_two_0 (l : Launch) (G : zz_G) : zz_M l G mX9_isOneOfTwo 0 0 0 [.int 0] [] (fun rr u => rr = some (.int 1) ∧ u = []) := by
  refine zz_enteri (by decide +kernel) (Nat.le_of_ble_eq_true rfl) ?_
  intro p e s m args below meth c A Q ls S hnm hret hw hl
  have hl : lv_has ls 1 [(0, .int 0)] := hl
  have hx := S.1
  have hb := S.2.1
  refine lv_iload_n hx hb dX9_isOneOfTwo_0 rfl (lv_at hl 0 rfl) ?_
  refine lv_if_eq (tgt := 9) hx hb dX9_isOneOfTwo_1 (by decide) (fun _ => ?_) (fun cc => absurd cc (by decide))
  refine lv_iconst (v := 1) hx hb dX9_isOneOfTwo_9 (by decide) ?_
  refine lv_goto (tgt := 14) hx hb dX9_isOneOfTwo_10 (by decide) ?_
  exact hret _ _ _ _ _ _ ⟨rfl, rfl⟩ hw rfl dX9_isOneOfTwo_14
set_option maxHeartbeats 4000000 in
set_option maxRecDepth 100000 in
theorem c_two_1 (l : Launch) (G : zz_G) : zz_M l G mX9_isOneOfTwo 0 0 0 [.int 1] [] (fun rr u => rr = some (.int 1) ∧ u = []) := by
  refine zz_enteri (by decide +kernel) (Nat.le_of_ble_eq_true rfl) ?_
  intro p e s m args below meth c A Q ls S hnm hret hw hl
  have hl : lv_has ls 1 [(0, .int 1)] := hl
  have hx := S.1
  have hb := S.2.1
  refine lv_iload_n hx hb dX9_isOneOfTwo_0 rfl (lv_at hl 0 rfl) ?_
  refine lv_if_eq (tgt := 9) hx hb dX9_isOneOfTwo_1 (by decide) (fun cc => absurd cc (by decide)) (fun _ => ?_)
  refine lv_iload_n hx hb dX9_isOneOfTwo_4 rfl (lv_at hl 0 rfl) ?_
  refine lv_iconst (v := 1) hx hb dX9_isOneOfTwo_5 (by decide) ?_
  refine lv_icmp_ne (tgt := 13) hx hb dX9_isOneOfTwo_6 (by decide) (fun cc => absurd cc (by decide)) (fun _ => ?_)
  refine lv_iconst (v := 1) hx hb dX9_isOneOfTwo_9 (by decide) ?_
  refine lv_goto (tgt := 14) hx hb dX9_isOneOfTwo_10 (by decide) ?_
  exact hret _ _ _ _ _ _ ⟨rfl, rfl⟩ hw rfl dX9_isOneOfTwo_14
set_option maxHeartbeats 4000000 in
set_option maxRecDepth 100000 in
theorem c_two_n (l : Launch) (G : zz_G) (a : Int32) (h : a < 0 ∨ 1 < a) : zz_M l G mX9_isOneOfTwo 0 0 0 [.int a] [] (fun rr u => rr = some (.int 0) ∧ u = []) := by
  refine zz_enteri (by decide +kernel) (Nat.le_of_ble_eq_true rfl) ?_
  intro p e s m args below meth c A Q ls S hnm hret hw hl
  have hl : lv_has ls 1 [(0, .int a)] := hl
  have hx := S.1
  have hb := S.2.1
  refine lv_iload_n hx hb dX9_isOneOfTwo_0 rfl (lv_at hl 0 rfl) ?_
  refine lv_if_eq (tgt := 9) hx hb dX9_isOneOfTwo_1 (by decide) (fun cc => absurd cc (zz_outne h (by decide) (by decide))) (fun _ => ?_)
  refine lv_iload_n hx hb dX9_isOneOfTwo_4 rfl (lv_at hl 0 rfl) ?_
  refine lv_iconst (v := 1) hx hb dX9_isOneOfTwo_5 (by decide) ?_
  refine lv_icmp_ne (tgt := 13) hx hb dX9_isOneOfTwo_6 (by decide) (fun _ => ?_) (fun cc => absurd cc (zz_outne h (by decide) (by decide)))
  refine lv_iconst (v := 0) hx hb dX9_isOneOfTwo_13 (by decide) ?_
  exact hret _ _ _ _ _ _ ⟨rfl, rfl⟩ hw rfl dX9_isOneOfTwo_14
theorem dX9_isSlot_0 : decode cX9_isSlot 0 = .ok (.iload_n 0, 1) := by decide +kernel
theorem dX9_isSlot_1 : decode cX9_isSlot 1 = .ok (.ifCond .lt 12, 3) := by decide +kernel
theorem dX9_isSlot_4 : decode cX9_isSlot 4 = .ok (.iload_n 0, 1) := by decide +kernel
theorem dX9_isSlot_5 : decode cX9_isSlot 5 = .ok (.iconst 3, 1) := by decide +kernel
theorem dX9_isSlot_6 : decode cX9_isSlot 6 = .ok (.if_icmp .ge 7, 3) := by decide +kernel
theorem dX9_isSlot_9 : decode cX9_isSlot 9 = .ok (.iconst 1, 1) := by decide +kernel
theorem dX9_isSlot_10 : decode cX9_isSlot 10 = .ok (.goto 4, 3) := by decide +kernel
theorem dX9_isSlot_13 : decode cX9_isSlot 13 = .ok (.iconst 0, 1) := by decide +kernel
theorem dX9_isSlot_14 : decode cX9_isSlot 14 = .ok (.ireturn, 1) := by decide +kernel
set_option maxHeartbeats 4000000 in
set_option maxRecDepth 100000 in
theorem c_slot_0 (l : Launch) (G : zz_G) : zz_M l G mX9_isSlot 0 0 0 [.int 0] [] (fun rr u => rr = some (.int 1) ∧ u = []) := by
  refine zz_enteri (by decide +kernel) (Nat.le_of_ble_eq_true rfl) ?_
  intro p e s m args below meth c A Q ls S hnm hret hw hl
  have hl : lv_has ls 1 [(0, .int 0)] := hl
  have hx := S.1
  have hb := S.2.1
  refine lv_iload_n hx hb dX9_isSlot_0 rfl (lv_at hl 0 rfl) ?_
  refine lv_if_lt (tgt := 13) hx hb dX9_isSlot_1 (by decide) (fun cc => absurd cc (by decide)) (fun _ => ?_)
  refine lv_iload_n hx hb dX9_isSlot_4 rfl (lv_at hl 0 rfl) ?_
  refine lv_iconst (v := 3) hx hb dX9_isSlot_5 (by decide) ?_
  refine lv_icmp_ge (tgt := 13) hx hb dX9_isSlot_6 (by decide) (fun cc => absurd cc (by decide)) (fun _ => ?_)
  refine lv_iconst (v := 1) hx hb dX9_isSlot_9 (by decide) ?_
  refine lv_goto (tgt := 14) hx hb dX9_isSlot_10 (by decide) ?_
  exact hret _ _ _ _ _ _ ⟨rfl, rfl⟩ hw rfl dX9_isSlot_14
set_option maxHeartbeats 4000000 in
set_option maxRecDepth 100000 in
theorem c_slot_1 (l : Launch) (G : zz_G) : zz_M l G mX9_isSlot 0 0 0 [.int 1] [] (fun rr u => rr = some (.int 1) ∧ u = []) := by
  refine zz_enteri (by decide +kernel) (Nat.le_of_ble_eq_true rfl) ?_
  intro p e s m args below meth c A Q ls S hnm hret hw hl
  have hl : lv_has ls 1 [(0, .int 1)] := hl
  have hx := S.1
  have hb := S.2.1
  refine lv_iload_n hx hb dX9_isSlot_0 rfl (lv_at hl 0 rfl) ?_
  refine lv_if_lt (tgt := 13) hx hb dX9_isSlot_1 (by decide) (fun cc => absurd cc (by decide)) (fun _ => ?_)
  refine lv_iload_n hx hb dX9_isSlot_4 rfl (lv_at hl 0 rfl) ?_
  refine lv_iconst (v := 3) hx hb dX9_isSlot_5 (by decide) ?_
  refine lv_icmp_ge (tgt := 13) hx hb dX9_isSlot_6 (by decide) (fun cc => absurd cc (by decide)) (fun _ => ?_)
  refine lv_iconst (v := 1) hx hb dX9_isSlot_9 (by decide) ?_
  refine lv_goto (tgt := 14) hx hb dX9_isSlot_10 (by decide) ?_
  exact hret _ _ _ _ _ _ ⟨rfl, rfl⟩ hw rfl dX9_isSlot_14
set_option maxHeartbeats 4000000 in
set_option maxRecDepth 100000 in
theorem c_slot_2 (l : Launch) (G : zz_G) : zz_M l G mX9_isSlot 0 0 0 [.int 2] [] (fun rr u => rr = some (.int 1) ∧ u = []) := by
  refine zz_enteri (by decide +kernel) (Nat.le_of_ble_eq_true rfl) ?_
  intro p e s m args below meth c A Q ls S hnm hret hw hl
  have hl : lv_has ls 1 [(0, .int 2)] := hl
  have hx := S.1
  have hb := S.2.1
  refine lv_iload_n hx hb dX9_isSlot_0 rfl (lv_at hl 0 rfl) ?_
  refine lv_if_lt (tgt := 13) hx hb dX9_isSlot_1 (by decide) (fun cc => absurd cc (by decide)) (fun _ => ?_)
  refine lv_iload_n hx hb dX9_isSlot_4 rfl (lv_at hl 0 rfl) ?_
  refine lv_iconst (v := 3) hx hb dX9_isSlot_5 (by decide) ?_
  refine lv_icmp_ge (tgt := 13) hx hb dX9_isSlot_6 (by decide) (fun cc => absurd cc (by decide)) (fun _ => ?_)
  refine lv_iconst (v := 1) hx hb dX9_isSlot_9 (by decide) ?_
  refine lv_goto (tgt := 14) hx hb dX9_isSlot_10 (by decide) ?_
  exact hret _ _ _ _ _ _ ⟨rfl, rfl⟩ hw rfl dX9_isSlot_14
theorem zz_gt {a b k : Int32} (h : a < b ∨ k < b) : True := trivial
theorem zz_ge3 {a : Int32} (h : 2 < a) : 3 ≤ a := by
  have h1 := zz_ti h
  have e : (2 : Int32).toInt = 2 := by decide
  have e3 : (3 : Int32).toInt = 3 := by decide
  exact Int32.le_iff_toInt_le.mpr (by omega)
set_option maxHeartbeats 4000000 in
set_option maxRecDepth 100000 in
theorem c_slot_n (l : Launch) (G : zz_G) (a : Int32) (h : a < 0 ∨ 2 < a) : zz_M l G mX9_isSlot 0 0 0 [.int a] [] (fun rr u => rr = some (.int 0) ∧ u = []) := by
  refine zz_enteri (by decide +kernel) (Nat.le_of_ble_eq_true rfl) ?_
  intro p e s m args below meth c A Q ls S hnm hret hw hl
  have hl : lv_has ls 1 [(0, .int a)] := hl
  have hx := S.1
  have hb := S.2.1
  refine lv_iload_n hx hb dX9_isSlot_0 rfl (lv_at hl 0 rfl) ?_
  refine lv_if_lt (tgt := 13) hx hb dX9_isSlot_1 (by decide) (fun c1_1 => ?_) (fun c1_1 => ?_)
  · skip
    refine lv_iconst (v := 0) hx hb dX9_isSlot_13 (by decide) ?_
    exact hret _ _ _ _ _ _ ⟨rfl, rfl⟩ hw rfl dX9_isSlot_14
  · skip
    refine lv_iload_n hx hb dX9_isSlot_4 rfl (lv_at hl 0 rfl) ?_
    refine lv_iconst (v := 3) hx hb dX9_isSlot_5 (by decide) ?_
    refine lv_icmp_ge (tgt := 13) hx hb dX9_isSlot_6 (by decide) (fun _ => ?_) (fun cc => absurd (zz_ge3 (h.resolve_left c1_1)) cc)
    refine lv_iconst (v := 0) hx hb dX9_isSlot_13 (by decide) ?_
    exact hret _ _ _ _ _ _ ⟨rfl, rfl⟩ hw rfl dX9_isSlot_14
theorem dJ6_bitCount_0f7a4_0 : decode cJ6_bitCount_0f7a4 0 = .ok (.iload_n 0, 1) := by decide +kernel
theorem dJ6_bitCount_0f7a4_1 : decode cJ6_bitCount_0f7a4 1 = .ok (.iload_n 0, 1) := by decide +kernel
theorem dJ6_bitCount_0f7a4_2 : decode cJ6_bitCount_0f7a4 2 = .ok (.iconst 1, 1) := by decide +kernel
theorem dJ6_bitCount_0f7a4_3 : decode cJ6_bitCount_0f7a4 3 = .ok (.iushr, 1) := by decide +kernel
theorem dJ6_bitCount_0f7a4_4 : decode cJ6_bitCount_0f7a4 4 = .ok (.ldc_w 265, 3) := by decide +kernel
theorem dJ6_bitCount_0f7a4_7 : decode cJ6_bitCount_0f7a4 7 = .ok (.iand, 1) := by decide +kernel
theorem dJ6_bitCount_0f7a4_8 : decode cJ6_bitCount_0f7a4 8 = .ok (.isub, 1) := by decide +kernel
theorem dJ6_bitCount_0f7a4_9 : decode cJ6_bitCount_0f7a4 9 = .ok (.istore_n 0, 1) := by decide +kernel
theorem dJ6_bitCount_0f7a4_10 : decode cJ6_bitCount_0f7a4 10 = .ok (.iload_n 0, 1) := by decide +kernel
theorem dJ6_bitCount_0f7a4_11 : decode cJ6_bitCount_0f7a4 11 = .ok (.ldc_w 266, 3) := by decide +kernel
theorem dJ6_bitCount_0f7a4_14 : decode cJ6_bitCount_0f7a4 14 = .ok (.iand, 1) := by decide +kernel
theorem dJ6_bitCount_0f7a4_15 : decode cJ6_bitCount_0f7a4 15 = .ok (.iload_n 0, 1) := by decide +kernel
theorem dJ6_bitCount_0f7a4_16 : decode cJ6_bitCount_0f7a4 16 = .ok (.iconst 2, 1) := by decide +kernel
theorem dJ6_bitCount_0f7a4_17 : decode cJ6_bitCount_0f7a4 17 = .ok (.iushr, 1) := by decide +kernel
theorem dJ6_bitCount_0f7a4_18 : decode cJ6_bitCount_0f7a4 18 = .ok (.ldc_w 266, 3) := by decide +kernel
theorem dJ6_bitCount_0f7a4_21 : decode cJ6_bitCount_0f7a4 21 = .ok (.iand, 1) := by decide +kernel
theorem dJ6_bitCount_0f7a4_22 : decode cJ6_bitCount_0f7a4 22 = .ok (.iadd, 1) := by decide +kernel
theorem dJ6_bitCount_0f7a4_23 : decode cJ6_bitCount_0f7a4 23 = .ok (.istore_n 0, 1) := by decide +kernel
theorem dJ6_bitCount_0f7a4_24 : decode cJ6_bitCount_0f7a4 24 = .ok (.iload_n 0, 1) := by decide +kernel
theorem dJ6_bitCount_0f7a4_25 : decode cJ6_bitCount_0f7a4 25 = .ok (.iload_n 0, 1) := by decide +kernel
theorem dJ6_bitCount_0f7a4_26 : decode cJ6_bitCount_0f7a4 26 = .ok (.iconst 4, 1) := by decide +kernel
theorem dJ6_bitCount_0f7a4_27 : decode cJ6_bitCount_0f7a4 27 = .ok (.iushr, 1) := by decide +kernel
theorem dJ6_bitCount_0f7a4_28 : decode cJ6_bitCount_0f7a4 28 = .ok (.iadd, 1) := by decide +kernel
theorem dJ6_bitCount_0f7a4_29 : decode cJ6_bitCount_0f7a4 29 = .ok (.ldc_w 267, 3) := by decide +kernel
theorem dJ6_bitCount_0f7a4_32 : decode cJ6_bitCount_0f7a4 32 = .ok (.iand, 1) := by decide +kernel
theorem dJ6_bitCount_0f7a4_33 : decode cJ6_bitCount_0f7a4 33 = .ok (.istore_n 0, 1) := by decide +kernel
theorem dJ6_bitCount_0f7a4_34 : decode cJ6_bitCount_0f7a4 34 = .ok (.iload_n 0, 1) := by decide +kernel
theorem dJ6_bitCount_0f7a4_35 : decode cJ6_bitCount_0f7a4 35 = .ok (.iload_n 0, 1) := by decide +kernel
theorem dJ6_bitCount_0f7a4_36 : decode cJ6_bitCount_0f7a4 36 = .ok (.bipush 8, 2) := by decide +kernel
theorem dJ6_bitCount_0f7a4_38 : decode cJ6_bitCount_0f7a4 38 = .ok (.iushr, 1) := by decide +kernel
theorem dJ6_bitCount_0f7a4_39 : decode cJ6_bitCount_0f7a4 39 = .ok (.iadd, 1) := by decide +kernel
theorem dJ6_bitCount_0f7a4_40 : decode cJ6_bitCount_0f7a4 40 = .ok (.istore_n 0, 1) := by decide +kernel
theorem dJ6_bitCount_0f7a4_41 : decode cJ6_bitCount_0f7a4 41 = .ok (.iload_n 0, 1) := by decide +kernel
theorem dJ6_bitCount_0f7a4_42 : decode cJ6_bitCount_0f7a4 42 = .ok (.iload_n 0, 1) := by decide +kernel
theorem dJ6_bitCount_0f7a4_43 : decode cJ6_bitCount_0f7a4 43 = .ok (.bipush 16, 2) := by decide +kernel
theorem dJ6_bitCount_0f7a4_45 : decode cJ6_bitCount_0f7a4 45 = .ok (.iushr, 1) := by decide +kernel
theorem dJ6_bitCount_0f7a4_46 : decode cJ6_bitCount_0f7a4 46 = .ok (.iadd, 1) := by decide +kernel
theorem dJ6_bitCount_0f7a4_47 : decode cJ6_bitCount_0f7a4 47 = .ok (.istore_n 0, 1) := by decide +kernel
theorem dJ6_bitCount_0f7a4_48 : decode cJ6_bitCount_0f7a4 48 = .ok (.iload_n 0, 1) := by decide +kernel
theorem dJ6_bitCount_0f7a4_49 : decode cJ6_bitCount_0f7a4 49 = .ok (.bipush 63, 2) := by decide +kernel
theorem dJ6_bitCount_0f7a4_51 : decode cJ6_bitCount_0f7a4 51 = .ok (.iand, 1) := by decide +kernel
theorem dJ6_bitCount_0f7a4_52 : decode cJ6_bitCount_0f7a4 52 = .ok (.ireturn, 1) := by decide +kernel
set_option maxHeartbeats 4000000 in
set_option maxRecDepth 100000 in
theorem c_bit0 (l : Launch) (G : zz_G) : zz_M l G mJ6_bitCount_0f7a4 0 0 0 [.int 0] [] (fun rr u => rr = some (.int 0) ∧ u = []) := by
  refine zz_enteri (by decide +kernel) (Nat.le_of_ble_eq_true rfl) ?_
  intro p e s m args below meth c A Q ls S hnm hret hw hl
  have hl : lv_has ls 1 [(0, .int 0)] := hl
  have hx := S.1
  have hb := S.2.1
  refine lv_iload_n hx hb dJ6_bitCount_0f7a4_0 rfl (lv_at hl 0 rfl) ?_
  refine lv_iload_n hx hb dJ6_bitCount_0f7a4_1 rfl (lv_at hl 0 rfl) ?_
  refine lv_iconst (v := 1) hx hb dJ6_bitCount_0f7a4_2 (by decide) ?_
  refine lv_iushr (v := 0) hx hb dJ6_bitCount_0f7a4_3 (by decide) ?_
  refine lv_ldcw (v := 1431655765) hx hb S.2.2.2.1 (S.2.2.2.2 _ (zz_c4 168 rfl rfl)) dJ6_bitCount_0f7a4_4 ?_
  refine lv_iand hx hb dJ6_bitCount_0f7a4_7 ?_
  refine zz_topi (y := 0) (by decide) ?_
  refine lv_isub hx hb dJ6_bitCount_0f7a4_8 ?_
  refine zz_topi (y := 0) (by decide) ?_
  refine lv_istore_n (lv' := [(0, .int 0)]) hx hb dJ6_bitCount_0f7a4_9 rfl hl (by decide) rfl (fun ls hl => ?_)
  refine lv_iload_n hx hb dJ6_bitCount_0f7a4_10 rfl (lv_at hl 0 rfl) ?_
  refine lv_ldcw (v := 858993459) hx hb S.2.2.2.1 (S.2.2.2.2 _ (zz_c4 169 rfl rfl)) dJ6_bitCount_0f7a4_11 ?_
  refine lv_iand hx hb dJ6_bitCount_0f7a4_14 ?_
  refine zz_topi (y := 0) (by decide) ?_
  refine lv_iload_n hx hb dJ6_bitCount_0f7a4_15 rfl (lv_at hl 0 rfl) ?_
  refine lv_iconst (v := 2) hx hb dJ6_bitCount_0f7a4_16 (by decide) ?_
  refine lv_iushr (v := 0) hx hb dJ6_bitCount_0f7a4_17 (by decide) ?_
  refine lv_ldcw (v := 858993459) hx hb S.2.2.2.1 (S.2.2.2.2 _ (zz_c4 169 rfl rfl)) dJ6_bitCount_0f7a4_18 ?_
  refine lv_iand hx hb dJ6_bitCount_0f7a4_21 ?_
  refine zz_topi (y := 0) (by decide) ?_
  refine lv_iadd hx hb dJ6_bitCount_0f7a4_22 ?_
  refine zz_topi (y := 0) (by decide) ?_
  refine lv_istore_n (lv' := [(0, .int 0)]) hx hb dJ6_bitCount_0f7a4_23 rfl hl (by decide) rfl (fun ls hl => ?_)
  refine lv_iload_n hx hb dJ6_bitCount_0f7a4_24 rfl (lv_at hl 0 rfl) ?_
  refine lv_iload_n hx hb dJ6_bitCount_0f7a4_25 rfl (lv_at hl 0 rfl) ?_
  refine lv_iconst (v := 4) hx hb dJ6_bitCount_0f7a4_26 (by decide) ?_
  refine lv_iushr (v := 0) hx hb dJ6_bitCount_0f7a4_27 (by decide) ?_
  refine lv_iadd hx hb dJ6_bitCount_0f7a4_28 ?_
  refine zz_topi (y := 0) (by decide) ?_
  refine lv_ldcw (v := 252645135) hx hb S.2.2.2.1 (S.2.2.2.2 _ (zz_c4 170 rfl rfl)) dJ6_bitCount_0f7a4_29 ?_
  refine lv_iand hx hb dJ6_bitCount_0f7a4_32 ?_
  refine zz_topi (y := 0) (by decide) ?_
  refine lv_istore_n (lv' := [(0, .int 0)]) hx hb dJ6_bitCount_0f7a4_33 rfl hl (by decide) rfl (fun ls hl => ?_)
  refine lv_iload_n hx hb dJ6_bitCount_0f7a4_34 rfl (lv_at hl 0 rfl) ?_
  refine lv_iload_n hx hb dJ6_bitCount_0f7a4_35 rfl (lv_at hl 0 rfl) ?_
  refine lv_bipush (v := 8) hx hb dJ6_bitCount_0f7a4_36 (by decide) ?_
  refine lv_iushr (v := 0) hx hb dJ6_bitCount_0f7a4_38 (by decide) ?_
  refine lv_iadd hx hb dJ6_bitCount_0f7a4_39 ?_
  refine zz_topi (y := 0) (by decide) ?_
  refine lv_istore_n (lv' := [(0, .int 0)]) hx hb dJ6_bitCount_0f7a4_40 rfl hl (by decide) rfl (fun ls hl => ?_)
  refine lv_iload_n hx hb dJ6_bitCount_0f7a4_41 rfl (lv_at hl 0 rfl) ?_
  refine lv_iload_n hx hb dJ6_bitCount_0f7a4_42 rfl (lv_at hl 0 rfl) ?_
  refine lv_bipush (v := 16) hx hb dJ6_bitCount_0f7a4_43 (by decide) ?_
  refine lv_iushr (v := 0) hx hb dJ6_bitCount_0f7a4_45 (by decide) ?_
  refine lv_iadd hx hb dJ6_bitCount_0f7a4_46 ?_
  refine zz_topi (y := 0) (by decide) ?_
  refine lv_istore_n (lv' := [(0, .int 0)]) hx hb dJ6_bitCount_0f7a4_47 rfl hl (by decide) rfl (fun ls hl => ?_)
  refine lv_iload_n hx hb dJ6_bitCount_0f7a4_48 rfl (lv_at hl 0 rfl) ?_
  refine lv_bipush (v := 63) hx hb dJ6_bitCount_0f7a4_49 (by decide) ?_
  refine lv_iand hx hb dJ6_bitCount_0f7a4_51 ?_
  refine zz_topi (y := 0) (by decide) ?_
  exact hret _ _ _ _ _ _ ⟨rfl, rfl⟩ hw rfl dJ6_bitCount_0f7a4_52
theorem dX9_person_0 : decode cX9_person 0 = .ok (.aload_n 0, 1) := by decide +kernel
theorem dX9_person_1 : decode cX9_person 1 = .ok (.iload_n 1, 1) := by decide +kernel
theorem dX9_person_2 : decode cX9_person 2 = .ok (.invokevirtual 121, 3) := by decide +kernel
theorem dX9_person_5 : decode cX9_person 5 = .ok (.ifCond .ne 5, 3) := by decide +kernel
theorem dX9_person_8 : decode cX9_person 8 = .ok (.iconst (-1), 1) := by decide +kernel
theorem dX9_person_9 : decode cX9_person 9 = .ok (.ireturn, 1) := by decide +kernel
theorem dX9_person_10 : decode cX9_person 10 = .ok (.iload_n 2, 1) := by decide +kernel
theorem dX9_person_11 : decode cX9_person 11 = .ok (.tableswitch 129 0 6 #[41, 51, 61, 71, 81, 98, 123], 41) := by decide +kernel
theorem dX9_person_52 : decode cX9_person 52 = .ok (.aload_n 0, 1) := by decide +kernel
theorem dX9_person_53 : decode cX9_person 53 = .ok (.getfield 40, 3) := by decide +kernel
theorem dX9_person_56 : decode cX9_person 56 = .ok (.getfield 125, 3) := by decide +kernel
theorem dX9_person_59 : decode cX9_person 59 = .ok (.iload_n 1, 1) := by decide +kernel
theorem dX9_person_60 : decode cX9_person 60 = .ok (.iaload, 1) := by decide +kernel
theorem dX9_person_61 : decode cX9_person 61 = .ok (.ireturn, 1) := by decide +kernel
theorem dX9_person_62 : decode cX9_person 62 = .ok (.aload_n 0, 1) := by decide +kernel
theorem dX9_person_63 : decode cX9_person 63 = .ok (.getfield 30, 3) := by decide +kernel
theorem dX9_person_66 : decode cX9_person 66 = .ok (.getfield 129, 3) := by decide +kernel
theorem dX9_person_69 : decode cX9_person 69 = .ok (.iload_n 1, 1) := by decide +kernel
theorem dX9_person_70 : decode cX9_person 70 = .ok (.iaload, 1) := by decide +kernel
theorem dX9_person_71 : decode cX9_person 71 = .ok (.ireturn, 1) := by decide +kernel
theorem dX9_person_72 : decode cX9_person 72 = .ok (.aload_n 0, 1) := by decide +kernel
theorem dX9_person_73 : decode cX9_person 73 = .ok (.getfield 30, 3) := by decide +kernel
theorem dX9_person_76 : decode cX9_person 76 = .ok (.getfield 132, 3) := by decide +kernel
theorem dX9_person_79 : decode cX9_person 79 = .ok (.iload_n 1, 1) := by decide +kernel
theorem dX9_person_80 : decode cX9_person 80 = .ok (.iaload, 1) := by decide +kernel
theorem dX9_person_81 : decode cX9_person 81 = .ok (.ireturn, 1) := by decide +kernel
theorem dX9_person_82 : decode cX9_person 82 = .ok (.aload_n 0, 1) := by decide +kernel
theorem dX9_person_83 : decode cX9_person 83 = .ok (.getfield 40, 3) := by decide +kernel
theorem dX9_person_86 : decode cX9_person 86 = .ok (.getfield 135, 3) := by decide +kernel
theorem dX9_person_89 : decode cX9_person 89 = .ok (.iload_n 1, 1) := by decide +kernel
theorem dX9_person_90 : decode cX9_person 90 = .ok (.iaload, 1) := by decide +kernel
theorem dX9_person_91 : decode cX9_person 91 = .ok (.ireturn, 1) := by decide +kernel
theorem dX9_person_92 : decode cX9_person 92 = .ok (.aload_n 0, 1) := by decide +kernel
theorem dX9_person_93 : decode cX9_person 93 = .ok (.getfield 40, 3) := by decide +kernel
theorem dX9_person_96 : decode cX9_person 96 = .ok (.iload_n 1, 1) := by decide +kernel
theorem dX9_person_97 : decode cX9_person 97 = .ok (.invokevirtual 138, 3) := by decide +kernel
theorem dX9_person_100 : decode cX9_person 100 = .ok (.ifCond .eq 7, 3) := by decide +kernel
theorem dX9_person_103 : decode cX9_person 103 = .ok (.iconst 1, 1) := by decide +kernel
theorem dX9_person_104 : decode cX9_person 104 = .ok (.goto 4, 3) := by decide +kernel
theorem dX9_person_107 : decode cX9_person 107 = .ok (.iconst 0, 1) := by decide +kernel
theorem dX9_person_108 : decode cX9_person 108 = .ok (.ireturn, 1) := by decide +kernel
theorem dX9_person_109 : decode cX9_person 109 = .ok (.aload_n 0, 1) := by decide +kernel
theorem dX9_person_110 : decode cX9_person 110 = .ok (.getfield 50, 3) := by decide +kernel
theorem dX9_person_113 : decode cX9_person 113 = .ok (.aload_n 0, 1) := by decide +kernel
theorem dX9_person_114 : decode cX9_person 114 = .ok (.getfield 30, 3) := by decide +kernel
theorem dX9_person_117 : decode cX9_person 117 = .ok (.aload_n 0, 1) := by decide +kernel
theorem dX9_person_118 : decode cX9_person 118 = .ok (.getfield 40, 3) := by decide +kernel
theorem dX9_person_121 : decode cX9_person 121 = .ok (.invokevirtual 141, 3) := by decide +kernel
theorem dX9_person_124 : decode cX9_person 124 = .ok (.aload_n 0, 1) := by decide +kernel
theorem dX9_person_125 : decode cX9_person 125 = .ok (.getfield 50, 3) := by decide +kernel
theorem dX9_person_128 : decode cX9_person 128 = .ok (.getfield 145, 3) := by decide +kernel
theorem dX9_person_131 : decode cX9_person 131 = .ok (.iload_n 1, 1) := by decide +kernel
theorem dX9_person_132 : decode cX9_person 132 = .ok (.iaload, 1) := by decide +kernel
theorem dX9_person_133 : decode cX9_person 133 = .ok (.ireturn, 1) := by decide +kernel
theorem dX9_person_134 : decode cX9_person 134 = .ok (.aload_n 0, 1) := by decide +kernel
theorem dX9_person_135 : decode cX9_person 135 = .ok (.iload_n 1, 1) := by decide +kernel
theorem dX9_person_136 : decode cX9_person 136 = .ok (.invokevirtual 148, 3) := by decide +kernel
theorem dX9_person_139 : decode cX9_person 139 = .ok (.ireturn, 1) := by decide +kernel
theorem dX9_person_140 : decode cX9_person 140 = .ok (.iconst (-1), 1) := by decide +kernel
theorem dX9_person_141 : decode cX9_person 141 = .ok (.ireturn, 1) := by decide +kernel
set_option maxHeartbeats 4000000 in
set_option maxRecDepth 100000 in
theorem c_person (l : Launch) (G : zz_G) (r : Nat → Nat) (a : Int32) (b : Int32) : zz_M l G mX9_person 6 0 0 [.ref (r 0), .int a, .int b] [((r 0), .inr (9, [.ref (r 1), .int 0, .ref (r 2), .int (-1), .ref (r 10), .ref (r 20), .ref (r 50), .ref (r 55), .ref (r 60), .ref (r 63), .ref (r 67), .ref (r 74), .ref (r 78), .ref (r 95)])), ((r 10), .inr (5, [.ref (r 11), .ref (r 12), .ref (r 13), .ref (r 14), .ref (r 15), .ref (r 16), .ref (r 17), .ref (r 18), .ref (r 19), .int 0, .int 0, .int 1, .int 0]))] (fun rr u => rr = some (.int (-1)) ∧ u = []) := by
  refine zz_enteri (by decide +kernel) (Nat.le_of_ble_eq_true rfl) ?_
  intro p e s m args below meth c A Q ls S hnm hret hw hl
  have hl : lv_has ls 3 [(0, .ref (r 0)), (1, .int a), (2, .int b)] := hl
  have hx := S.1
  have hb := S.2.1
  refine lv_aload_n hx hb dX9_person_0 rfl (lv_at hl 0 rfl) ?_
  refine lv_iload_n hx hb dX9_person_1 rfl (lv_at hl 1 rfl) ?_
  refine zz_callV (qb := 0) (As := [.int a]) (rest := []) (wr := []) S hw hl.1 lX9_121 (c_isPerson l G r a) ⟨Nat.le_of_ble_eq_true rfl, Nat.le_of_ble_eq_true rfl⟩ ⟨Nat.le_of_ble_eq_true rfl, Nat.le_of_ble_eq_true rfl⟩ [0, 1] [] (by decide) rfl rfl (by decide) (by decide) rfl rfl rfl rfl (Nat.le_of_ble_eq_true rfl) dX9_person_2 (fun rr u H locs hp hw => ?_)
  obtain ⟨rfl, rfl⟩ := hp
  have hw : zz_w G A s [((r 0), .inr (9, [.ref (r 1), .int 0, .ref (r 2), .int (-1), .ref (r 10), .ref (r 20), .ref (r 50), .ref (r 55), .ref (r 60), .ref (r 63), .ref (r 67), .ref (r 74), .ref (r 78), .ref (r 95)])), ((r 10), .inr (5, [.ref (r 11), .ref (r 12), .ref (r 13), .ref (r 14), .ref (r 15), .ref (r 16), .ref (r 17), .ref (r 18), .ref (r 19), .int 0, .int 0, .int 1, .int 0]))] H _ := hw
  refine W.eq (g2 := F0 m 5 ls [.int 0]) rfl ?_
  refine lv_if_ne (tgt := 10) hx hb dX9_person_5 (by decide) (fun cc => absurd cc (by decide)) (fun _ => ?_)
  refine lv_iconst (v := (-1)) hx hb dX9_person_8 (by decide) ?_
  exact hret _ _ _ _ _ _ ⟨rfl, rfl⟩ (hw.sub [] (by decide) rfl) rfl dX9_person_9
theorem dX9_costs_0 : decode cX9_costs 0 = .ok (.aload_n 0, 1) := by decide +kernel
theorem dX9_costs_1 : decode cX9_costs 1 = .ok (.iload_n 1, 1) := by decide +kernel
theorem dX9_costs_2 : decode cX9_costs 2 = .ok (.invokevirtual 121, 3) := by decide +kernel
theorem dX9_costs_5 : decode cX9_costs 5 = .ok (.ifCond .eq 20, 3) := by decide +kernel
theorem dX9_costs_8 : decode cX9_costs 8 = .ok (.aload_n 0, 1) := by decide +kernel
theorem dX9_costs_9 : decode cX9_costs 9 = .ok (.iload_n 2, 1) := by decide +kernel
theorem dX9_costs_10 : decode cX9_costs 10 = .ok (.invokevirtual 154, 3) := by decide +kernel
theorem dX9_costs_13 : decode cX9_costs 13 = .ok (.ifCond .eq 12, 3) := by decide +kernel
theorem dX9_costs_16 : decode cX9_costs 16 = .ok (.aload_n 0, 1) := by decide +kernel
theorem dX9_costs_17 : decode cX9_costs 17 = .ok (.iload_n 1, 1) := by decide +kernel
theorem dX9_costs_18 : decode cX9_costs 18 = .ok (.iload_n 2, 1) := by decide +kernel
theorem dX9_costs_19 : decode cX9_costs 19 = .ok (.invokevirtual 234, 3) := by decide +kernel
theorem dX9_costs_22 : decode cX9_costs 22 = .ok (.goto 4, 3) := by decide +kernel
theorem dX9_costs_25 : decode cX9_costs 25 = .ok (.iconst (-1), 1) := by decide +kernel
theorem dX9_costs_26 : decode cX9_costs 26 = .ok (.ireturn, 1) := by decide +kernel
set_option maxHeartbeats 4000000 in
set_option maxRecDepth 100000 in
theorem c_costs (l : Launch) (G : zz_G) (r : Nat → Nat) (a : Int32) (b : Int32) : zz_M l G mX9_costs 5 0 0 [.ref (r 0), .int a, .int b] [((r 0), .inr (9, [.ref (r 1), .int 0, .ref (r 2), .int (-1), .ref (r 10), .ref (r 20), .ref (r 50), .ref (r 55), .ref (r 60), .ref (r 63), .ref (r 67), .ref (r 74), .ref (r 78), .ref (r 95)])), ((r 10), .inr (5, [.ref (r 11), .ref (r 12), .ref (r 13), .ref (r 14), .ref (r 15), .ref (r 16), .ref (r 17), .ref (r 18), .ref (r 19), .int 0, .int 0, .int 1, .int 0]))] (fun rr u => rr = some (.int (-1)) ∧ u = []) := by
  refine zz_enteri (by decide +kernel) (Nat.le_of_ble_eq_true rfl) ?_
  intro p e s m args below meth c A Q ls S hnm hret hw hl
  have hl : lv_has ls 3 [(0, .ref (r 0)), (1, .int a), (2, .int b)] := hl
  have hx := S.1
  have hb := S.2.1
  refine lv_aload_n hx hb dX9_costs_0 rfl (lv_at hl 0 rfl) ?_
  refine lv_iload_n hx hb dX9_costs_1 rfl (lv_at hl 1 rfl) ?_
  refine zz_callV (qb := 0) (As := [.int a]) (rest := []) (wr := []) S hw hl.1 lX9_121 (c_isPerson l G r a) ⟨Nat.le_of_ble_eq_true rfl, Nat.le_of_ble_eq_true rfl⟩ ⟨Nat.le_of_ble_eq_true rfl, Nat.le_of_ble_eq_true rfl⟩ [0, 1] [] (by decide) rfl rfl (by decide) (by decide) rfl rfl rfl rfl (Nat.le_of_ble_eq_true rfl) dX9_costs_2 (fun rr u H locs hp hw => ?_)
  obtain ⟨rfl, rfl⟩ := hp
  have hw : zz_w G A s [((r 0), .inr (9, [.ref (r 1), .int 0, .ref (r 2), .int (-1), .ref (r 10), .ref (r 20), .ref (r 50), .ref (r 55), .ref (r 60), .ref (r 63), .ref (r 67), .ref (r 74), .ref (r 78), .ref (r 95)])), ((r 10), .inr (5, [.ref (r 11), .ref (r 12), .ref (r 13), .ref (r 14), .ref (r 15), .ref (r 16), .ref (r 17), .ref (r 18), .ref (r 19), .int 0, .int 0, .int 1, .int 0]))] H _ := hw
  refine W.eq (g2 := F0 m 5 ls [.int 0]) rfl ?_
  refine lv_if_eq (tgt := 25) hx hb dX9_costs_5 (by decide) (fun _ => ?_) (fun cc => absurd cc (by decide))
  refine lv_iconst (v := (-1)) hx hb dX9_costs_25 (by decide) ?_
  exact hret _ _ _ _ _ _ ⟨rfl, rfl⟩ (hw.sub [] (by decide) rfl) rfl dX9_costs_26
theorem dX9_trade_0 : decode cX9_trade 0 = .ok (.aload_n 0, 1) := by decide +kernel
theorem dX9_trade_1 : decode cX9_trade 1 = .ok (.iload_n 1, 1) := by decide +kernel
theorem dX9_trade_2 : decode cX9_trade 2 = .ok (.invokevirtual 121, 3) := by decide +kernel
theorem dX9_trade_5 : decode cX9_trade 5 = .ok (.ifCond .eq 16, 3) := by decide +kernel
theorem dX9_trade_8 : decode cX9_trade 8 = .ok (.aload_n 0, 1) := by decide +kernel
theorem dX9_trade_9 : decode cX9_trade 9 = .ok (.iload_n 2, 1) := by decide +kernel
theorem dX9_trade_10 : decode cX9_trade 10 = .ok (.invokevirtual 121, 3) := by decide +kernel
theorem dX9_trade_13 : decode cX9_trade 13 = .ok (.ifCond .eq 8, 3) := by decide +kernel
theorem dX9_trade_16 : decode cX9_trade 16 = .ok (.iload_n 1, 1) := by decide +kernel
theorem dX9_trade_17 : decode cX9_trade 17 = .ok (.iload_n 2, 1) := by decide +kernel
theorem dX9_trade_18 : decode cX9_trade 18 = .ok (.if_icmp .ne 7, 3) := by decide +kernel
theorem dX9_trade_21 : decode cX9_trade 21 = .ok (.ldc_w 260, 3) := by decide +kernel
theorem dX9_trade_24 : decode cX9_trade 24 = .ok (.ireturn, 1) := by decide +kernel
theorem dX9_trade_25 : decode cX9_trade 25 = .ok (.aload_n 0, 1) := by decide +kernel
theorem dX9_trade_26 : decode cX9_trade 26 = .ok (.getfield 44, 3) := by decide +kernel
theorem dX9_trade_29 : decode cX9_trade 29 = .ok (.aload_n 0, 1) := by decide +kernel
theorem dX9_trade_30 : decode cX9_trade 30 = .ok (.getfield 40, 3) := by decide +kernel
theorem dX9_trade_33 : decode cX9_trade 33 = .ok (.invokevirtual 244, 3) := by decide +kernel
theorem dX9_trade_36 : decode cX9_trade 36 = .ok (.aload_n 0, 1) := by decide +kernel
theorem dX9_trade_37 : decode cX9_trade 37 = .ok (.getfield 44, 3) := by decide +kernel
theorem dX9_trade_40 : decode cX9_trade 40 = .ok (.getfield 125, 3) := by decide +kernel
theorem dX9_trade_43 : decode cX9_trade 43 = .ok (.iload_n 1, 1) := by decide +kernel
theorem dX9_trade_44 : decode cX9_trade 44 = .ok (.aload_n 0, 1) := by decide +kernel
theorem dX9_trade_45 : decode cX9_trade 45 = .ok (.getfield 40, 3) := by decide +kernel
theorem dX9_trade_48 : decode cX9_trade 48 = .ok (.getfield 125, 3) := by decide +kernel
theorem dX9_trade_51 : decode cX9_trade 51 = .ok (.iload_n 2, 1) := by decide +kernel
theorem dX9_trade_52 : decode cX9_trade 52 = .ok (.iaload, 1) := by decide +kernel
theorem dX9_trade_53 : decode cX9_trade 53 = .ok (.iastore, 1) := by decide +kernel
theorem dX9_trade_54 : decode cX9_trade 54 = .ok (.aload_n 0, 1) := by decide +kernel
theorem dX9_trade_55 : decode cX9_trade 55 = .ok (.getfield 44, 3) := by decide +kernel
theorem dX9_trade_58 : decode cX9_trade 58 = .ok (.getfield 125, 3) := by decide +kernel
theorem dX9_trade_61 : decode cX9_trade 61 = .ok (.iload_n 2, 1) := by decide +kernel
theorem dX9_trade_62 : decode cX9_trade 62 = .ok (.aload_n 0, 1) := by decide +kernel
theorem dX9_trade_63 : decode cX9_trade 63 = .ok (.getfield 40, 3) := by decide +kernel
theorem dX9_trade_66 : decode cX9_trade 66 = .ok (.getfield 125, 3) := by decide +kernel
theorem dX9_trade_69 : decode cX9_trade 69 = .ok (.iload_n 1, 1) := by decide +kernel
theorem dX9_trade_70 : decode cX9_trade 70 = .ok (.iaload, 1) := by decide +kernel
theorem dX9_trade_71 : decode cX9_trade 71 = .ok (.iastore, 1) := by decide +kernel
theorem dX9_trade_72 : decode cX9_trade 72 = .ok (.aload_n 0, 1) := by decide +kernel
theorem dX9_trade_73 : decode cX9_trade 73 = .ok (.aload_n 0, 1) := by decide +kernel
theorem dX9_trade_74 : decode cX9_trade 74 = .ok (.getfield 44, 3) := by decide +kernel
theorem dX9_trade_77 : decode cX9_trade 77 = .ok (.invokevirtual 256, 3) := by decide +kernel
theorem dX9_trade_80 : decode cX9_trade 80 = .ok (.aload_n 0, 1) := by decide +kernel
theorem dX9_trade_81 : decode cX9_trade 81 = .ok (.aload_n 0, 1) := by decide +kernel
theorem dX9_trade_82 : decode cX9_trade 82 = .ok (.getfield 40, 3) := by decide +kernel
theorem dX9_trade_85 : decode cX9_trade 85 = .ok (.invokevirtual 256, 3) := by decide +kernel
theorem dX9_trade_88 : decode cX9_trade 88 = .ok (.isub, 1) := by decide +kernel
theorem dX9_trade_89 : decode cX9_trade 89 = .ok (.ireturn, 1) := by decide +kernel
set_option maxHeartbeats 4000000 in
set_option maxRecDepth 100000 in
theorem c_trade (l : Launch) (G : zz_G) (r : Nat → Nat) (a : Int32) (b : Int32) : zz_M l G mX9_trade 7 0 0 [.ref (r 0), .int a, .int b] [((r 0), .inr (9, [.ref (r 1), .int 0, .ref (r 2), .int (-1), .ref (r 10), .ref (r 20), .ref (r 50), .ref (r 55), .ref (r 60), .ref (r 63), .ref (r 67), .ref (r 74), .ref (r 78), .ref (r 95)])), ((r 10), .inr (5, [.ref (r 11), .ref (r 12), .ref (r 13), .ref (r 14), .ref (r 15), .ref (r 16), .ref (r 17), .ref (r 18), .ref (r 19), .int 0, .int 0, .int 1, .int 0]))] (fun rr u => rr = some (.int (-100000)) ∧ u = []) := by
  refine zz_enteri (by decide +kernel) (Nat.le_of_ble_eq_true rfl) ?_
  intro p e s m args below meth c A Q ls S hnm hret hw hl
  have hl : lv_has ls 3 [(0, .ref (r 0)), (1, .int a), (2, .int b)] := hl
  have hx := S.1
  have hb := S.2.1
  refine lv_aload_n hx hb dX9_trade_0 rfl (lv_at hl 0 rfl) ?_
  refine lv_iload_n hx hb dX9_trade_1 rfl (lv_at hl 1 rfl) ?_
  refine zz_callV (qb := 0) (As := [.int a]) (rest := []) (wr := []) S hw hl.1 lX9_121 (c_isPerson l G r a) ⟨Nat.le_of_ble_eq_true rfl, Nat.le_of_ble_eq_true rfl⟩ ⟨Nat.le_of_ble_eq_true rfl, Nat.le_of_ble_eq_true rfl⟩ [0, 1] [] (by decide) rfl rfl (by decide) (by decide) rfl rfl rfl rfl (Nat.le_of_ble_eq_true rfl) dX9_trade_2 (fun rr u H locs hp hw => ?_)
  obtain ⟨rfl, rfl⟩ := hp
  have hw : zz_w G A s [((r 0), .inr (9, [.ref (r 1), .int 0, .ref (r 2), .int (-1), .ref (r 10), .ref (r 20), .ref (r 50), .ref (r 55), .ref (r 60), .ref (r 63), .ref (r 67), .ref (r 74), .ref (r 78), .ref (r 95)])), ((r 10), .inr (5, [.ref (r 11), .ref (r 12), .ref (r 13), .ref (r 14), .ref (r 15), .ref (r 16), .ref (r 17), .ref (r 18), .ref (r 19), .int 0, .int 0, .int 1, .int 0]))] H _ := hw
  refine W.eq (g2 := F0 m 5 ls [.int 0]) rfl ?_
  refine lv_if_eq (tgt := 21) hx hb dX9_trade_5 (by decide) (fun _ => ?_) (fun cc => absurd cc (by decide))
  refine lv_ldcw (v := (-100000)) hx hb S.2.2.2.1 (S.2.2.2.2 _ (zz_c4 218 rfl rfl)) dX9_trade_21 ?_
  exact hret _ _ _ _ _ _ ⟨rfl, rfl⟩ (hw.sub [] (by decide) rfl) rfl dX9_trade_24
theorem dX9_habit_0 : decode cX9_habit 0 = .ok (.aload_n 0, 1) := by decide +kernel
theorem dX9_habit_1 : decode cX9_habit 1 = .ok (.iload_n 1, 1) := by decide +kernel
theorem dX9_habit_2 : decode cX9_habit 2 = .ok (.invokevirtual 121, 3) := by decide +kernel
theorem dX9_habit_5 : decode cX9_habit 5 = .ok (.ifCond .eq 10, 3) := by decide +kernel
theorem dX9_habit_8 : decode cX9_habit 8 = .ok (.iload_n 2, 1) := by decide +kernel
theorem dX9_habit_9 : decode cX9_habit 9 = .ok (.invokestatic 210, 3) := by decide +kernel
theorem dX9_habit_12 : decode cX9_habit 12 = .ok (.ifCond .ne 5, 3) := by decide +kernel
theorem dX9_habit_15 : decode cX9_habit 15 = .ok (.iconst (-1), 1) := by decide +kernel
theorem dX9_habit_16 : decode cX9_habit 16 = .ok (.ireturn, 1) := by decide +kernel
theorem dX9_habit_17 : decode cX9_habit 17 = .ok (.bipush (-2), 2) := by decide +kernel
theorem dX9_habit_19 : decode cX9_habit 19 = .ok (.istore_n 3, 1) := by decide +kernel
theorem dX9_habit_20 : decode cX9_habit 20 = .ok (.iconst 0, 1) := by decide +kernel
theorem dX9_habit_21 : decode cX9_habit 21 = .ok (.istore 4, 2) := by decide +kernel
theorem dX9_habit_23 : decode cX9_habit 23 = .ok (.iconst 0, 1) := by decide +kernel
theorem dX9_habit_24 : decode cX9_habit 24 = .ok (.istore 5, 2) := by decide +kernel
theorem dX9_habit_26 : decode cX9_habit 26 = .ok (.iload 5, 2) := by decide +kernel
theorem dX9_habit_28 : decode cX9_habit 28 = .ok (.aload_n 0, 1) := by decide +kernel
theorem dX9_habit_29 : decode cX9_habit 29 = .ok (.getfield 30, 3) := by decide +kernel
theorem dX9_habit_32 : decode cX9_habit 32 = .ok (.getfield 108, 3) := by decide +kernel
theorem dX9_habit_35 : decode cX9_habit 35 = .ok (.if_icmp .ge 39, 3) := by decide +kernel
theorem dX9_habit_38 : decode cX9_habit 38 = .ok (.aload_n 0, 1) := by decide +kernel
theorem dX9_habit_39 : decode cX9_habit 39 = .ok (.getfield 40, 3) := by decide +kernel
theorem dX9_habit_42 : decode cX9_habit 42 = .ok (.iload_n 1, 1) := by decide +kernel
theorem dX9_habit_43 : decode cX9_habit 43 = .ok (.iload 5, 2) := by decide +kernel
theorem dX9_habit_45 : decode cX9_habit 45 = .ok (.invokevirtual 151, 3) := by decide +kernel
theorem dX9_habit_48 : decode cX9_habit 48 = .ok (.iload 4, 2) := by decide +kernel
theorem dX9_habit_50 : decode cX9_habit 50 = .ok (.if_icmp .le 18, 3) := by decide +kernel
theorem dX9_habit_53 : decode cX9_habit 53 = .ok (.aload_n 0, 1) := by decide +kernel
theorem dX9_habit_54 : decode cX9_habit 54 = .ok (.getfield 40, 3) := by decide +kernel
theorem dX9_habit_57 : decode cX9_habit 57 = .ok (.iload_n 1, 1) := by decide +kernel
theorem dX9_habit_58 : decode cX9_habit 58 = .ok (.iload 5, 2) := by decide +kernel
theorem dX9_habit_60 : decode cX9_habit 60 = .ok (.invokevirtual 151, 3) := by decide +kernel
theorem dX9_habit_63 : decode cX9_habit 63 = .ok (.istore 4, 2) := by decide +kernel
theorem dX9_habit_65 : decode cX9_habit 65 = .ok (.iload 5, 2) := by decide +kernel
theorem dX9_habit_67 : decode cX9_habit 67 = .ok (.istore_n 3, 1) := by decide +kernel
theorem dX9_habit_68 : decode cX9_habit 68 = .ok (.iinc 5 1, 3) := by decide +kernel
theorem dX9_habit_71 : decode cX9_habit 71 = .ok (.goto (-45), 3) := by decide +kernel
theorem dX9_habit_74 : decode cX9_habit 74 = .ok (.iload_n 2, 1) := by decide +kernel
theorem dX9_habit_75 : decode cX9_habit 75 = .ok (.ifCond .eq 9, 3) := by decide +kernel
theorem dX9_habit_78 : decode cX9_habit 78 = .ok (.iload_n 3, 1) := by decide +kernel
theorem dX9_habit_79 : decode cX9_habit 79 = .ok (.bipush (-2), 2) := by decide +kernel
theorem dX9_habit_81 : decode cX9_habit 81 = .ok (.if_icmp .ne 7, 3) := by decide +kernel
theorem dX9_habit_84 : decode cX9_habit 84 = .ok (.iload_n 3, 1) := by decide +kernel
theorem dX9_habit_85 : decode cX9_habit 85 = .ok (.goto 5, 3) := by decide +kernel
theorem dX9_habit_88 : decode cX9_habit 88 = .ok (.iload 4, 2) := by decide +kernel
theorem dX9_habit_90 : decode cX9_habit 90 = .ok (.ireturn, 1) := by decide +kernel
set_option maxHeartbeats 4000000 in
set_option maxRecDepth 100000 in
theorem c_habit (l : Launch) (G : zz_G) (r : Nat → Nat) (a : Int32) (b : Int32) : zz_M l G mX9_habit 1 0 0 [.ref (r 0), .int a, .int b] [((r 0), .inr (9, [.ref (r 1), .int 0, .ref (r 2), .int (-1), .ref (r 10), .ref (r 20), .ref (r 50), .ref (r 55), .ref (r 60), .ref (r 63), .ref (r 67), .ref (r 74), .ref (r 78), .ref (r 95)])), ((r 10), .inr (5, [.ref (r 11), .ref (r 12), .ref (r 13), .ref (r 14), .ref (r 15), .ref (r 16), .ref (r 17), .ref (r 18), .ref (r 19), .int 0, .int 0, .int 1, .int 0]))] (fun rr u => rr = some (.int (-1)) ∧ u = []) := by
  refine zz_enteri (by decide +kernel) (Nat.le_of_ble_eq_true rfl) ?_
  intro p e s m args below meth c A Q ls S hnm hret hw hl
  have hl : lv_has ls 6 [(0, .ref (r 0)), (1, .int a), (2, .int b)] := hl
  have hx := S.1
  have hb := S.2.1
  refine lv_aload_n hx hb dX9_habit_0 rfl (lv_at hl 0 rfl) ?_
  refine lv_iload_n hx hb dX9_habit_1 rfl (lv_at hl 1 rfl) ?_
  refine zz_callV (qb := 0) (As := [.int a]) (rest := []) (wr := []) S hw hl.1 lX9_121 (c_isPerson l G r a) ⟨Nat.le_of_ble_eq_true rfl, Nat.le_of_ble_eq_true rfl⟩ ⟨Nat.le_of_ble_eq_true rfl, Nat.le_of_ble_eq_true rfl⟩ [0, 1] [] (by decide) rfl rfl (by decide) (by decide) rfl rfl rfl rfl (Nat.le_of_ble_eq_true rfl) dX9_habit_2 (fun rr u H locs hp hw => ?_)
  obtain ⟨rfl, rfl⟩ := hp
  have hw : zz_w G A s [((r 0), .inr (9, [.ref (r 1), .int 0, .ref (r 2), .int (-1), .ref (r 10), .ref (r 20), .ref (r 50), .ref (r 55), .ref (r 60), .ref (r 63), .ref (r 67), .ref (r 74), .ref (r 78), .ref (r 95)])), ((r 10), .inr (5, [.ref (r 11), .ref (r 12), .ref (r 13), .ref (r 14), .ref (r 15), .ref (r 16), .ref (r 17), .ref (r 18), .ref (r 19), .int 0, .int 0, .int 1, .int 0]))] H _ := hw
  refine W.eq (g2 := F0 m 5 ls [.int 0]) rfl ?_
  refine lv_if_eq (tgt := 15) hx hb dX9_habit_5 (by decide) (fun _ => ?_) (fun cc => absurd cc (by decide))
  refine lv_iconst (v := (-1)) hx hb dX9_habit_15 (by decide) ?_
  exact hret _ _ _ _ _ _ ⟨rfl, rfl⟩ (hw.sub [] (by decide) rfl) rfl dX9_habit_16
theorem dX9_bestHour_0 : decode cX9_bestHour 0 = .ok (.aload_n 0, 1) := by decide +kernel
theorem dX9_bestHour_1 : decode cX9_bestHour 1 = .ok (.iload_n 1, 1) := by decide +kernel
theorem dX9_bestHour_2 : decode cX9_bestHour 2 = .ok (.invokevirtual 121, 3) := by decide +kernel
theorem dX9_bestHour_5 : decode cX9_bestHour 5 = .ok (.ifCond .eq 10, 3) := by decide +kernel
theorem dX9_bestHour_8 : decode cX9_bestHour 8 = .ok (.iload_n 2, 1) := by decide +kernel
theorem dX9_bestHour_9 : decode cX9_bestHour 9 = .ok (.invokestatic 210, 3) := by decide +kernel
theorem dX9_bestHour_12 : decode cX9_bestHour 12 = .ok (.ifCond .ne 5, 3) := by decide +kernel
theorem dX9_bestHour_15 : decode cX9_bestHour 15 = .ok (.iconst (-1), 1) := by decide +kernel
theorem dX9_bestHour_16 : decode cX9_bestHour 16 = .ok (.ireturn, 1) := by decide +kernel
theorem dX9_bestHour_17 : decode cX9_bestHour 17 = .ok (.aload_n 0, 1) := by decide +kernel
theorem dX9_bestHour_18 : decode cX9_bestHour 18 = .ok (.getfield 44, 3) := by decide +kernel
theorem dX9_bestHour_21 : decode cX9_bestHour 21 = .ok (.aload_n 0, 1) := by decide +kernel
theorem dX9_bestHour_22 : decode cX9_bestHour 22 = .ok (.getfield 40, 3) := by decide +kernel
theorem dX9_bestHour_25 : decode cX9_bestHour 25 = .ok (.invokevirtual 244, 3) := by decide +kernel
theorem dX9_bestHour_28 : decode cX9_bestHour 28 = .ok (.iconst 0, 1) := by decide +kernel
theorem dX9_bestHour_29 : decode cX9_bestHour 29 = .ok (.istore_n 3, 1) := by decide +kernel
theorem dX9_bestHour_30 : decode cX9_bestHour 30 = .ok (.bipush (-2), 2) := by decide +kernel
theorem dX9_bestHour_32 : decode cX9_bestHour 32 = .ok (.istore 4, 2) := by decide +kernel
theorem dX9_bestHour_34 : decode cX9_bestHour 34 = .ok (.iconst 0, 1) := by decide +kernel
theorem dX9_bestHour_35 : decode cX9_bestHour 35 = .ok (.istore 5, 2) := by decide +kernel
theorem dX9_bestHour_37 : decode cX9_bestHour 37 = .ok (.iload 5, 2) := by decide +kernel
theorem dX9_bestHour_39 : decode cX9_bestHour 39 = .ok (.bipush 24, 2) := by decide +kernel
theorem dX9_bestHour_41 : decode cX9_bestHour 41 = .ok (.if_icmp .ge 93, 3) := by decide +kernel
theorem dX9_bestHour_44 : decode cX9_bestHour 44 = .ok (.aload_n 0, 1) := by decide +kernel
theorem dX9_bestHour_45 : decode cX9_bestHour 45 = .ok (.getfield 44, 3) := by decide +kernel
theorem dX9_bestHour_48 : decode cX9_bestHour 48 = .ok (.getfield 125, 3) := by decide +kernel
theorem dX9_bestHour_51 : decode cX9_bestHour 51 = .ok (.iload_n 1, 1) := by decide +kernel
theorem dX9_bestHour_52 : decode cX9_bestHour 52 = .ok (.iload 5, 2) := by decide +kernel
theorem dX9_bestHour_54 : decode cX9_bestHour 54 = .ok (.iastore, 1) := by decide +kernel
theorem dX9_bestHour_55 : decode cX9_bestHour 55 = .ok (.aload_n 0, 1) := by decide +kernel
theorem dX9_bestHour_56 : decode cX9_bestHour 56 = .ok (.aload_n 0, 1) := by decide +kernel
theorem dX9_bestHour_57 : decode cX9_bestHour 57 = .ok (.getfield 44, 3) := by decide +kernel
theorem dX9_bestHour_60 : decode cX9_bestHour 60 = .ok (.invokevirtual 256, 3) := by decide +kernel
theorem dX9_bestHour_63 : decode cX9_bestHour 63 = .ok (.istore 6, 2) := by decide +kernel
theorem dX9_bestHour_65 : decode cX9_bestHour 65 = .ok (.iload 5, 2) := by decide +kernel
theorem dX9_bestHour_67 : decode cX9_bestHour 67 = .ok (.aload_n 0, 1) := by decide +kernel
theorem dX9_bestHour_68 : decode cX9_bestHour 68 = .ok (.getfield 40, 3) := by decide +kernel
theorem dX9_bestHour_71 : decode cX9_bestHour 71 = .ok (.getfield 125, 3) := by decide +kernel
theorem dX9_bestHour_74 : decode cX9_bestHour 74 = .ok (.iload_n 1, 1) := by decide +kernel
theorem dX9_bestHour_75 : decode cX9_bestHour 75 = .ok (.iaload, 1) := by decide +kernel
theorem dX9_bestHour_76 : decode cX9_bestHour 76 = .ok (.invokestatic 177, 3) := by decide +kernel
theorem dX9_bestHour_79 : decode cX9_bestHour 79 = .ok (.iload_n 3, 1) := by decide +kernel
theorem dX9_bestHour_80 : decode cX9_bestHour 80 = .ok (.aload_n 0, 1) := by decide +kernel
theorem dX9_bestHour_81 : decode cX9_bestHour 81 = .ok (.getfield 40, 3) := by decide +kernel
theorem dX9_bestHour_84 : decode cX9_bestHour 84 = .ok (.getfield 125, 3) := by decide +kernel
theorem dX9_bestHour_87 : decode cX9_bestHour 87 = .ok (.iload_n 1, 1) := by decide +kernel
theorem dX9_bestHour_88 : decode cX9_bestHour 88 = .ok (.iaload, 1) := by decide +kernel
theorem dX9_bestHour_89 : decode cX9_bestHour 89 = .ok (.invokestatic 177, 3) := by decide +kernel
theorem dX9_bestHour_92 : decode cX9_bestHour 92 = .ok (.if_icmp .ge 7, 3) := by decide +kernel
theorem dX9_bestHour_95 : decode cX9_bestHour 95 = .ok (.iconst 1, 1) := by decide +kernel
theorem dX9_bestHour_96 : decode cX9_bestHour 96 = .ok (.goto 4, 3) := by decide +kernel
theorem dX9_bestHour_99 : decode cX9_bestHour 99 = .ok (.iconst 0, 1) := by decide +kernel
theorem dX9_bestHour_100 : decode cX9_bestHour 100 = .ok (.istore 7, 2) := by decide +kernel
theorem dX9_bestHour_102 : decode cX9_bestHour 102 = .ok (.iload 6, 2) := by decide +kernel
theorem dX9_bestHour_104 : decode cX9_bestHour 104 = .ok (.iload 4, 2) := by decide +kernel
theorem dX9_bestHour_106 : decode cX9_bestHour 106 = .ok (.if_icmp .gt 15, 3) := by decide +kernel
theorem dX9_bestHour_109 : decode cX9_bestHour 109 = .ok (.iload 6, 2) := by decide +kernel
theorem dX9_bestHour_111 : decode cX9_bestHour 111 = .ok (.iload 4, 2) := by decide +kernel
theorem dX9_bestHour_113 : decode cX9_bestHour 113 = .ok (.if_icmp .ne 15, 3) := by decide +kernel
theorem dX9_bestHour_116 : decode cX9_bestHour 116 = .ok (.iload 7, 2) := by decide +kernel
theorem dX9_bestHour_118 : decode cX9_bestHour 118 = .ok (.ifCond .eq 10, 3) := by decide +kernel
theorem dX9_bestHour_121 : decode cX9_bestHour 121 = .ok (.iload 6, 2) := by decide +kernel
theorem dX9_bestHour_123 : decode cX9_bestHour 123 = .ok (.istore 4, 2) := by decide +kernel
theorem dX9_bestHour_125 : decode cX9_bestHour 125 = .ok (.iload 5, 2) := by decide +kernel
theorem dX9_bestHour_127 : decode cX9_bestHour 127 = .ok (.istore_n 3, 1) := by decide +kernel
theorem dX9_bestHour_128 : decode cX9_bestHour 128 = .ok (.iinc 5 1, 3) := by decide +kernel
theorem dX9_bestHour_131 : decode cX9_bestHour 131 = .ok (.goto (-94), 3) := by decide +kernel
theorem dX9_bestHour_134 : decode cX9_bestHour 134 = .ok (.iload_n 2, 1) := by decide +kernel
theorem dX9_bestHour_135 : decode cX9_bestHour 135 = .ok (.ifCond .ne 7, 3) := by decide +kernel
theorem dX9_bestHour_138 : decode cX9_bestHour 138 = .ok (.iload_n 3, 1) := by decide +kernel
theorem dX9_bestHour_139 : decode cX9_bestHour 139 = .ok (.goto 5, 3) := by decide +kernel
theorem dX9_bestHour_142 : decode cX9_bestHour 142 = .ok (.iload 4, 2) := by decide +kernel
theorem dX9_bestHour_144 : decode cX9_bestHour 144 = .ok (.ireturn, 1) := by decide +kernel
set_option maxHeartbeats 4000000 in
set_option maxRecDepth 100000 in
theorem c_bestHour (l : Launch) (G : zz_G) (r : Nat → Nat) (a : Int32) (b : Int32) : zz_M l G mX9_bestHour 7 0 0 [.ref (r 0), .int a, .int b] [((r 0), .inr (9, [.ref (r 1), .int 0, .ref (r 2), .int (-1), .ref (r 10), .ref (r 20), .ref (r 50), .ref (r 55), .ref (r 60), .ref (r 63), .ref (r 67), .ref (r 74), .ref (r 78), .ref (r 95)])), ((r 10), .inr (5, [.ref (r 11), .ref (r 12), .ref (r 13), .ref (r 14), .ref (r 15), .ref (r 16), .ref (r 17), .ref (r 18), .ref (r 19), .int 0, .int 0, .int 1, .int 0]))] (fun rr u => rr = some (.int (-1)) ∧ u = []) := by
  refine zz_enteri (by decide +kernel) (Nat.le_of_ble_eq_true rfl) ?_
  intro p e s m args below meth c A Q ls S hnm hret hw hl
  have hl : lv_has ls 8 [(0, .ref (r 0)), (1, .int a), (2, .int b)] := hl
  have hx := S.1
  have hb := S.2.1
  refine lv_aload_n hx hb dX9_bestHour_0 rfl (lv_at hl 0 rfl) ?_
  refine lv_iload_n hx hb dX9_bestHour_1 rfl (lv_at hl 1 rfl) ?_
  refine zz_callV (qb := 0) (As := [.int a]) (rest := []) (wr := []) S hw hl.1 lX9_121 (c_isPerson l G r a) ⟨Nat.le_of_ble_eq_true rfl, Nat.le_of_ble_eq_true rfl⟩ ⟨Nat.le_of_ble_eq_true rfl, Nat.le_of_ble_eq_true rfl⟩ [0, 1] [] (by decide) rfl rfl (by decide) (by decide) rfl rfl rfl rfl (Nat.le_of_ble_eq_true rfl) dX9_bestHour_2 (fun rr u H locs hp hw => ?_)
  obtain ⟨rfl, rfl⟩ := hp
  have hw : zz_w G A s [((r 0), .inr (9, [.ref (r 1), .int 0, .ref (r 2), .int (-1), .ref (r 10), .ref (r 20), .ref (r 50), .ref (r 55), .ref (r 60), .ref (r 63), .ref (r 67), .ref (r 74), .ref (r 78), .ref (r 95)])), ((r 10), .inr (5, [.ref (r 11), .ref (r 12), .ref (r 13), .ref (r 14), .ref (r 15), .ref (r 16), .ref (r 17), .ref (r 18), .ref (r 19), .int 0, .int 0, .int 1, .int 0]))] H _ := hw
  refine W.eq (g2 := F0 m 5 ls [.int 0]) rfl ?_
  refine lv_if_eq (tgt := 15) hx hb dX9_bestHour_5 (by decide) (fun _ => ?_) (fun cc => absurd cc (by decide))
  refine lv_iconst (v := (-1)) hx hb dX9_bestHour_15 (by decide) ?_
  exact hret _ _ _ _ _ _ ⟨rfl, rfl⟩ (hw.sub [] (by decide) rfl) rfl dX9_bestHour_16
theorem dX9_marksIn_0 : decode cX9_marksIn 0 = .ok (.aload_n 0, 1) := by decide +kernel
theorem dX9_marksIn_1 : decode cX9_marksIn 1 = .ok (.iload_n 1, 1) := by decide +kernel
theorem dX9_marksIn_2 : decode cX9_marksIn 2 = .ok (.invokevirtual 121, 3) := by decide +kernel
theorem dX9_marksIn_5 : decode cX9_marksIn 5 = .ok (.ifCond .eq 13, 3) := by decide +kernel
theorem dX9_marksIn_8 : decode cX9_marksIn 8 = .ok (.iload_n 2, 1) := by decide +kernel
theorem dX9_marksIn_9 : decode cX9_marksIn 9 = .ok (.ifCond .lt 9, 3) := by decide +kernel
theorem dX9_marksIn_12 : decode cX9_marksIn 12 = .ok (.iload_n 2, 1) := by decide +kernel
theorem dX9_marksIn_13 : decode cX9_marksIn 13 = .ok (.bipush 60, 2) := by decide +kernel
theorem dX9_marksIn_15 : decode cX9_marksIn 15 = .ok (.if_icmp .le 5, 3) := by decide +kernel
theorem dX9_marksIn_18 : decode cX9_marksIn 18 = .ok (.iconst (-1), 1) := by decide +kernel
theorem dX9_marksIn_19 : decode cX9_marksIn 19 = .ok (.ireturn, 1) := by decide +kernel
theorem dX9_marksIn_20 : decode cX9_marksIn 20 = .ok (.aload_n 0, 1) := by decide +kernel
theorem dX9_marksIn_21 : decode cX9_marksIn 21 = .ok (.getfield 44, 3) := by decide +kernel
theorem dX9_marksIn_24 : decode cX9_marksIn 24 = .ok (.aload_n 0, 1) := by decide +kernel
theorem dX9_marksIn_25 : decode cX9_marksIn 25 = .ok (.getfield 40, 3) := by decide +kernel
theorem dX9_marksIn_28 : decode cX9_marksIn 28 = .ok (.invokevirtual 244, 3) := by decide +kernel
theorem dX9_marksIn_31 : decode cX9_marksIn 31 = .ok (.aload_n 0, 1) := by decide +kernel
theorem dX9_marksIn_32 : decode cX9_marksIn 32 = .ok (.getfield 50, 3) := by decide +kernel
theorem dX9_marksIn_35 : decode cX9_marksIn 35 = .ok (.aload_n 0, 1) := by decide +kernel
theorem dX9_marksIn_36 : decode cX9_marksIn 36 = .ok (.getfield 30, 3) := by decide +kernel
theorem dX9_marksIn_39 : decode cX9_marksIn 39 = .ok (.aload_n 0, 1) := by decide +kernel
theorem dX9_marksIn_40 : decode cX9_marksIn 40 = .ok (.getfield 44, 3) := by decide +kernel
theorem dX9_marksIn_43 : decode cX9_marksIn 43 = .ok (.iload_n 2, 1) := by decide +kernel
theorem dX9_marksIn_44 : decode cX9_marksIn 44 = .ok (.aload_n 0, 1) := by decide +kernel
theorem dX9_marksIn_45 : decode cX9_marksIn 45 = .ok (.getfield 30, 3) := by decide +kernel
theorem dX9_marksIn_48 : decode cX9_marksIn 48 = .ok (.getfield 190, 3) := by decide +kernel
theorem dX9_marksIn_51 : decode cX9_marksIn 51 = .ok (.iconst 1, 1) := by decide +kernel
theorem dX9_marksIn_52 : decode cX9_marksIn 52 = .ok (.invokevirtual 193, 3) := by decide +kernel
theorem dX9_marksIn_55 : decode cX9_marksIn 55 = .ok (.pop, 1) := by decide +kernel
theorem dX9_marksIn_56 : decode cX9_marksIn 56 = .ok (.aload_n 0, 1) := by decide +kernel
theorem dX9_marksIn_57 : decode cX9_marksIn 57 = .ok (.getfield 44, 3) := by decide +kernel
theorem dX9_marksIn_60 : decode cX9_marksIn 60 = .ok (.getfield 135, 3) := by decide +kernel
theorem dX9_marksIn_63 : decode cX9_marksIn 63 = .ok (.iload_n 1, 1) := by decide +kernel
theorem dX9_marksIn_64 : decode cX9_marksIn 64 = .ok (.iaload, 1) := by decide +kernel
theorem dX9_marksIn_65 : decode cX9_marksIn 65 = .ok (.ireturn, 1) := by decide +kernel
set_option maxHeartbeats 4000000 in
set_option maxRecDepth 100000 in
theorem c_marksIn (l : Launch) (G : zz_G) (r : Nat → Nat) (a : Int32) (b : Int32) : zz_M l G mX9_marksIn 7 0 0 [.ref (r 0), .int a, .int b] [((r 0), .inr (9, [.ref (r 1), .int 0, .ref (r 2), .int (-1), .ref (r 10), .ref (r 20), .ref (r 50), .ref (r 55), .ref (r 60), .ref (r 63), .ref (r 67), .ref (r 74), .ref (r 78), .ref (r 95)])), ((r 10), .inr (5, [.ref (r 11), .ref (r 12), .ref (r 13), .ref (r 14), .ref (r 15), .ref (r 16), .ref (r 17), .ref (r 18), .ref (r 19), .int 0, .int 0, .int 1, .int 0]))] (fun rr u => rr = some (.int (-1)) ∧ u = []) := by
  refine zz_enteri (by decide +kernel) (Nat.le_of_ble_eq_true rfl) ?_
  intro p e s m args below meth c A Q ls S hnm hret hw hl
  have hl : lv_has ls 3 [(0, .ref (r 0)), (1, .int a), (2, .int b)] := hl
  have hx := S.1
  have hb := S.2.1
  refine lv_aload_n hx hb dX9_marksIn_0 rfl (lv_at hl 0 rfl) ?_
  refine lv_iload_n hx hb dX9_marksIn_1 rfl (lv_at hl 1 rfl) ?_
  refine zz_callV (qb := 0) (As := [.int a]) (rest := []) (wr := []) S hw hl.1 lX9_121 (c_isPerson l G r a) ⟨Nat.le_of_ble_eq_true rfl, Nat.le_of_ble_eq_true rfl⟩ ⟨Nat.le_of_ble_eq_true rfl, Nat.le_of_ble_eq_true rfl⟩ [0, 1] [] (by decide) rfl rfl (by decide) (by decide) rfl rfl rfl rfl (Nat.le_of_ble_eq_true rfl) dX9_marksIn_2 (fun rr u H locs hp hw => ?_)
  obtain ⟨rfl, rfl⟩ := hp
  have hw : zz_w G A s [((r 0), .inr (9, [.ref (r 1), .int 0, .ref (r 2), .int (-1), .ref (r 10), .ref (r 20), .ref (r 50), .ref (r 55), .ref (r 60), .ref (r 63), .ref (r 67), .ref (r 74), .ref (r 78), .ref (r 95)])), ((r 10), .inr (5, [.ref (r 11), .ref (r 12), .ref (r 13), .ref (r 14), .ref (r 15), .ref (r 16), .ref (r 17), .ref (r 18), .ref (r 19), .int 0, .int 0, .int 1, .int 0]))] H _ := hw
  refine W.eq (g2 := F0 m 5 ls [.int 0]) rfl ?_
  refine lv_if_eq (tgt := 18) hx hb dX9_marksIn_5 (by decide) (fun _ => ?_) (fun cc => absurd cc (by decide))
  refine lv_iconst (v := (-1)) hx hb dX9_marksIn_18 (by decide) ?_
  exact hret _ _ _ _ _ _ ⟨rfl, rfl⟩ (hw.sub [] (by decide) rfl) rfl dX9_marksIn_19
theorem dX9_move_0 : decode cX9_move 0 = .ok (.aload_n 0, 1) := by decide +kernel
theorem dX9_move_1 : decode cX9_move 1 = .ok (.iload_n 1, 1) := by decide +kernel
theorem dX9_move_2 : decode cX9_move 2 = .ok (.invokevirtual 121, 3) := by decide +kernel
theorem dX9_move_5 : decode cX9_move 5 = .ok (.ifCond .eq 23, 3) := by decide +kernel
theorem dX9_move_8 : decode cX9_move 8 = .ok (.iload_n 2, 1) := by decide +kernel
theorem dX9_move_9 : decode cX9_move 9 = .ok (.invokestatic 180, 3) := by decide +kernel
theorem dX9_move_12 : decode cX9_move 12 = .ok (.ifCond .eq 16, 3) := by decide +kernel
theorem dX9_move_15 : decode cX9_move 15 = .ok (.aload_n 0, 1) := by decide +kernel
theorem dX9_move_16 : decode cX9_move 16 = .ok (.getfield 40, 3) := by decide +kernel
theorem dX9_move_19 : decode cX9_move 19 = .ok (.getfield 125, 3) := by decide +kernel
theorem dX9_move_22 : decode cX9_move 22 = .ok (.iload_n 1, 1) := by decide +kernel
theorem dX9_move_23 : decode cX9_move 23 = .ok (.iaload, 1) := by decide +kernel
theorem dX9_move_24 : decode cX9_move 24 = .ok (.iload_n 2, 1) := by decide +kernel
theorem dX9_move_25 : decode cX9_move 25 = .ok (.if_icmp .ne 5, 3) := by decide +kernel
theorem dX9_move_28 : decode cX9_move 28 = .ok (.iconst 0, 1) := by decide +kernel
theorem dX9_move_29 : decode cX9_move 29 = .ok (.ireturn, 1) := by decide +kernel
theorem dX9_move_30 : decode cX9_move 30 = .ok (.aload_n 0, 1) := by decide +kernel
theorem dX9_move_31 : decode cX9_move 31 = .ok (.getfield 64, 3) := by decide +kernel
theorem dX9_move_34 : decode cX9_move 34 = .ok (.aload_n 0, 1) := by decide +kernel
theorem dX9_move_35 : decode cX9_move 35 = .ok (.getfield 40, 3) := by decide +kernel
theorem dX9_move_38 : decode cX9_move 38 = .ok (.invokevirtual 183, 3) := by decide +kernel
theorem dX9_move_41 : decode cX9_move 41 = .ok (.aload_n 0, 1) := by decide +kernel
theorem dX9_move_42 : decode cX9_move 42 = .ok (.getfield 40, 3) := by decide +kernel
theorem dX9_move_45 : decode cX9_move 45 = .ok (.getfield 125, 3) := by decide +kernel
theorem dX9_move_48 : decode cX9_move 48 = .ok (.iload_n 1, 1) := by decide +kernel
theorem dX9_move_49 : decode cX9_move 49 = .ok (.iload_n 2, 1) := by decide +kernel
theorem dX9_move_50 : decode cX9_move 50 = .ok (.iastore, 1) := by decide +kernel
theorem dX9_move_51 : decode cX9_move 51 = .ok (.iconst 1, 1) := by decide +kernel
theorem dX9_move_52 : decode cX9_move 52 = .ok (.ireturn, 1) := by decide +kernel
set_option maxHeartbeats 4000000 in
set_option maxRecDepth 100000 in
theorem c_move (l : Launch) (G : zz_G) (r : Nat → Nat) (a : Int32) (b : Int32) : zz_M l G mX9_move 3 0 0 [.ref (r 0), .int a, .int b] [((r 0), .inr (9, [.ref (r 1), .int 0, .ref (r 2), .int (-1), .ref (r 10), .ref (r 20), .ref (r 50), .ref (r 55), .ref (r 60), .ref (r 63), .ref (r 67), .ref (r 74), .ref (r 78), .ref (r 95)])), ((r 10), .inr (5, [.ref (r 11), .ref (r 12), .ref (r 13), .ref (r 14), .ref (r 15), .ref (r 16), .ref (r 17), .ref (r 18), .ref (r 19), .int 0, .int 0, .int 1, .int 0]))] (fun rr u => rr = some (.int 0) ∧ u = []) := by
  refine zz_enteri (by decide +kernel) (Nat.le_of_ble_eq_true rfl) ?_
  intro p e s m args below meth c A Q ls S hnm hret hw hl
  have hl : lv_has ls 3 [(0, .ref (r 0)), (1, .int a), (2, .int b)] := hl
  have hx := S.1
  have hb := S.2.1
  refine lv_aload_n hx hb dX9_move_0 rfl (lv_at hl 0 rfl) ?_
  refine lv_iload_n hx hb dX9_move_1 rfl (lv_at hl 1 rfl) ?_
  refine zz_callV (qb := 0) (As := [.int a]) (rest := []) (wr := []) S hw hl.1 lX9_121 (c_isPerson l G r a) ⟨Nat.le_of_ble_eq_true rfl, Nat.le_of_ble_eq_true rfl⟩ ⟨Nat.le_of_ble_eq_true rfl, Nat.le_of_ble_eq_true rfl⟩ [0, 1] [] (by decide) rfl rfl (by decide) (by decide) rfl rfl rfl rfl (Nat.le_of_ble_eq_true rfl) dX9_move_2 (fun rr u H locs hp hw => ?_)
  obtain ⟨rfl, rfl⟩ := hp
  have hw : zz_w G A s [((r 0), .inr (9, [.ref (r 1), .int 0, .ref (r 2), .int (-1), .ref (r 10), .ref (r 20), .ref (r 50), .ref (r 55), .ref (r 60), .ref (r 63), .ref (r 67), .ref (r 74), .ref (r 78), .ref (r 95)])), ((r 10), .inr (5, [.ref (r 11), .ref (r 12), .ref (r 13), .ref (r 14), .ref (r 15), .ref (r 16), .ref (r 17), .ref (r 18), .ref (r 19), .int 0, .int 0, .int 1, .int 0]))] H _ := hw
  refine W.eq (g2 := F0 m 5 ls [.int 0]) rfl ?_
  refine lv_if_eq (tgt := 28) hx hb dX9_move_5 (by decide) (fun _ => ?_) (fun cc => absurd cc (by decide))
  refine lv_iconst (v := 0) hx hb dX9_move_28 (by decide) ?_
  exact hret _ _ _ _ _ _ ⟨rfl, rfl⟩ (hw.sub [] (by decide) rfl) rfl dX9_move_29
theorem dX9_keepOff_0 : decode cX9_keepOff 0 = .ok (.aload_n 0, 1) := by decide +kernel
theorem dX9_keepOff_1 : decode cX9_keepOff 1 = .ok (.iload_n 1, 1) := by decide +kernel
theorem dX9_keepOff_2 : decode cX9_keepOff 2 = .ok (.invokevirtual 121, 3) := by decide +kernel
theorem dX9_keepOff_5 : decode cX9_keepOff 5 = .ok (.ifCond .eq 15, 3) := by decide +kernel
theorem dX9_keepOff_8 : decode cX9_keepOff 8 = .ok (.aload_n 0, 1) := by decide +kernel
theorem dX9_keepOff_9 : decode cX9_keepOff 9 = .ok (.getfield 40, 3) := by decide +kernel
theorem dX9_keepOff_12 : decode cX9_keepOff 12 = .ok (.iload_n 1, 1) := by decide +kernel
theorem dX9_keepOff_13 : decode cX9_keepOff 13 = .ok (.invokevirtual 138, 3) := by decide +kernel
theorem dX9_keepOff_16 : decode cX9_keepOff 16 = .ok (.iload_n 2, 1) := by decide +kernel
theorem dX9_keepOff_17 : decode cX9_keepOff 17 = .ok (.if_icmp .ne 5, 3) := by decide +kernel
theorem dX9_keepOff_20 : decode cX9_keepOff 20 = .ok (.iconst 0, 1) := by decide +kernel
theorem dX9_keepOff_21 : decode cX9_keepOff 21 = .ok (.ireturn, 1) := by decide +kernel
theorem dX9_keepOff_22 : decode cX9_keepOff 22 = .ok (.aload_n 0, 1) := by decide +kernel
theorem dX9_keepOff_23 : decode cX9_keepOff 23 = .ok (.getfield 64, 3) := by decide +kernel
theorem dX9_keepOff_26 : decode cX9_keepOff 26 = .ok (.aload_n 0, 1) := by decide +kernel
theorem dX9_keepOff_27 : decode cX9_keepOff 27 = .ok (.getfield 40, 3) := by decide +kernel
theorem dX9_keepOff_30 : decode cX9_keepOff 30 = .ok (.invokevirtual 183, 3) := by decide +kernel
theorem dX9_keepOff_33 : decode cX9_keepOff 33 = .ok (.aload_n 0, 1) := by decide +kernel
theorem dX9_keepOff_34 : decode cX9_keepOff 34 = .ok (.getfield 40, 3) := by decide +kernel
theorem dX9_keepOff_37 : decode cX9_keepOff 37 = .ok (.dup, 1) := by decide +kernel
theorem dX9_keepOff_38 : decode cX9_keepOff 38 = .ok (.getfield 187, 3) := by decide +kernel
theorem dX9_keepOff_41 : decode cX9_keepOff 41 = .ok (.iconst 1, 1) := by decide +kernel
theorem dX9_keepOff_42 : decode cX9_keepOff 42 = .ok (.iload_n 1, 1) := by decide +kernel
theorem dX9_keepOff_43 : decode cX9_keepOff 43 = .ok (.ishl, 1) := by decide +kernel
theorem dX9_keepOff_44 : decode cX9_keepOff 44 = .ok (.ixor, 1) := by decide +kernel
theorem dX9_keepOff_45 : decode cX9_keepOff 45 = .ok (.putfield 187, 3) := by decide +kernel
theorem dX9_keepOff_48 : decode cX9_keepOff 48 = .ok (.iconst 1, 1) := by decide +kernel
theorem dX9_keepOff_49 : decode cX9_keepOff 49 = .ok (.ireturn, 1) := by decide +kernel
set_option maxHeartbeats 4000000 in
set_option maxRecDepth 100000 in
theorem c_keepOff (l : Launch) (G : zz_G) (r : Nat → Nat) (a : Int32) (b : Int32) : zz_M l G mX9_keepOff 3 0 0 [.ref (r 0), .int a, .int b] [((r 0), .inr (9, [.ref (r 1), .int 0, .ref (r 2), .int (-1), .ref (r 10), .ref (r 20), .ref (r 50), .ref (r 55), .ref (r 60), .ref (r 63), .ref (r 67), .ref (r 74), .ref (r 78), .ref (r 95)])), ((r 10), .inr (5, [.ref (r 11), .ref (r 12), .ref (r 13), .ref (r 14), .ref (r 15), .ref (r 16), .ref (r 17), .ref (r 18), .ref (r 19), .int 0, .int 0, .int 1, .int 0]))] (fun rr u => rr = some (.int 0) ∧ u = []) := by
  refine zz_enteri (by decide +kernel) (Nat.le_of_ble_eq_true rfl) ?_
  intro p e s m args below meth c A Q ls S hnm hret hw hl
  have hl : lv_has ls 3 [(0, .ref (r 0)), (1, .int a), (2, .int b)] := hl
  have hx := S.1
  have hb := S.2.1
  refine lv_aload_n hx hb dX9_keepOff_0 rfl (lv_at hl 0 rfl) ?_
  refine lv_iload_n hx hb dX9_keepOff_1 rfl (lv_at hl 1 rfl) ?_
  refine zz_callV (qb := 0) (As := [.int a]) (rest := []) (wr := []) S hw hl.1 lX9_121 (c_isPerson l G r a) ⟨Nat.le_of_ble_eq_true rfl, Nat.le_of_ble_eq_true rfl⟩ ⟨Nat.le_of_ble_eq_true rfl, Nat.le_of_ble_eq_true rfl⟩ [0, 1] [] (by decide) rfl rfl (by decide) (by decide) rfl rfl rfl rfl (Nat.le_of_ble_eq_true rfl) dX9_keepOff_2 (fun rr u H locs hp hw => ?_)
  obtain ⟨rfl, rfl⟩ := hp
  have hw : zz_w G A s [((r 0), .inr (9, [.ref (r 1), .int 0, .ref (r 2), .int (-1), .ref (r 10), .ref (r 20), .ref (r 50), .ref (r 55), .ref (r 60), .ref (r 63), .ref (r 67), .ref (r 74), .ref (r 78), .ref (r 95)])), ((r 10), .inr (5, [.ref (r 11), .ref (r 12), .ref (r 13), .ref (r 14), .ref (r 15), .ref (r 16), .ref (r 17), .ref (r 18), .ref (r 19), .int 0, .int 0, .int 1, .int 0]))] H _ := hw
  refine W.eq (g2 := F0 m 5 ls [.int 0]) rfl ?_
  refine lv_if_eq (tgt := 20) hx hb dX9_keepOff_5 (by decide) (fun _ => ?_) (fun cc => absurd cc (by decide))
  refine lv_iconst (v := 0) hx hb dX9_keepOff_20 (by decide) ?_
  exact hret _ _ _ _ _ _ ⟨rfl, rfl⟩ (hw.sub [] (by decide) rfl) rfl dX9_keepOff_21
theorem dX9_tells_0 : decode cX9_tells 0 = .ok (.aload_n 0, 1) := by decide +kernel
theorem dX9_tells_1 : decode cX9_tells 1 = .ok (.iload_n 1, 1) := by decide +kernel
theorem dX9_tells_2 : decode cX9_tells 2 = .ok (.invokevirtual 121, 3) := by decide +kernel
theorem dX9_tells_5 : decode cX9_tells 5 = .ok (.ifCond .eq 11, 3) := by decide +kernel
theorem dX9_tells_8 : decode cX9_tells 8 = .ok (.aload_n 0, 1) := by decide +kernel
theorem dX9_tells_9 : decode cX9_tells 9 = .ok (.iload_n 2, 1) := by decide +kernel
theorem dX9_tells_10 : decode cX9_tells 10 = .ok (.invokevirtual 154, 3) := by decide +kernel
theorem dX9_tells_13 : decode cX9_tells 13 = .ok (.ifCond .ne 5, 3) := by decide +kernel
theorem dX9_tells_16 : decode cX9_tells 16 = .ok (.iconst (-1), 1) := by decide +kernel
theorem dX9_tells_17 : decode cX9_tells 17 = .ok (.ireturn, 1) := by decide +kernel
theorem dX9_tells_18 : decode cX9_tells 18 = .ok (.iload_n 3, 1) := by decide +kernel
theorem dX9_tells_19 : decode cX9_tells 19 = .ok (.tableswitch 110 0 4 #[33, 48, 63, 78, 88], 33) := by decide +kernel
theorem dX9_tells_52 : decode cX9_tells 52 = .ok (.aload_n 0, 1) := by decide +kernel
theorem dX9_tells_53 : decode cX9_tells 53 = .ok (.getfield 30, 3) := by decide +kernel
theorem dX9_tells_56 : decode cX9_tells 56 = .ok (.iconst 0, 1) := by decide +kernel
theorem dX9_tells_57 : decode cX9_tells 57 = .ok (.aload_n 0, 1) := by decide +kernel
theorem dX9_tells_58 : decode cX9_tells 58 = .ok (.getfield 40, 3) := by decide +kernel
theorem dX9_tells_61 : decode cX9_tells 61 = .ok (.iload_n 1, 1) := by decide +kernel
theorem dX9_tells_62 : decode cX9_tells 62 = .ok (.iload_n 2, 1) := by decide +kernel
theorem dX9_tells_63 : decode cX9_tells 63 = .ok (.invokevirtual 173, 3) := by decide +kernel
theorem dX9_tells_66 : decode cX9_tells 66 = .ok (.ireturn, 1) := by decide +kernel
theorem dX9_tells_67 : decode cX9_tells 67 = .ok (.aload_n 0, 1) := by decide +kernel
theorem dX9_tells_68 : decode cX9_tells 68 = .ok (.getfield 30, 3) := by decide +kernel
theorem dX9_tells_71 : decode cX9_tells 71 = .ok (.iconst 1, 1) := by decide +kernel
theorem dX9_tells_72 : decode cX9_tells 72 = .ok (.aload_n 0, 1) := by decide +kernel
theorem dX9_tells_73 : decode cX9_tells 73 = .ok (.getfield 40, 3) := by decide +kernel
theorem dX9_tells_76 : decode cX9_tells 76 = .ok (.iload_n 1, 1) := by decide +kernel
theorem dX9_tells_77 : decode cX9_tells 77 = .ok (.iload_n 2, 1) := by decide +kernel
theorem dX9_tells_78 : decode cX9_tells 78 = .ok (.invokevirtual 173, 3) := by decide +kernel
theorem dX9_tells_81 : decode cX9_tells 81 = .ok (.ireturn, 1) := by decide +kernel
theorem dX9_tells_82 : decode cX9_tells 82 = .ok (.aload_n 0, 1) := by decide +kernel
theorem dX9_tells_83 : decode cX9_tells 83 = .ok (.getfield 30, 3) := by decide +kernel
theorem dX9_tells_86 : decode cX9_tells 86 = .ok (.iconst 2, 1) := by decide +kernel
theorem dX9_tells_87 : decode cX9_tells 87 = .ok (.aload_n 0, 1) := by decide +kernel
theorem dX9_tells_88 : decode cX9_tells 88 = .ok (.getfield 40, 3) := by decide +kernel
theorem dX9_tells_91 : decode cX9_tells 91 = .ok (.iload_n 1, 1) := by decide +kernel
theorem dX9_tells_92 : decode cX9_tells 92 = .ok (.iload_n 2, 1) := by decide +kernel
theorem dX9_tells_93 : decode cX9_tells 93 = .ok (.invokevirtual 173, 3) := by decide +kernel
theorem dX9_tells_96 : decode cX9_tells 96 = .ok (.ireturn, 1) := by decide +kernel
theorem dX9_tells_97 : decode cX9_tells 97 = .ok (.aload_n 0, 1) := by decide +kernel
theorem dX9_tells_98 : decode cX9_tells 98 = .ok (.getfield 40, 3) := by decide +kernel
theorem dX9_tells_101 : decode cX9_tells 101 = .ok (.iload_n 1, 1) := by decide +kernel
theorem dX9_tells_102 : decode cX9_tells 102 = .ok (.iload_n 2, 1) := by decide +kernel
theorem dX9_tells_103 : decode cX9_tells 103 = .ok (.invokevirtual 151, 3) := by decide +kernel
theorem dX9_tells_106 : decode cX9_tells 106 = .ok (.ireturn, 1) := by decide +kernel
theorem dX9_tells_107 : decode cX9_tells 107 = .ok (.aload_n 0, 1) := by decide +kernel
theorem dX9_tells_108 : decode cX9_tells 108 = .ok (.getfield 40, 3) := by decide +kernel
theorem dX9_tells_111 : decode cX9_tells 111 = .ok (.getfield 125, 3) := by decide +kernel
theorem dX9_tells_114 : decode cX9_tells 114 = .ok (.iload_n 1, 1) := by decide +kernel
theorem dX9_tells_115 : decode cX9_tells 115 = .ok (.iaload, 1) := by decide +kernel
theorem dX9_tells_116 : decode cX9_tells 116 = .ok (.aload_n 0, 1) := by decide +kernel
theorem dX9_tells_117 : decode cX9_tells 117 = .ok (.getfield 40, 3) := by decide +kernel
theorem dX9_tells_120 : decode cX9_tells 120 = .ok (.getfield 157, 3) := by decide +kernel
theorem dX9_tells_123 : decode cX9_tells 123 = .ok (.iload_n 2, 1) := by decide +kernel
theorem dX9_tells_124 : decode cX9_tells 124 = .ok (.iaload, 1) := by decide +kernel
theorem dX9_tells_125 : decode cX9_tells 125 = .ok (.invokestatic 177, 3) := by decide +kernel
theorem dX9_tells_128 : decode cX9_tells 128 = .ok (.ireturn, 1) := by decide +kernel
theorem dX9_tells_129 : decode cX9_tells 129 = .ok (.iconst (-1), 1) := by decide +kernel
theorem dX9_tells_130 : decode cX9_tells 130 = .ok (.ireturn, 1) := by decide +kernel
set_option maxHeartbeats 4000000 in
set_option maxRecDepth 100000 in
theorem c_tells (l : Launch) (G : zz_G) (r : Nat → Nat) (a : Int32) (b : Int32) (d : Int32) : zz_M l G mX9_tells 4 0 0 [.ref (r 0), .int a, .int b, .int d] [((r 0), .inr (9, [.ref (r 1), .int 0, .ref (r 2), .int (-1), .ref (r 10), .ref (r 20), .ref (r 50), .ref (r 55), .ref (r 60), .ref (r 63), .ref (r 67), .ref (r 74), .ref (r 78), .ref (r 95)])), ((r 10), .inr (5, [.ref (r 11), .ref (r 12), .ref (r 13), .ref (r 14), .ref (r 15), .ref (r 16), .ref (r 17), .ref (r 18), .ref (r 19), .int 0, .int 0, .int 1, .int 0]))] (fun rr u => rr = some (.int (-1)) ∧ u = []) := by
  refine zz_enteri (by decide +kernel) (Nat.le_of_ble_eq_true rfl) ?_
  intro p e s m args below meth c A Q ls S hnm hret hw hl
  have hl : lv_has ls 4 [(0, .ref (r 0)), (1, .int a), (2, .int b), (3, .int d)] := hl
  have hx := S.1
  have hb := S.2.1
  refine lv_aload_n hx hb dX9_tells_0 rfl (lv_at hl 0 rfl) ?_
  refine lv_iload_n hx hb dX9_tells_1 rfl (lv_at hl 1 rfl) ?_
  refine zz_callV (qb := 0) (As := [.int a]) (rest := []) (wr := []) S hw hl.1 lX9_121 (c_isPerson l G r a) ⟨Nat.le_of_ble_eq_true rfl, Nat.le_of_ble_eq_true rfl⟩ ⟨Nat.le_of_ble_eq_true rfl, Nat.le_of_ble_eq_true rfl⟩ [0, 1] [] (by decide) rfl rfl (by decide) (by decide) rfl rfl rfl rfl (Nat.le_of_ble_eq_true rfl) dX9_tells_2 (fun rr u H locs hp hw => ?_)
  obtain ⟨rfl, rfl⟩ := hp
  have hw : zz_w G A s [((r 0), .inr (9, [.ref (r 1), .int 0, .ref (r 2), .int (-1), .ref (r 10), .ref (r 20), .ref (r 50), .ref (r 55), .ref (r 60), .ref (r 63), .ref (r 67), .ref (r 74), .ref (r 78), .ref (r 95)])), ((r 10), .inr (5, [.ref (r 11), .ref (r 12), .ref (r 13), .ref (r 14), .ref (r 15), .ref (r 16), .ref (r 17), .ref (r 18), .ref (r 19), .int 0, .int 0, .int 1, .int 0]))] H _ := hw
  refine W.eq (g2 := F0 m 5 ls [.int 0]) rfl ?_
  refine lv_if_eq (tgt := 16) hx hb dX9_tells_5 (by decide) (fun _ => ?_) (fun cc => absurd cc (by decide))
  refine lv_iconst (v := (-1)) hx hb dX9_tells_16 (by decide) ?_
  exact hret _ _ _ _ _ _ ⟨rfl, rfl⟩ (hw.sub [] (by decide) rfl) rfl dX9_tells_17
theorem dX9_part_0 : decode cX9_part 0 = .ok (.aload_n 0, 1) := by decide +kernel
theorem dX9_part_1 : decode cX9_part 1 = .ok (.iload_n 1, 1) := by decide +kernel
theorem dX9_part_2 : decode cX9_part 2 = .ok (.invokevirtual 154, 3) := by decide +kernel
theorem dX9_part_5 : decode cX9_part 5 = .ok (.ifCond .ne 5, 3) := by decide +kernel
theorem dX9_part_8 : decode cX9_part 8 = .ok (.iconst (-1), 1) := by decide +kernel
theorem dX9_part_9 : decode cX9_part 9 = .ok (.ireturn, 1) := by decide +kernel
theorem dX9_part_10 : decode cX9_part 10 = .ok (.iload_n 2, 1) := by decide +kernel
theorem dX9_part_11 : decode cX9_part 11 = .ok (.tableswitch 108 0 5 #[37, 47, 57, 67, 92, 102], 37) := by decide +kernel
theorem dX9_part_48 : decode cX9_part 48 = .ok (.aload_n 0, 1) := by decide +kernel
theorem dX9_part_49 : decode cX9_part 49 = .ok (.getfield 40, 3) := by decide +kernel
theorem dX9_part_52 : decode cX9_part 52 = .ok (.getfield 157, 3) := by decide +kernel
theorem dX9_part_55 : decode cX9_part 55 = .ok (.iload_n 1, 1) := by decide +kernel
theorem dX9_part_56 : decode cX9_part 56 = .ok (.iaload, 1) := by decide +kernel
theorem dX9_part_57 : decode cX9_part 57 = .ok (.ireturn, 1) := by decide +kernel
theorem dX9_part_58 : decode cX9_part 58 = .ok (.aload_n 0, 1) := by decide +kernel
theorem dX9_part_59 : decode cX9_part 59 = .ok (.getfield 30, 3) := by decide +kernel
theorem dX9_part_62 : decode cX9_part 62 = .ok (.getfield 160, 3) := by decide +kernel
theorem dX9_part_65 : decode cX9_part 65 = .ok (.iload_n 1, 1) := by decide +kernel
theorem dX9_part_66 : decode cX9_part 66 = .ok (.iaload, 1) := by decide +kernel
theorem dX9_part_67 : decode cX9_part 67 = .ok (.ireturn, 1) := by decide +kernel
theorem dX9_part_68 : decode cX9_part 68 = .ok (.aload_n 0, 1) := by decide +kernel
theorem dX9_part_69 : decode cX9_part 69 = .ok (.getfield 30, 3) := by decide +kernel
theorem dX9_part_72 : decode cX9_part 72 = .ok (.getfield 163, 3) := by decide +kernel
theorem dX9_part_75 : decode cX9_part 75 = .ok (.iload_n 1, 1) := by decide +kernel
theorem dX9_part_76 : decode cX9_part 76 = .ok (.iaload, 1) := by decide +kernel
theorem dX9_part_77 : decode cX9_part 77 = .ok (.ireturn, 1) := by decide +kernel
theorem dX9_part_78 : decode cX9_part 78 = .ok (.aload_n 0, 1) := by decide +kernel
theorem dX9_part_79 : decode cX9_part 79 = .ok (.getfield 50, 3) := by decide +kernel
theorem dX9_part_82 : decode cX9_part 82 = .ok (.aload_n 0, 1) := by decide +kernel
theorem dX9_part_83 : decode cX9_part 83 = .ok (.getfield 30, 3) := by decide +kernel
theorem dX9_part_86 : decode cX9_part 86 = .ok (.aload_n 0, 1) := by decide +kernel
theorem dX9_part_87 : decode cX9_part 87 = .ok (.getfield 40, 3) := by decide +kernel
theorem dX9_part_90 : decode cX9_part 90 = .ok (.invokevirtual 141, 3) := by decide +kernel
theorem dX9_part_93 : decode cX9_part 93 = .ok (.aload_n 0, 1) := by decide +kernel
theorem dX9_part_94 : decode cX9_part 94 = .ok (.getfield 50, 3) := by decide +kernel
theorem dX9_part_97 : decode cX9_part 97 = .ok (.getfield 166, 3) := by decide +kernel
theorem dX9_part_100 : decode cX9_part 100 = .ok (.iload_n 1, 1) := by decide +kernel
theorem dX9_part_101 : decode cX9_part 101 = .ok (.iaload, 1) := by decide +kernel
theorem dX9_part_102 : decode cX9_part 102 = .ok (.ireturn, 1) := by decide +kernel
theorem dX9_part_103 : decode cX9_part 103 = .ok (.aload_n 0, 1) := by decide +kernel
theorem dX9_part_104 : decode cX9_part 104 = .ok (.getfield 30, 3) := by decide +kernel
theorem dX9_part_107 : decode cX9_part 107 = .ok (.getfield 169, 3) := by decide +kernel
theorem dX9_part_110 : decode cX9_part 110 = .ok (.iload_n 1, 1) := by decide +kernel
theorem dX9_part_111 : decode cX9_part 111 = .ok (.iaload, 1) := by decide +kernel
theorem dX9_part_112 : decode cX9_part 112 = .ok (.ireturn, 1) := by decide +kernel
theorem dX9_part_113 : decode cX9_part 113 = .ok (.aload_n 0, 1) := by decide +kernel
theorem dX9_part_114 : decode cX9_part 114 = .ok (.iload_n 1, 1) := by decide +kernel
theorem dX9_part_115 : decode cX9_part 115 = .ok (.invokevirtual 170, 3) := by decide +kernel
theorem dX9_part_118 : decode cX9_part 118 = .ok (.ireturn, 1) := by decide +kernel
theorem dX9_part_119 : decode cX9_part 119 = .ok (.iconst (-1), 1) := by decide +kernel
theorem dX9_part_120 : decode cX9_part 120 = .ok (.ireturn, 1) := by decide +kernel
set_option maxHeartbeats 4000000 in
set_option maxRecDepth 100000 in
theorem c_part (l : Launch) (G : zz_G) (r : Nat → Nat) (a : Int32) (b : Int32) : zz_M l G mX9_part 7 0 0 [.ref (r 0), .int a, .int b] [((r 0), .inr (9, [.ref (r 1), .int 0, .ref (r 2), .int (-1), .ref (r 10), .ref (r 20), .ref (r 50), .ref (r 55), .ref (r 60), .ref (r 63), .ref (r 67), .ref (r 74), .ref (r 78), .ref (r 95)])), ((r 10), .inr (5, [.ref (r 11), .ref (r 12), .ref (r 13), .ref (r 14), .ref (r 15), .ref (r 16), .ref (r 17), .ref (r 18), .ref (r 19), .int 0, .int 0, .int 1, .int 0]))] (fun rr u => rr = some (.int (-1)) ∧ u = []) := by
  refine zz_enteri (by decide +kernel) (Nat.le_of_ble_eq_true rfl) ?_
  intro p e s m args below meth c A Q ls S hnm hret hw hl
  have hl : lv_has ls 3 [(0, .ref (r 0)), (1, .int a), (2, .int b)] := hl
  have hx := S.1
  have hb := S.2.1
  refine lv_aload_n hx hb dX9_part_0 rfl (lv_at hl 0 rfl) ?_
  refine lv_iload_n hx hb dX9_part_1 rfl (lv_at hl 1 rfl) ?_
  refine zz_callV (qb := 0) (As := [.int a]) (rest := []) (wr := []) S hw hl.1 lX9_154 (c_isPart l G r a) ⟨Nat.le_of_ble_eq_true rfl, Nat.le_of_ble_eq_true rfl⟩ ⟨Nat.le_of_ble_eq_true rfl, Nat.le_of_ble_eq_true rfl⟩ [0, 1] [] (by decide) rfl rfl (by decide) (by decide) rfl rfl rfl rfl (Nat.le_of_ble_eq_true rfl) dX9_part_2 (fun rr u H locs hp hw => ?_)
  obtain ⟨rfl, rfl⟩ := hp
  have hw : zz_w G A s [((r 0), .inr (9, [.ref (r 1), .int 0, .ref (r 2), .int (-1), .ref (r 10), .ref (r 20), .ref (r 50), .ref (r 55), .ref (r 60), .ref (r 63), .ref (r 67), .ref (r 74), .ref (r 78), .ref (r 95)])), ((r 10), .inr (5, [.ref (r 11), .ref (r 12), .ref (r 13), .ref (r 14), .ref (r 15), .ref (r 16), .ref (r 17), .ref (r 18), .ref (r 19), .int 0, .int 0, .int 1, .int 0]))] H _ := hw
  refine W.eq (g2 := F0 m 5 ls [.int 0]) rfl ?_
  refine lv_if_ne (tgt := 10) hx hb dX9_part_5 (by decide) (fun cc => absurd cc (by decide)) (fun _ => ?_)
  refine lv_iconst (v := (-1)) hx hb dX9_part_8 (by decide) ?_
  exact hret _ _ _ _ _ _ ⟨rfl, rfl⟩ (hw.sub [] (by decide) rfl) rfl dX9_part_9
theorem dX9_regular_0 : decode cX9_regular 0 = .ok (.aload_n 0, 1) := by decide +kernel
theorem dX9_regular_1 : decode cX9_regular 1 = .ok (.iload_n 1, 1) := by decide +kernel
theorem dX9_regular_2 : decode cX9_regular 2 = .ok (.invokevirtual 154, 3) := by decide +kernel
theorem dX9_regular_5 : decode cX9_regular 5 = .ok (.ifCond .eq 10, 3) := by decide +kernel
theorem dX9_regular_8 : decode cX9_regular 8 = .ok (.iload_n 2, 1) := by decide +kernel
theorem dX9_regular_9 : decode cX9_regular 9 = .ok (.invokestatic 210, 3) := by decide +kernel
theorem dX9_regular_12 : decode cX9_regular 12 = .ok (.ifCond .ne 5, 3) := by decide +kernel
theorem dX9_regular_15 : decode cX9_regular 15 = .ok (.iconst (-1), 1) := by decide +kernel
theorem dX9_regular_16 : decode cX9_regular 16 = .ok (.ireturn, 1) := by decide +kernel
theorem dX9_regular_17 : decode cX9_regular 17 = .ok (.bipush (-2), 2) := by decide +kernel
theorem dX9_regular_19 : decode cX9_regular 19 = .ok (.istore_n 3, 1) := by decide +kernel
theorem dX9_regular_20 : decode cX9_regular 20 = .ok (.iconst 0, 1) := by decide +kernel
theorem dX9_regular_21 : decode cX9_regular 21 = .ok (.istore 4, 2) := by decide +kernel
theorem dX9_regular_23 : decode cX9_regular 23 = .ok (.iconst 0, 1) := by decide +kernel
theorem dX9_regular_24 : decode cX9_regular 24 = .ok (.istore 5, 2) := by decide +kernel
theorem dX9_regular_26 : decode cX9_regular 26 = .ok (.iload 5, 2) := by decide +kernel
theorem dX9_regular_28 : decode cX9_regular 28 = .ok (.aload_n 0, 1) := by decide +kernel
theorem dX9_regular_29 : decode cX9_regular 29 = .ok (.getfield 30, 3) := by decide +kernel
theorem dX9_regular_32 : decode cX9_regular 32 = .ok (.getfield 105, 3) := by decide +kernel
theorem dX9_regular_35 : decode cX9_regular 35 = .ok (.if_icmp .ge 39, 3) := by decide +kernel
theorem dX9_regular_38 : decode cX9_regular 38 = .ok (.aload_n 0, 1) := by decide +kernel
theorem dX9_regular_39 : decode cX9_regular 39 = .ok (.getfield 40, 3) := by decide +kernel
theorem dX9_regular_42 : decode cX9_regular 42 = .ok (.iload 5, 2) := by decide +kernel
theorem dX9_regular_44 : decode cX9_regular 44 = .ok (.iload_n 1, 1) := by decide +kernel
theorem dX9_regular_45 : decode cX9_regular 45 = .ok (.invokevirtual 151, 3) := by decide +kernel
theorem dX9_regular_48 : decode cX9_regular 48 = .ok (.iload 4, 2) := by decide +kernel
theorem dX9_regular_50 : decode cX9_regular 50 = .ok (.if_icmp .le 18, 3) := by decide +kernel
theorem dX9_regular_53 : decode cX9_regular 53 = .ok (.aload_n 0, 1) := by decide +kernel
theorem dX9_regular_54 : decode cX9_regular 54 = .ok (.getfield 40, 3) := by decide +kernel
theorem dX9_regular_57 : decode cX9_regular 57 = .ok (.iload 5, 2) := by decide +kernel
theorem dX9_regular_59 : decode cX9_regular 59 = .ok (.iload_n 1, 1) := by decide +kernel
theorem dX9_regular_60 : decode cX9_regular 60 = .ok (.invokevirtual 151, 3) := by decide +kernel
theorem dX9_regular_63 : decode cX9_regular 63 = .ok (.istore 4, 2) := by decide +kernel
theorem dX9_regular_65 : decode cX9_regular 65 = .ok (.iload 5, 2) := by decide +kernel
theorem dX9_regular_67 : decode cX9_regular 67 = .ok (.istore_n 3, 1) := by decide +kernel
theorem dX9_regular_68 : decode cX9_regular 68 = .ok (.iinc 5 1, 3) := by decide +kernel
theorem dX9_regular_71 : decode cX9_regular 71 = .ok (.goto (-45), 3) := by decide +kernel
theorem dX9_regular_74 : decode cX9_regular 74 = .ok (.iload_n 2, 1) := by decide +kernel
theorem dX9_regular_75 : decode cX9_regular 75 = .ok (.ifCond .eq 9, 3) := by decide +kernel
theorem dX9_regular_78 : decode cX9_regular 78 = .ok (.iload_n 3, 1) := by decide +kernel
theorem dX9_regular_79 : decode cX9_regular 79 = .ok (.bipush (-2), 2) := by decide +kernel
theorem dX9_regular_81 : decode cX9_regular 81 = .ok (.if_icmp .ne 7, 3) := by decide +kernel
theorem dX9_regular_84 : decode cX9_regular 84 = .ok (.iload_n 3, 1) := by decide +kernel
theorem dX9_regular_85 : decode cX9_regular 85 = .ok (.goto 5, 3) := by decide +kernel
theorem dX9_regular_88 : decode cX9_regular 88 = .ok (.iload 4, 2) := by decide +kernel
theorem dX9_regular_90 : decode cX9_regular 90 = .ok (.ireturn, 1) := by decide +kernel
set_option maxHeartbeats 4000000 in
set_option maxRecDepth 100000 in
theorem c_regular (l : Launch) (G : zz_G) (r : Nat → Nat) (a : Int32) (b : Int32) : zz_M l G mX9_regular 1 0 0 [.ref (r 0), .int a, .int b] [((r 0), .inr (9, [.ref (r 1), .int 0, .ref (r 2), .int (-1), .ref (r 10), .ref (r 20), .ref (r 50), .ref (r 55), .ref (r 60), .ref (r 63), .ref (r 67), .ref (r 74), .ref (r 78), .ref (r 95)])), ((r 10), .inr (5, [.ref (r 11), .ref (r 12), .ref (r 13), .ref (r 14), .ref (r 15), .ref (r 16), .ref (r 17), .ref (r 18), .ref (r 19), .int 0, .int 0, .int 1, .int 0]))] (fun rr u => rr = some (.int (-1)) ∧ u = []) := by
  refine zz_enteri (by decide +kernel) (Nat.le_of_ble_eq_true rfl) ?_
  intro p e s m args below meth c A Q ls S hnm hret hw hl
  have hl : lv_has ls 6 [(0, .ref (r 0)), (1, .int a), (2, .int b)] := hl
  have hx := S.1
  have hb := S.2.1
  refine lv_aload_n hx hb dX9_regular_0 rfl (lv_at hl 0 rfl) ?_
  refine lv_iload_n hx hb dX9_regular_1 rfl (lv_at hl 1 rfl) ?_
  refine zz_callV (qb := 0) (As := [.int a]) (rest := []) (wr := []) S hw hl.1 lX9_154 (c_isPart l G r a) ⟨Nat.le_of_ble_eq_true rfl, Nat.le_of_ble_eq_true rfl⟩ ⟨Nat.le_of_ble_eq_true rfl, Nat.le_of_ble_eq_true rfl⟩ [0, 1] [] (by decide) rfl rfl (by decide) (by decide) rfl rfl rfl rfl (Nat.le_of_ble_eq_true rfl) dX9_regular_2 (fun rr u H locs hp hw => ?_)
  obtain ⟨rfl, rfl⟩ := hp
  have hw : zz_w G A s [((r 0), .inr (9, [.ref (r 1), .int 0, .ref (r 2), .int (-1), .ref (r 10), .ref (r 20), .ref (r 50), .ref (r 55), .ref (r 60), .ref (r 63), .ref (r 67), .ref (r 74), .ref (r 78), .ref (r 95)])), ((r 10), .inr (5, [.ref (r 11), .ref (r 12), .ref (r 13), .ref (r 14), .ref (r 15), .ref (r 16), .ref (r 17), .ref (r 18), .ref (r 19), .int 0, .int 0, .int 1, .int 0]))] H _ := hw
  refine W.eq (g2 := F0 m 5 ls [.int 0]) rfl ?_
  refine lv_if_eq (tgt := 15) hx hb dX9_regular_5 (by decide) (fun _ => ?_) (fun cc => absurd cc (by decide))
  refine lv_iconst (v := (-1)) hx hb dX9_regular_15 (by decide) ?_
  exact hret _ _ _ _ _ _ ⟨rfl, rfl⟩ (hw.sub [] (by decide) rfl) rfl dX9_regular_16
theorem dX9_drift_0 : decode cX9_drift 0 = .ok (.aload_n 0, 1) := by decide +kernel
theorem dX9_drift_1 : decode cX9_drift 1 = .ok (.iload_n 1, 1) := by decide +kernel
theorem dX9_drift_2 : decode cX9_drift 2 = .ok (.invokevirtual 154, 3) := by decide +kernel
theorem dX9_drift_5 : decode cX9_drift 5 = .ok (.ifCond .eq 14, 3) := by decide +kernel
theorem dX9_drift_8 : decode cX9_drift 8 = .ok (.iload_n 2, 1) := by decide +kernel
theorem dX9_drift_9 : decode cX9_drift 9 = .ok (.iconst 1, 1) := by decide +kernel
theorem dX9_drift_10 : decode cX9_drift 10 = .ok (.if_icmp .lt 9, 3) := by decide +kernel
theorem dX9_drift_13 : decode cX9_drift 13 = .ok (.iload_n 2, 1) := by decide +kernel
theorem dX9_drift_14 : decode cX9_drift 14 = .ok (.bipush 60, 2) := by decide +kernel
theorem dX9_drift_16 : decode cX9_drift 16 = .ok (.if_icmp .le 5, 3) := by decide +kernel
theorem dX9_drift_19 : decode cX9_drift 19 = .ok (.iconst (-1), 1) := by decide +kernel
theorem dX9_drift_20 : decode cX9_drift 20 = .ok (.ireturn, 1) := by decide +kernel
theorem dX9_drift_21 : decode cX9_drift 21 = .ok (.aload_n 0, 1) := by decide +kernel
theorem dX9_drift_22 : decode cX9_drift 22 = .ok (.getfield 44, 3) := by decide +kernel
theorem dX9_drift_25 : decode cX9_drift 25 = .ok (.aload_n 0, 1) := by decide +kernel
theorem dX9_drift_26 : decode cX9_drift 26 = .ok (.getfield 40, 3) := by decide +kernel
theorem dX9_drift_29 : decode cX9_drift 29 = .ok (.invokevirtual 244, 3) := by decide +kernel
theorem dX9_drift_32 : decode cX9_drift 32 = .ok (.aload_n 0, 1) := by decide +kernel
theorem dX9_drift_33 : decode cX9_drift 33 = .ok (.getfield 50, 3) := by decide +kernel
theorem dX9_drift_36 : decode cX9_drift 36 = .ok (.aload_n 0, 1) := by decide +kernel
theorem dX9_drift_37 : decode cX9_drift 37 = .ok (.getfield 30, 3) := by decide +kernel
theorem dX9_drift_40 : decode cX9_drift 40 = .ok (.aload_n 0, 1) := by decide +kernel
theorem dX9_drift_41 : decode cX9_drift 41 = .ok (.getfield 44, 3) := by decide +kernel
theorem dX9_drift_44 : decode cX9_drift 44 = .ok (.iload_n 2, 1) := by decide +kernel
theorem dX9_drift_45 : decode cX9_drift 45 = .ok (.aload_n 0, 1) := by decide +kernel
theorem dX9_drift_46 : decode cX9_drift 46 = .ok (.getfield 30, 3) := by decide +kernel
theorem dX9_drift_49 : decode cX9_drift 49 = .ok (.getfield 190, 3) := by decide +kernel
theorem dX9_drift_52 : decode cX9_drift 52 = .ok (.iconst 0, 1) := by decide +kernel
theorem dX9_drift_53 : decode cX9_drift 53 = .ok (.invokevirtual 193, 3) := by decide +kernel
theorem dX9_drift_56 : decode cX9_drift 56 = .ok (.pop, 1) := by decide +kernel
theorem dX9_drift_57 : decode cX9_drift 57 = .ok (.aload_n 0, 1) := by decide +kernel
theorem dX9_drift_58 : decode cX9_drift 58 = .ok (.getfield 44, 3) := by decide +kernel
theorem dX9_drift_61 : decode cX9_drift 61 = .ok (.getfield 157, 3) := by decide +kernel
theorem dX9_drift_64 : decode cX9_drift 64 = .ok (.iload_n 1, 1) := by decide +kernel
theorem dX9_drift_65 : decode cX9_drift 65 = .ok (.iaload, 1) := by decide +kernel
theorem dX9_drift_66 : decode cX9_drift 66 = .ok (.aload_n 0, 1) := by decide +kernel
theorem dX9_drift_67 : decode cX9_drift 67 = .ok (.getfield 40, 3) := by decide +kernel
theorem dX9_drift_70 : decode cX9_drift 70 = .ok (.getfield 157, 3) := by decide +kernel
theorem dX9_drift_73 : decode cX9_drift 73 = .ok (.iload_n 1, 1) := by decide +kernel
theorem dX9_drift_74 : decode cX9_drift 74 = .ok (.iaload, 1) := by decide +kernel
theorem dX9_drift_75 : decode cX9_drift 75 = .ok (.invokestatic 177, 3) := by decide +kernel
theorem dX9_drift_78 : decode cX9_drift 78 = .ok (.ireturn, 1) := by decide +kernel
set_option maxHeartbeats 4000000 in
set_option maxRecDepth 100000 in
theorem c_drift (l : Launch) (G : zz_G) (r : Nat → Nat) (a : Int32) (b : Int32) : zz_M l G mX9_drift 7 0 0 [.ref (r 0), .int a, .int b] [((r 0), .inr (9, [.ref (r 1), .int 0, .ref (r 2), .int (-1), .ref (r 10), .ref (r 20), .ref (r 50), .ref (r 55), .ref (r 60), .ref (r 63), .ref (r 67), .ref (r 74), .ref (r 78), .ref (r 95)])), ((r 10), .inr (5, [.ref (r 11), .ref (r 12), .ref (r 13), .ref (r 14), .ref (r 15), .ref (r 16), .ref (r 17), .ref (r 18), .ref (r 19), .int 0, .int 0, .int 1, .int 0]))] (fun rr u => rr = some (.int (-1)) ∧ u = []) := by
  refine zz_enteri (by decide +kernel) (Nat.le_of_ble_eq_true rfl) ?_
  intro p e s m args below meth c A Q ls S hnm hret hw hl
  have hl : lv_has ls 3 [(0, .ref (r 0)), (1, .int a), (2, .int b)] := hl
  have hx := S.1
  have hb := S.2.1
  refine lv_aload_n hx hb dX9_drift_0 rfl (lv_at hl 0 rfl) ?_
  refine lv_iload_n hx hb dX9_drift_1 rfl (lv_at hl 1 rfl) ?_
  refine zz_callV (qb := 0) (As := [.int a]) (rest := []) (wr := []) S hw hl.1 lX9_154 (c_isPart l G r a) ⟨Nat.le_of_ble_eq_true rfl, Nat.le_of_ble_eq_true rfl⟩ ⟨Nat.le_of_ble_eq_true rfl, Nat.le_of_ble_eq_true rfl⟩ [0, 1] [] (by decide) rfl rfl (by decide) (by decide) rfl rfl rfl rfl (Nat.le_of_ble_eq_true rfl) dX9_drift_2 (fun rr u H locs hp hw => ?_)
  obtain ⟨rfl, rfl⟩ := hp
  have hw : zz_w G A s [((r 0), .inr (9, [.ref (r 1), .int 0, .ref (r 2), .int (-1), .ref (r 10), .ref (r 20), .ref (r 50), .ref (r 55), .ref (r 60), .ref (r 63), .ref (r 67), .ref (r 74), .ref (r 78), .ref (r 95)])), ((r 10), .inr (5, [.ref (r 11), .ref (r 12), .ref (r 13), .ref (r 14), .ref (r 15), .ref (r 16), .ref (r 17), .ref (r 18), .ref (r 19), .int 0, .int 0, .int 1, .int 0]))] H _ := hw
  refine W.eq (g2 := F0 m 5 ls [.int 0]) rfl ?_
  refine lv_if_eq (tgt := 19) hx hb dX9_drift_5 (by decide) (fun _ => ?_) (fun cc => absurd cc (by decide))
  refine lv_iconst (v := (-1)) hx hb dX9_drift_19 (by decide) ?_
  exact hret _ _ _ _ _ _ ⟨rfl, rfl⟩ (hw.sub [] (by decide) rfl) rfl dX9_drift_20
theorem dX9_then_0 : decode cX9_then 0 = .ok (.aload_n 0, 1) := by decide +kernel
theorem dX9_then_1 : decode cX9_then 1 = .ok (.iload_n 1, 1) := by decide +kernel
theorem dX9_then_2 : decode cX9_then 2 = .ok (.invokevirtual 154, 3) := by decide +kernel
theorem dX9_then_5 : decode cX9_then 5 = .ok (.ifCond .eq 20, 3) := by decide +kernel
theorem dX9_then_8 : decode cX9_then 8 = .ok (.iload_n 2, 1) := by decide +kernel
theorem dX9_then_9 : decode cX9_then 9 = .ok (.ifCond .lt 16, 3) := by decide +kernel
theorem dX9_then_12 : decode cX9_then 12 = .ok (.iload_n 2, 1) := by decide +kernel
theorem dX9_then_13 : decode cX9_then 13 = .ok (.bipush 60, 2) := by decide +kernel
theorem dX9_then_15 : decode cX9_then 15 = .ok (.if_icmp .gt 10, 3) := by decide +kernel
theorem dX9_then_18 : decode cX9_then 18 = .ok (.iload_n 3, 1) := by decide +kernel
theorem dX9_then_19 : decode cX9_then 19 = .ok (.invokestatic 210, 3) := by decide +kernel
theorem dX9_then_22 : decode cX9_then 22 = .ok (.ifCond .ne 5, 3) := by decide +kernel
theorem dX9_then_25 : decode cX9_then 25 = .ok (.iconst (-1), 1) := by decide +kernel
theorem dX9_then_26 : decode cX9_then 26 = .ok (.ireturn, 1) := by decide +kernel
theorem dX9_then_27 : decode cX9_then 27 = .ok (.aload_n 0, 1) := by decide +kernel
theorem dX9_then_28 : decode cX9_then 28 = .ok (.getfield 44, 3) := by decide +kernel
theorem dX9_then_31 : decode cX9_then 31 = .ok (.aload_n 0, 1) := by decide +kernel
theorem dX9_then_32 : decode cX9_then 32 = .ok (.getfield 40, 3) := by decide +kernel
theorem dX9_then_35 : decode cX9_then 35 = .ok (.invokevirtual 244, 3) := by decide +kernel
theorem dX9_then_38 : decode cX9_then 38 = .ok (.aload_n 0, 1) := by decide +kernel
theorem dX9_then_39 : decode cX9_then 39 = .ok (.getfield 50, 3) := by decide +kernel
theorem dX9_then_42 : decode cX9_then 42 = .ok (.aload_n 0, 1) := by decide +kernel
theorem dX9_then_43 : decode cX9_then 43 = .ok (.getfield 30, 3) := by decide +kernel
theorem dX9_then_46 : decode cX9_then 46 = .ok (.aload_n 0, 1) := by decide +kernel
theorem dX9_then_47 : decode cX9_then 47 = .ok (.getfield 44, 3) := by decide +kernel
theorem dX9_then_50 : decode cX9_then 50 = .ok (.iload_n 2, 1) := by decide +kernel
theorem dX9_then_51 : decode cX9_then 51 = .ok (.aload_n 0, 1) := by decide +kernel
theorem dX9_then_52 : decode cX9_then 52 = .ok (.getfield 30, 3) := by decide +kernel
theorem dX9_then_55 : decode cX9_then 55 = .ok (.getfield 190, 3) := by decide +kernel
theorem dX9_then_58 : decode cX9_then 58 = .ok (.iconst 1, 1) := by decide +kernel
theorem dX9_then_59 : decode cX9_then 59 = .ok (.invokevirtual 193, 3) := by decide +kernel
theorem dX9_then_62 : decode cX9_then 62 = .ok (.pop, 1) := by decide +kernel
theorem dX9_then_63 : decode cX9_then 63 = .ok (.iload_n 3, 1) := by decide +kernel
theorem dX9_then_64 : decode cX9_then 64 = .ok (.ifCond .ne 13, 3) := by decide +kernel
theorem dX9_then_67 : decode cX9_then 67 = .ok (.aload_n 0, 1) := by decide +kernel
theorem dX9_then_68 : decode cX9_then 68 = .ok (.getfield 44, 3) := by decide +kernel
theorem dX9_then_71 : decode cX9_then 71 = .ok (.getfield 157, 3) := by decide +kernel
theorem dX9_then_74 : decode cX9_then 74 = .ok (.iload_n 1, 1) := by decide +kernel
theorem dX9_then_75 : decode cX9_then 75 = .ok (.iaload, 1) := by decide +kernel
theorem dX9_then_76 : decode cX9_then 76 = .ok (.ireturn, 1) := by decide +kernel
theorem dX9_then_77 : decode cX9_then 77 = .ok (.aload_n 0, 1) := by decide +kernel
theorem dX9_then_78 : decode cX9_then 78 = .ok (.getfield 50, 3) := by decide +kernel
theorem dX9_then_81 : decode cX9_then 81 = .ok (.aload_n 0, 1) := by decide +kernel
theorem dX9_then_82 : decode cX9_then 82 = .ok (.getfield 30, 3) := by decide +kernel
theorem dX9_then_85 : decode cX9_then 85 = .ok (.aload_n 0, 1) := by decide +kernel
theorem dX9_then_86 : decode cX9_then 86 = .ok (.getfield 44, 3) := by decide +kernel
theorem dX9_then_89 : decode cX9_then 89 = .ok (.invokevirtual 141, 3) := by decide +kernel
theorem dX9_then_92 : decode cX9_then 92 = .ok (.aload_n 0, 1) := by decide +kernel
theorem dX9_then_93 : decode cX9_then 93 = .ok (.getfield 50, 3) := by decide +kernel
theorem dX9_then_96 : decode cX9_then 96 = .ok (.getfield 166, 3) := by decide +kernel
theorem dX9_then_99 : decode cX9_then 99 = .ok (.iload_n 1, 1) := by decide +kernel
theorem dX9_then_100 : decode cX9_then 100 = .ok (.iaload, 1) := by decide +kernel
theorem dX9_then_101 : decode cX9_then 101 = .ok (.ireturn, 1) := by decide +kernel
set_option maxHeartbeats 4000000 in
set_option maxRecDepth 100000 in
theorem c_then (l : Launch) (G : zz_G) (r : Nat → Nat) (a : Int32) (b : Int32) (d : Int32) : zz_M l G mX9_then 7 0 0 [.ref (r 0), .int a, .int b, .int d] [((r 0), .inr (9, [.ref (r 1), .int 0, .ref (r 2), .int (-1), .ref (r 10), .ref (r 20), .ref (r 50), .ref (r 55), .ref (r 60), .ref (r 63), .ref (r 67), .ref (r 74), .ref (r 78), .ref (r 95)])), ((r 10), .inr (5, [.ref (r 11), .ref (r 12), .ref (r 13), .ref (r 14), .ref (r 15), .ref (r 16), .ref (r 17), .ref (r 18), .ref (r 19), .int 0, .int 0, .int 1, .int 0]))] (fun rr u => rr = some (.int (-1)) ∧ u = []) := by
  refine zz_enteri (by decide +kernel) (Nat.le_of_ble_eq_true rfl) ?_
  intro p e s m args below meth c A Q ls S hnm hret hw hl
  have hl : lv_has ls 4 [(0, .ref (r 0)), (1, .int a), (2, .int b), (3, .int d)] := hl
  have hx := S.1
  have hb := S.2.1
  refine lv_aload_n hx hb dX9_then_0 rfl (lv_at hl 0 rfl) ?_
  refine lv_iload_n hx hb dX9_then_1 rfl (lv_at hl 1 rfl) ?_
  refine zz_callV (qb := 0) (As := [.int a]) (rest := []) (wr := []) S hw hl.1 lX9_154 (c_isPart l G r a) ⟨Nat.le_of_ble_eq_true rfl, Nat.le_of_ble_eq_true rfl⟩ ⟨Nat.le_of_ble_eq_true rfl, Nat.le_of_ble_eq_true rfl⟩ [0, 1] [] (by decide) rfl rfl (by decide) (by decide) rfl rfl rfl rfl (Nat.le_of_ble_eq_true rfl) dX9_then_2 (fun rr u H locs hp hw => ?_)
  obtain ⟨rfl, rfl⟩ := hp
  have hw : zz_w G A s [((r 0), .inr (9, [.ref (r 1), .int 0, .ref (r 2), .int (-1), .ref (r 10), .ref (r 20), .ref (r 50), .ref (r 55), .ref (r 60), .ref (r 63), .ref (r 67), .ref (r 74), .ref (r 78), .ref (r 95)])), ((r 10), .inr (5, [.ref (r 11), .ref (r 12), .ref (r 13), .ref (r 14), .ref (r 15), .ref (r 16), .ref (r 17), .ref (r 18), .ref (r 19), .int 0, .int 0, .int 1, .int 0]))] H _ := hw
  refine W.eq (g2 := F0 m 5 ls [.int 0]) rfl ?_
  refine lv_if_eq (tgt := 25) hx hb dX9_then_5 (by decide) (fun _ => ?_) (fun cc => absurd cc (by decide))
  refine lv_iconst (v := (-1)) hx hb dX9_then_25 (by decide) ?_
  exact hret _ _ _ _ _ _ ⟨rfl, rfl⟩ (hw.sub [] (by decide) rfl) rfl dX9_then_26
theorem dX9_tell_0 : decode cX9_tell 0 = .ok (.aload_n 0, 1) := by decide +kernel
theorem dX9_tell_1 : decode cX9_tell 1 = .ok (.iload_n 1, 1) := by decide +kernel
theorem dX9_tell_2 : decode cX9_tell 2 = .ok (.invokevirtual 154, 3) := by decide +kernel
theorem dX9_tell_5 : decode cX9_tell 5 = .ok (.ifCond .eq 13, 3) := by decide +kernel
theorem dX9_tell_8 : decode cX9_tell 8 = .ok (.iload_n 2, 1) := by decide +kernel
theorem dX9_tell_9 : decode cX9_tell 9 = .ok (.ifCond .lt 9, 3) := by decide +kernel
theorem dX9_tell_12 : decode cX9_tell 12 = .ok (.iload_n 2, 1) := by decide +kernel
theorem dX9_tell_13 : decode cX9_tell 13 = .ok (.bipush 99, 2) := by decide +kernel
theorem dX9_tell_15 : decode cX9_tell 15 = .ok (.if_icmp .le 5, 3) := by decide +kernel
theorem dX9_tell_18 : decode cX9_tell 18 = .ok (.iconst (-1), 1) := by decide +kernel
theorem dX9_tell_19 : decode cX9_tell 19 = .ok (.ireturn, 1) := by decide +kernel
theorem dX9_tell_20 : decode cX9_tell 20 = .ok (.aload_n 0, 1) := by decide +kernel
theorem dX9_tell_21 : decode cX9_tell 21 = .ok (.getfield 71, 3) := by decide +kernel
theorem dX9_tell_24 : decode cX9_tell 24 = .ok (.iload_n 1, 1) := by decide +kernel
theorem dX9_tell_25 : decode cX9_tell 25 = .ok (.iload_n 2, 1) := by decide +kernel
theorem dX9_tell_26 : decode cX9_tell 26 = .ok (.iload_n 3, 1) := by decide +kernel
theorem dX9_tell_27 : decode cX9_tell 27 = .ok (.invokevirtual 274, 3) := by decide +kernel
theorem dX9_tell_30 : decode cX9_tell 30 = .ok (.ireturn, 1) := by decide +kernel
set_option maxHeartbeats 4000000 in
set_option maxRecDepth 100000 in
theorem c_tell (l : Launch) (G : zz_G) (r : Nat → Nat) (a : Int32) (b : Int32) (d : Int32) : zz_M l G mX9_tell 1 0 0 [.ref (r 0), .int a, .int b, .int d] [((r 0), .inr (9, [.ref (r 1), .int 0, .ref (r 2), .int (-1), .ref (r 10), .ref (r 20), .ref (r 50), .ref (r 55), .ref (r 60), .ref (r 63), .ref (r 67), .ref (r 74), .ref (r 78), .ref (r 95)])), ((r 10), .inr (5, [.ref (r 11), .ref (r 12), .ref (r 13), .ref (r 14), .ref (r 15), .ref (r 16), .ref (r 17), .ref (r 18), .ref (r 19), .int 0, .int 0, .int 1, .int 0]))] (fun rr u => rr = some (.int (-1)) ∧ u = []) := by
  refine zz_enteri (by decide +kernel) (Nat.le_of_ble_eq_true rfl) ?_
  intro p e s m args below meth c A Q ls S hnm hret hw hl
  have hl : lv_has ls 4 [(0, .ref (r 0)), (1, .int a), (2, .int b), (3, .int d)] := hl
  have hx := S.1
  have hb := S.2.1
  refine lv_aload_n hx hb dX9_tell_0 rfl (lv_at hl 0 rfl) ?_
  refine lv_iload_n hx hb dX9_tell_1 rfl (lv_at hl 1 rfl) ?_
  refine zz_callV (qb := 0) (As := [.int a]) (rest := []) (wr := []) S hw hl.1 lX9_154 (c_isPart l G r a) ⟨Nat.le_of_ble_eq_true rfl, Nat.le_of_ble_eq_true rfl⟩ ⟨Nat.le_of_ble_eq_true rfl, Nat.le_of_ble_eq_true rfl⟩ [0, 1] [] (by decide) rfl rfl (by decide) (by decide) rfl rfl rfl rfl (Nat.le_of_ble_eq_true rfl) dX9_tell_2 (fun rr u H locs hp hw => ?_)
  obtain ⟨rfl, rfl⟩ := hp
  have hw : zz_w G A s [((r 0), .inr (9, [.ref (r 1), .int 0, .ref (r 2), .int (-1), .ref (r 10), .ref (r 20), .ref (r 50), .ref (r 55), .ref (r 60), .ref (r 63), .ref (r 67), .ref (r 74), .ref (r 78), .ref (r 95)])), ((r 10), .inr (5, [.ref (r 11), .ref (r 12), .ref (r 13), .ref (r 14), .ref (r 15), .ref (r 16), .ref (r 17), .ref (r 18), .ref (r 19), .int 0, .int 0, .int 1, .int 0]))] H _ := hw
  refine W.eq (g2 := F0 m 5 ls [.int 0]) rfl ?_
  refine lv_if_eq (tgt := 18) hx hb dX9_tell_5 (by decide) (fun _ => ?_) (fun cc => absurd cc (by decide))
  refine lv_iconst (v := (-1)) hx hb dX9_tell_18 (by decide) ?_
  exact hret _ _ _ _ _ _ ⟨rfl, rfl⟩ (hw.sub [] (by decide) rfl) rfl dX9_tell_19
theorem dX9_write_0 : decode cX9_write 0 = .ok (.aload_n 0, 1) := by decide +kernel
theorem dX9_write_1 : decode cX9_write 1 = .ok (.iload_n 1, 1) := by decide +kernel
theorem dX9_write_2 : decode cX9_write 2 = .ok (.invokevirtual 154, 3) := by decide +kernel
theorem dX9_write_5 : decode cX9_write 5 = .ok (.ifCond .eq 23, 3) := by decide +kernel
theorem dX9_write_8 : decode cX9_write 8 = .ok (.iload_n 2, 1) := by decide +kernel
theorem dX9_write_9 : decode cX9_write 9 = .ok (.invokestatic 180, 3) := by decide +kernel
theorem dX9_write_12 : decode cX9_write 12 = .ok (.ifCond .eq 16, 3) := by decide +kernel
theorem dX9_write_15 : decode cX9_write 15 = .ok (.aload_n 0, 1) := by decide +kernel
theorem dX9_write_16 : decode cX9_write 16 = .ok (.getfield 40, 3) := by decide +kernel
theorem dX9_write_19 : decode cX9_write 19 = .ok (.getfield 157, 3) := by decide +kernel
theorem dX9_write_22 : decode cX9_write 22 = .ok (.iload_n 1, 1) := by decide +kernel
theorem dX9_write_23 : decode cX9_write 23 = .ok (.iaload, 1) := by decide +kernel
theorem dX9_write_24 : decode cX9_write 24 = .ok (.iload_n 2, 1) := by decide +kernel
theorem dX9_write_25 : decode cX9_write 25 = .ok (.if_icmp .ne 5, 3) := by decide +kernel
theorem dX9_write_28 : decode cX9_write 28 = .ok (.iconst 0, 1) := by decide +kernel
theorem dX9_write_29 : decode cX9_write 29 = .ok (.ireturn, 1) := by decide +kernel
theorem dX9_write_30 : decode cX9_write 30 = .ok (.aload_n 0, 1) := by decide +kernel
theorem dX9_write_31 : decode cX9_write 31 = .ok (.getfield 64, 3) := by decide +kernel
theorem dX9_write_34 : decode cX9_write 34 = .ok (.aload_n 0, 1) := by decide +kernel
theorem dX9_write_35 : decode cX9_write 35 = .ok (.getfield 40, 3) := by decide +kernel
theorem dX9_write_38 : decode cX9_write 38 = .ok (.invokevirtual 183, 3) := by decide +kernel
theorem dX9_write_41 : decode cX9_write 41 = .ok (.aload_n 0, 1) := by decide +kernel
theorem dX9_write_42 : decode cX9_write 42 = .ok (.getfield 40, 3) := by decide +kernel
theorem dX9_write_45 : decode cX9_write 45 = .ok (.getfield 157, 3) := by decide +kernel
theorem dX9_write_48 : decode cX9_write 48 = .ok (.iload_n 1, 1) := by decide +kernel
theorem dX9_write_49 : decode cX9_write 49 = .ok (.iload_n 2, 1) := by decide +kernel
theorem dX9_write_50 : decode cX9_write 50 = .ok (.iastore, 1) := by decide +kernel
theorem dX9_write_51 : decode cX9_write 51 = .ok (.iconst 1, 1) := by decide +kernel
theorem dX9_write_52 : decode cX9_write 52 = .ok (.ireturn, 1) := by decide +kernel
set_option maxHeartbeats 4000000 in
set_option maxRecDepth 100000 in
theorem c_write (l : Launch) (G : zz_G) (r : Nat → Nat) (a : Int32) (b : Int32) : zz_M l G mX9_write 3 0 0 [.ref (r 0), .int a, .int b] [((r 0), .inr (9, [.ref (r 1), .int 0, .ref (r 2), .int (-1), .ref (r 10), .ref (r 20), .ref (r 50), .ref (r 55), .ref (r 60), .ref (r 63), .ref (r 67), .ref (r 74), .ref (r 78), .ref (r 95)])), ((r 10), .inr (5, [.ref (r 11), .ref (r 12), .ref (r 13), .ref (r 14), .ref (r 15), .ref (r 16), .ref (r 17), .ref (r 18), .ref (r 19), .int 0, .int 0, .int 1, .int 0]))] (fun rr u => rr = some (.int 0) ∧ u = []) := by
  refine zz_enteri (by decide +kernel) (Nat.le_of_ble_eq_true rfl) ?_
  intro p e s m args below meth c A Q ls S hnm hret hw hl
  have hl : lv_has ls 3 [(0, .ref (r 0)), (1, .int a), (2, .int b)] := hl
  have hx := S.1
  have hb := S.2.1
  refine lv_aload_n hx hb dX9_write_0 rfl (lv_at hl 0 rfl) ?_
  refine lv_iload_n hx hb dX9_write_1 rfl (lv_at hl 1 rfl) ?_
  refine zz_callV (qb := 0) (As := [.int a]) (rest := []) (wr := []) S hw hl.1 lX9_154 (c_isPart l G r a) ⟨Nat.le_of_ble_eq_true rfl, Nat.le_of_ble_eq_true rfl⟩ ⟨Nat.le_of_ble_eq_true rfl, Nat.le_of_ble_eq_true rfl⟩ [0, 1] [] (by decide) rfl rfl (by decide) (by decide) rfl rfl rfl rfl (Nat.le_of_ble_eq_true rfl) dX9_write_2 (fun rr u H locs hp hw => ?_)
  obtain ⟨rfl, rfl⟩ := hp
  have hw : zz_w G A s [((r 0), .inr (9, [.ref (r 1), .int 0, .ref (r 2), .int (-1), .ref (r 10), .ref (r 20), .ref (r 50), .ref (r 55), .ref (r 60), .ref (r 63), .ref (r 67), .ref (r 74), .ref (r 78), .ref (r 95)])), ((r 10), .inr (5, [.ref (r 11), .ref (r 12), .ref (r 13), .ref (r 14), .ref (r 15), .ref (r 16), .ref (r 17), .ref (r 18), .ref (r 19), .int 0, .int 0, .int 1, .int 0]))] H _ := hw
  refine W.eq (g2 := F0 m 5 ls [.int 0]) rfl ?_
  refine lv_if_eq (tgt := 28) hx hb dX9_write_5 (by decide) (fun _ => ?_) (fun cc => absurd cc (by decide))
  refine lv_iconst (v := 0) hx hb dX9_write_28 (by decide) ?_
  exact hret _ _ _ _ _ _ ⟨rfl, rfl⟩ (hw.sub [] (by decide) rfl) rfl dX9_write_29
theorem dX3_takeBack_0 : decode cX3_takeBack 0 = .ok (.aload_n 0, 1) := by decide +kernel
theorem dX3_takeBack_1 : decode cX3_takeBack 1 = .ok (.getfield 19, 3) := by decide +kernel
theorem dX3_takeBack_4 : decode cX3_takeBack 4 = .ok (.ifCond .ne 5, 3) := by decide +kernel
theorem dX3_takeBack_7 : decode cX3_takeBack 7 = .ok (.iconst 0, 1) := by decide +kernel
theorem dX3_takeBack_8 : decode cX3_takeBack 8 = .ok (.ireturn, 1) := by decide +kernel
theorem dX3_takeBack_9 : decode cX3_takeBack 9 = .ok (.aload_n 0, 1) := by decide +kernel
theorem dX3_takeBack_10 : decode cX3_takeBack 10 = .ok (.aload_n 0, 1) := by decide +kernel
theorem dX3_takeBack_11 : decode cX3_takeBack 11 = .ok (.getfield 15, 3) := by decide +kernel
theorem dX3_takeBack_14 : decode cX3_takeBack 14 = .ok (.ifCond .gt 8, 3) := by decide +kernel
theorem dX3_takeBack_17 : decode cX3_takeBack 17 = .ok (.bipush 39, 2) := by decide +kernel
theorem dX3_takeBack_19 : decode cX3_takeBack 19 = .ok (.goto 9, 3) := by decide +kernel
theorem dX3_takeBack_22 : decode cX3_takeBack 22 = .ok (.aload_n 0, 1) := by decide +kernel
theorem dX3_takeBack_23 : decode cX3_takeBack 23 = .ok (.getfield 15, 3) := by decide +kernel
theorem dX3_takeBack_26 : decode cX3_takeBack 26 = .ok (.iconst 1, 1) := by decide +kernel
theorem dX3_takeBack_27 : decode cX3_takeBack 27 = .ok (.isub, 1) := by decide +kernel
theorem dX3_takeBack_28 : decode cX3_takeBack 28 = .ok (.putfield 15, 3) := by decide +kernel
theorem dX3_takeBack_31 : decode cX3_takeBack 31 = .ok (.aload_n 0, 1) := by decide +kernel
theorem dX3_takeBack_32 : decode cX3_takeBack 32 = .ok (.dup, 1) := by decide +kernel
theorem dX3_takeBack_33 : decode cX3_takeBack 33 = .ok (.getfield 19, 3) := by decide +kernel
theorem dX3_takeBack_36 : decode cX3_takeBack 36 = .ok (.iconst 1, 1) := by decide +kernel
theorem dX3_takeBack_37 : decode cX3_takeBack 37 = .ok (.isub, 1) := by decide +kernel
theorem dX3_takeBack_38 : decode cX3_takeBack 38 = .ok (.putfield 19, 3) := by decide +kernel
theorem dX3_takeBack_41 : decode cX3_takeBack 41 = .ok (.aload_n 1, 1) := by decide +kernel
theorem dX3_takeBack_42 : decode cX3_takeBack 42 = .ok (.aload_n 0, 1) := by decide +kernel
theorem dX3_takeBack_43 : decode cX3_takeBack 43 = .ok (.getfield 11, 3) := by decide +kernel
theorem dX3_takeBack_46 : decode cX3_takeBack 46 = .ok (.aload_n 0, 1) := by decide +kernel
theorem dX3_takeBack_47 : decode cX3_takeBack 47 = .ok (.getfield 15, 3) := by decide +kernel
theorem dX3_takeBack_50 : decode cX3_takeBack 50 = .ok (.aaload, 1) := by decide +kernel
theorem dX3_takeBack_51 : decode cX3_takeBack 51 = .ok (.invokevirtual 23, 3) := by decide +kernel
theorem dX3_takeBack_54 : decode cX3_takeBack 54 = .ok (.iconst 1, 1) := by decide +kernel
theorem dX3_takeBack_55 : decode cX3_takeBack 55 = .ok (.ireturn, 1) := by decide +kernel
set_option maxHeartbeats 4000000 in
set_option maxRecDepth 100000 in
theorem c_takeBack0 (l : Launch) (G : zz_G) (h0 : Nat) (k0 : Nat) (b1 : Nat) (nx : Int32) : zz_M l G mX3_takeBack 2 0 0 [.ref h0, .ref k0] [(h0, .inr (3, [.ref b1, .int nx, .int 0]))] (fun rr u => rr = some (.int 0) ∧ u = []) := by
  refine zz_enteri (by decide +kernel) (Nat.le_of_ble_eq_true rfl) ?_
  intro p e s m args below meth c A Q ls S hnm hret hw hl
  have hl : lv_has ls 2 [(0, .ref h0), (1, .ref k0)] := hl
  have hx := S.1
  have hb := S.2.1
  refine lv_aload_n hx hb dX3_takeBack_0 rfl (lv_at hl 0 rfl) ?_
  refine zz_get (v := .int 0) S hw fgX3_19 0 rfl rfl dX3_takeBack_1 ?_
  refine lv_if_ne (tgt := 9) hx hb dX3_takeBack_4 (by decide) (fun cc => absurd cc (by decide)) (fun _ => ?_)
  refine lv_iconst (v := 0) hx hb dX3_takeBack_7 (by decide) ?_
  exact hret _ _ _ _ _ _ ⟨rfl, rfl⟩ (hw.sub [] (by decide) rfl) rfl dX3_takeBack_8
theorem dX9_undo_0 : decode cX9_undo 0 = .ok (.aload_n 0, 1) := by decide +kernel
theorem dX9_undo_1 : decode cX9_undo 1 = .ok (.getfield 64, 3) := by decide +kernel
theorem dX9_undo_4 : decode cX9_undo 4 = .ok (.aload_n 0, 1) := by decide +kernel
theorem dX9_undo_5 : decode cX9_undo 5 = .ok (.getfield 40, 3) := by decide +kernel
theorem dX9_undo_8 : decode cX9_undo 8 = .ok (.invokevirtual 200, 3) := by decide +kernel
theorem dX9_undo_11 : decode cX9_undo 11 = .ok (.ireturn, 1) := by decide +kernel
set_option maxHeartbeats 4000000 in
set_option maxRecDepth 100000 in
theorem c_undo (l : Launch) (G : zz_G) (r : Nat → Nat) : zz_M l G mX9_undo 3 0 0 [.ref (r 0)] [((r 0), .inr (9, [.ref (r 1), .int 0, .ref (r 2), .int (-1), .ref (r 10), .ref (r 20), .ref (r 50), .ref (r 55), .ref (r 60), .ref (r 63), .ref (r 67), .ref (r 74), .ref (r 78), .ref (r 95)])), ((r 67), .inr (3, [.ref (r 68), .int 0, .int 0]))] (fun rr u => rr = some (.int 0) ∧ u = []) := by
  refine zz_enteri (by decide +kernel) (Nat.le_of_ble_eq_true rfl) ?_
  intro p e s m args below meth c A Q ls S hnm hret hw hl
  have hl : lv_has ls 1 [(0, .ref (r 0))] := hl
  have hx := S.1
  have hb := S.2.1
  refine lv_aload_n hx hb dX9_undo_0 rfl (lv_at hl 0 rfl) ?_
  refine zz_get (v := .ref (r 67)) S hw fgX9_64 0 rfl rfl dX9_undo_1 ?_
  refine lv_aload_n hx hb dX9_undo_4 rfl (lv_at hl 0 rfl) ?_
  refine zz_get (v := .ref (r 50)) S hw fgX9_40 0 rfl rfl dX9_undo_5 ?_
  refine zz_callV (qb := 1) (As := [.ref (r 50)]) (rest := []) (wr := [((r 0), .inr (9, [.ref (r 1), .int 0, .ref (r 2), .int (-1), .ref (r 10), .ref (r 20), .ref (r 50), .ref (r 55), .ref (r 60), .ref (r 63), .ref (r 67), .ref (r 74), .ref (r 78), .ref (r 95)]))]) S hw hl.1 lX9_200 (c_takeBack0 l G (r 67) (r 50) (r 68) 0) ⟨Nat.le_of_ble_eq_true rfl, Nat.le_of_ble_eq_true rfl⟩ ⟨Nat.le_of_ble_eq_true rfl, Nat.le_of_ble_eq_true rfl⟩ [1] [0] (by decide) rfl rfl (by decide) (by decide) rfl rfl rfl rfl (Nat.le_of_ble_eq_true rfl) dX9_undo_8 (fun rr u H locs hp hw => ?_)
  obtain ⟨rfl, rfl⟩ := hp
  have hw : zz_w G A s [((r 0), .inr (9, [.ref (r 1), .int 0, .ref (r 2), .int (-1), .ref (r 10), .ref (r 20), .ref (r 50), .ref (r 55), .ref (r 60), .ref (r 63), .ref (r 67), .ref (r 74), .ref (r 78), .ref (r 95)]))] H _ := hw
  refine W.eq (g2 := F0 m 11 ls [.int 0]) rfl ?_
  exact hret _ _ _ _ _ _ ⟨rfl, rfl⟩ (hw.sub [] (by decide) rfl) rfl dX9_undo_11
theorem dX0_fill_0 : decode cX0_fill 0 = .ok (.aload_n 0, 1) := by decide +kernel
theorem dX0_fill_1 : decode cX0_fill 1 = .ok (.iconst 0, 1) := by decide +kernel
theorem dX0_fill_2 : decode cX0_fill 2 = .ok (.putfield 18, 3) := by decide +kernel
theorem dX0_fill_5 : decode cX0_fill 5 = .ok (.aload_n 0, 1) := by decide +kernel
theorem dX0_fill_6 : decode cX0_fill 6 = .ok (.iconst 0, 1) := by decide +kernel
theorem dX0_fill_7 : decode cX0_fill 7 = .ok (.putfield 22, 3) := by decide +kernel
theorem dX0_fill_10 : decode cX0_fill 10 = .ok (.iconst 0, 1) := by decide +kernel
theorem dX0_fill_11 : decode cX0_fill 11 = .ok (.istore_n 3, 1) := by decide +kernel
theorem dX0_fill_12 : decode cX0_fill 12 = .ok (.iload_n 3, 1) := by decide +kernel
theorem dX0_fill_13 : decode cX0_fill 13 = .ok (.bipush 7, 2) := by decide +kernel
theorem dX0_fill_15 : decode cX0_fill 15 = .ok (.if_icmp .ge 17, 3) := by decide +kernel
theorem dX0_fill_18 : decode cX0_fill 18 = .ok (.aload_n 0, 1) := by decide +kernel
theorem dX0_fill_19 : decode cX0_fill 19 = .ok (.getfield 15, 3) := by decide +kernel
theorem dX0_fill_22 : decode cX0_fill 22 = .ok (.iload_n 3, 1) := by decide +kernel
theorem dX0_fill_23 : decode cX0_fill 23 = .ok (.bipush (-2), 2) := by decide +kernel
theorem dX0_fill_25 : decode cX0_fill 25 = .ok (.iastore, 1) := by decide +kernel
theorem dX0_fill_26 : decode cX0_fill 26 = .ok (.iinc 3 1, 3) := by decide +kernel
theorem dX0_fill_29 : decode cX0_fill 29 = .ok (.goto (-17), 3) := by decide +kernel
theorem dX0_fill_32 : decode cX0_fill 32 = .ok (.iconst 0, 1) := by decide +kernel
theorem dX0_fill_33 : decode cX0_fill 33 = .ok (.istore_n 3, 1) := by decide +kernel
theorem dX0_fill_34 : decode cX0_fill 34 = .ok (.iload_n 3, 1) := by decide +kernel
theorem dX0_fill_35 : decode cX0_fill 35 = .ok (.aload_n 1, 1) := by decide +kernel
theorem dX0_fill_36 : decode cX0_fill 36 = .ok (.getfield 25, 3) := by decide +kernel
theorem dX0_fill_39 : decode cX0_fill 39 = .ok (.if_icmp .ge 16, 3) := by decide +kernel
theorem dX0_fill_42 : decode cX0_fill 42 = .ok (.aload_n 0, 1) := by decide +kernel
theorem dX0_fill_43 : decode cX0_fill 43 = .ok (.aload_n 1, 1) := by decide +kernel
theorem dX0_fill_44 : decode cX0_fill 44 = .ok (.aload_n 2, 1) := by decide +kernel
theorem dX0_fill_45 : decode cX0_fill 45 = .ok (.iload_n 3, 1) := by decide +kernel
theorem dX0_fill_46 : decode cX0_fill 46 = .ok (.invokevirtual 30, 3) := by decide +kernel
theorem dX0_fill_49 : decode cX0_fill 49 = .ok (.iinc 3 1, 3) := by decide +kernel
theorem dX0_fill_52 : decode cX0_fill 52 = .ok (.goto (-18), 3) := by decide +kernel
theorem dX0_fill_55 : decode cX0_fill 55 = .ok (.return_, 1) := by decide +kernel
set_option maxHeartbeats 4000000 in
set_option maxRecDepth 100000 in
theorem c_fill0 (l : Launch) (G : zz_G) (c0 : Nat) (a1 : Nat) (a2 : Nat) (sc : Nat) (s1 : Nat) (s2 : Nat) (s3 : Nat) (s4 : Nat) (s5 : Nat) (s6 : Nat) (s7 : Nat) (s8 : Nat) (s9 : Nat) (k0 : Nat) (f : Nat → Int32) (fi : Int32) (sd : Int32) : zz_M l G mX0_fill 5 0 0 [.ref c0, .ref sc, .ref k0] [(c0, .inr (0, [.ref a1, .ref a2, .int fi, .int sd])), (a2, .inl (G.2 0, 7, .inl f)), (sc, .inr (5, [.ref s1, .ref s2, .ref s3, .ref s4, .ref s5, .ref s6, .ref s7, .ref s8, .ref s9, .int 0, .int 0, .int 1, .int 0]))] (fun rr u => ∃ (ff : Nat → Int32), rr = none ∧ u = [(c0, .inr (0, [.ref a1, .ref a2, .int 0, .int 0])), (a2, .inl (G.2 0, 7, .inl ff)), (sc, .inr (5, [.ref s1, .ref s2, .ref s3, .ref s4, .ref s5, .ref s6, .ref s7, .ref s8, .ref s9, .int 0, .int 0, .int 1, .int 0]))]) := by
  refine zz_enterv (by decide +kernel) (Nat.le_of_ble_eq_true rfl) ?_
  intro p e s m args below meth c A Q ls S hnm hret hw hl
  have hl : lv_has ls 4 [(0, .ref c0), (1, .ref sc), (2, .ref k0)] := hl
  have hx := S.1
  have hb := S.2.1
  refine lv_aload_n hx hb dX0_fill_0 rfl (lv_at hl 0 rfl) ?_
  refine lv_iconst (v := 0) hx hb dX0_fill_1 (by decide) ?_
  refine zz_put (ws' := [(c0, .inr (0, [.ref a1, .ref a2, .int 0, .int sd])), (a2, .inl (G.2 0, 7, .inl f)), (sc, .inr (5, [.ref s1, .ref s2, .ref s3, .ref s4, .ref s5, .ref s6, .ref s7, .ref s8, .ref s9, .int 0, .int 0, .int 1, .int 0]))]) (v := .int 0) S hw fpX0_18 0 rfl rfl rfl (Nat.le_of_ble_eq_true rfl) rfl dX0_fill_2 (fun H locs hw => ?_)
  refine lv_aload_n hx hb dX0_fill_5 rfl (lv_at hl 0 rfl) ?_
  refine lv_iconst (v := 0) hx hb dX0_fill_6 (by decide) ?_
  refine zz_put (ws' := [(c0, .inr (0, [.ref a1, .ref a2, .int 0, .int 0])), (a2, .inl (G.2 0, 7, .inl f)), (sc, .inr (5, [.ref s1, .ref s2, .ref s3, .ref s4, .ref s5, .ref s6, .ref s7, .ref s8, .ref s9, .int 0, .int 0, .int 1, .int 0]))]) (v := .int 0) S hw fpX0_22 0 rfl rfl rfl (Nat.le_of_ble_eq_true rfl) rfl dX0_fill_7 (fun H locs hw => ?_)
  refine lv_iconst (v := 0) hx hb dX0_fill_10 (by decide) ?_
  refine lv_istore_n (lv' := [(3, .int 0), (0, .ref c0), (1, .ref sc), (2, .ref k0)]) hx hb dX0_fill_11 rfl hl (by decide) rfl (fun ls hl => ?_)
  refine lv_iload_n hx hb dX0_fill_12 rfl (lv_at hl 0 rfl) ?_
  refine lv_bipush (v := 7) hx hb dX0_fill_13 (by decide) ?_
  refine lv_icmp_ge (tgt := 32) hx hb dX0_fill_15 (by decide) (fun cc => absurd cc (by decide)) (fun _ => ?_)
  refine lv_aload_n hx hb dX0_fill_18 rfl (lv_at hl 1 rfl) ?_
  refine zz_get (v := .ref a2) S hw fgX0_15 0 rfl rfl dX0_fill_19 ?_
  refine lv_iload_n hx hb dX0_fill_22 rfl (lv_at hl 0 rfl) ?_
  refine lv_bipush (v := (-2)) hx hb dX0_fill_23 (by decide) ?_
  refine zz_iast (ws' := [(c0, .inr (0, [.ref a1, .ref a2, .int 0, .int 0])), (a2, .inl (G.2 0, 7, .inl (upd f 0 (-2)))), (sc, .inr (5, [.ref s1, .ref s2, .ref s3, .ref s4, .ref s5, .ref s6, .ref s7, .ref s8, .ref s9, .int 0, .int 0, .int 1, .int 0]))]) (g := (upd f 0 (-2))) S hw 1 rfl (vp_in_nI (n := 0) (by decide) (by decide)) (zz_upn (n := 0) (by decide)) rfl dX0_fill_25 (fun H locs hw => ?_)
  refine lv_iinc (v := 1) (lv' := [(3, .int 1), (0, .ref c0), (1, .ref sc), (2, .ref k0)]) hx hb dX0_fill_26 hl (k := 0) rfl (by decide) (by decide) rfl (fun ls hl => ?_)
  refine lv_goto (tgt := 12) hx hb dX0_fill_29 (by decide) ?_
  refine lv_iload_n hx hb dX0_fill_12 rfl (lv_at hl 0 rfl) ?_
  refine lv_bipush (v := 7) hx hb dX0_fill_13 (by decide) ?_
  refine lv_icmp_ge (tgt := 32) hx hb dX0_fill_15 (by decide) (fun cc => absurd cc (by decide)) (fun _ => ?_)
  refine lv_aload_n hx hb dX0_fill_18 rfl (lv_at hl 1 rfl) ?_
  refine zz_get (v := .ref a2) S hw fgX0_15 0 rfl rfl dX0_fill_19 ?_
  refine lv_iload_n hx hb dX0_fill_22 rfl (lv_at hl 0 rfl) ?_
  refine lv_bipush (v := (-2)) hx hb dX0_fill_23 (by decide) ?_
  refine zz_iast (ws' := [(c0, .inr (0, [.ref a1, .ref a2, .int 0, .int 0])), (a2, .inl (G.2 0, 7, .inl (upd (upd f 0 (-2)) 1 (-2)))), (sc, .inr (5, [.ref s1, .ref s2, .ref s3, .ref s4, .ref s5, .ref s6, .ref s7, .ref s8, .ref s9, .int 0, .int 0, .int 1, .int 0]))]) (g := (upd (upd f 0 (-2)) 1 (-2))) S hw 1 rfl (vp_in_nI (n := 1) (by decide) (by decide)) (zz_upn (n := 1) (by decide)) rfl dX0_fill_25 (fun H locs hw => ?_)
  refine lv_iinc (v := 2) (lv' := [(3, .int 2), (0, .ref c0), (1, .ref sc), (2, .ref k0)]) hx hb dX0_fill_26 hl (k := 0) rfl (by decide) (by decide) rfl (fun ls hl => ?_)
  refine lv_goto (tgt := 12) hx hb dX0_fill_29 (by decide) ?_
  refine lv_iload_n hx hb dX0_fill_12 rfl (lv_at hl 0 rfl) ?_
  refine lv_bipush (v := 7) hx hb dX0_fill_13 (by decide) ?_
  refine lv_icmp_ge (tgt := 32) hx hb dX0_fill_15 (by decide) (fun cc => absurd cc (by decide)) (fun _ => ?_)
  refine lv_aload_n hx hb dX0_fill_18 rfl (lv_at hl 1 rfl) ?_
  refine zz_get (v := .ref a2) S hw fgX0_15 0 rfl rfl dX0_fill_19 ?_
  refine lv_iload_n hx hb dX0_fill_22 rfl (lv_at hl 0 rfl) ?_
  refine lv_bipush (v := (-2)) hx hb dX0_fill_23 (by decide) ?_
  refine zz_iast (ws' := [(c0, .inr (0, [.ref a1, .ref a2, .int 0, .int 0])), (a2, .inl (G.2 0, 7, .inl (upd (upd (upd f 0 (-2)) 1 (-2)) 2 (-2)))), (sc, .inr (5, [.ref s1, .ref s2, .ref s3, .ref s4, .ref s5, .ref s6, .ref s7, .ref s8, .ref s9, .int 0, .int 0, .int 1, .int 0]))]) (g := (upd (upd (upd f 0 (-2)) 1 (-2)) 2 (-2))) S hw 1 rfl (vp_in_nI (n := 2) (by decide) (by decide)) (zz_upn (n := 2) (by decide)) rfl dX0_fill_25 (fun H locs hw => ?_)
  refine lv_iinc (v := 3) (lv' := [(3, .int 3), (0, .ref c0), (1, .ref sc), (2, .ref k0)]) hx hb dX0_fill_26 hl (k := 0) rfl (by decide) (by decide) rfl (fun ls hl => ?_)
  refine lv_goto (tgt := 12) hx hb dX0_fill_29 (by decide) ?_
  refine lv_iload_n hx hb dX0_fill_12 rfl (lv_at hl 0 rfl) ?_
  refine lv_bipush (v := 7) hx hb dX0_fill_13 (by decide) ?_
  refine lv_icmp_ge (tgt := 32) hx hb dX0_fill_15 (by decide) (fun cc => absurd cc (by decide)) (fun _ => ?_)
  refine lv_aload_n hx hb dX0_fill_18 rfl (lv_at hl 1 rfl) ?_
  refine zz_get (v := .ref a2) S hw fgX0_15 0 rfl rfl dX0_fill_19 ?_
  refine lv_iload_n hx hb dX0_fill_22 rfl (lv_at hl 0 rfl) ?_
  refine lv_bipush (v := (-2)) hx hb dX0_fill_23 (by decide) ?_
  refine zz_iast (ws' := [(c0, .inr (0, [.ref a1, .ref a2, .int 0, .int 0])), (a2, .inl (G.2 0, 7, .inl (upd (upd (upd (upd f 0 (-2)) 1 (-2)) 2 (-2)) 3 (-2)))), (sc, .inr (5, [.ref s1, .ref s2, .ref s3, .ref s4, .ref s5, .ref s6, .ref s7, .ref s8, .ref s9, .int 0, .int 0, .int 1, .int 0]))]) (g := (upd (upd (upd (upd f 0 (-2)) 1 (-2)) 2 (-2)) 3 (-2))) S hw 1 rfl (vp_in_nI (n := 3) (by decide) (by decide)) (zz_upn (n := 3) (by decide)) rfl dX0_fill_25 (fun H locs hw => ?_)
  refine lv_iinc (v := 4) (lv' := [(3, .int 4), (0, .ref c0), (1, .ref sc), (2, .ref k0)]) hx hb dX0_fill_26 hl (k := 0) rfl (by decide) (by decide) rfl (fun ls hl => ?_)
  refine lv_goto (tgt := 12) hx hb dX0_fill_29 (by decide) ?_
  refine lv_iload_n hx hb dX0_fill_12 rfl (lv_at hl 0 rfl) ?_
  refine lv_bipush (v := 7) hx hb dX0_fill_13 (by decide) ?_
  refine lv_icmp_ge (tgt := 32) hx hb dX0_fill_15 (by decide) (fun cc => absurd cc (by decide)) (fun _ => ?_)
  refine lv_aload_n hx hb dX0_fill_18 rfl (lv_at hl 1 rfl) ?_
  refine zz_get (v := .ref a2) S hw fgX0_15 0 rfl rfl dX0_fill_19 ?_
  refine lv_iload_n hx hb dX0_fill_22 rfl (lv_at hl 0 rfl) ?_
  refine lv_bipush (v := (-2)) hx hb dX0_fill_23 (by decide) ?_
  refine zz_iast (ws' := [(c0, .inr (0, [.ref a1, .ref a2, .int 0, .int 0])), (a2, .inl (G.2 0, 7, .inl (upd (upd (upd (upd (upd f 0 (-2)) 1 (-2)) 2 (-2)) 3 (-2)) 4 (-2)))), (sc, .inr (5, [.ref s1, .ref s2, .ref s3, .ref s4, .ref s5, .ref s6, .ref s7, .ref s8, .ref s9, .int 0, .int 0, .int 1, .int 0]))]) (g := (upd (upd (upd (upd (upd f 0 (-2)) 1 (-2)) 2 (-2)) 3 (-2)) 4 (-2))) S hw 1 rfl (vp_in_nI (n := 4) (by decide) (by decide)) (zz_upn (n := 4) (by decide)) rfl dX0_fill_25 (fun H locs hw => ?_)
  refine lv_iinc (v := 5) (lv' := [(3, .int 5), (0, .ref c0), (1, .ref sc), (2, .ref k0)]) hx hb dX0_fill_26 hl (k := 0) rfl (by decide) (by decide) rfl (fun ls hl => ?_)
  refine lv_goto (tgt := 12) hx hb dX0_fill_29 (by decide) ?_
  refine lv_iload_n hx hb dX0_fill_12 rfl (lv_at hl 0 rfl) ?_
  refine lv_bipush (v := 7) hx hb dX0_fill_13 (by decide) ?_
  refine lv_icmp_ge (tgt := 32) hx hb dX0_fill_15 (by decide) (fun cc => absurd cc (by decide)) (fun _ => ?_)
  refine lv_aload_n hx hb dX0_fill_18 rfl (lv_at hl 1 rfl) ?_
  refine zz_get (v := .ref a2) S hw fgX0_15 0 rfl rfl dX0_fill_19 ?_
  refine lv_iload_n hx hb dX0_fill_22 rfl (lv_at hl 0 rfl) ?_
  refine lv_bipush (v := (-2)) hx hb dX0_fill_23 (by decide) ?_
  refine zz_iast (ws' := [(c0, .inr (0, [.ref a1, .ref a2, .int 0, .int 0])), (a2, .inl (G.2 0, 7, .inl (upd (upd (upd (upd (upd (upd f 0 (-2)) 1 (-2)) 2 (-2)) 3 (-2)) 4 (-2)) 5 (-2)))), (sc, .inr (5, [.ref s1, .ref s2, .ref s3, .ref s4, .ref s5, .ref s6, .ref s7, .ref s8, .ref s9, .int 0, .int 0, .int 1, .int 0]))]) (g := (upd (upd (upd (upd (upd (upd f 0 (-2)) 1 (-2)) 2 (-2)) 3 (-2)) 4 (-2)) 5 (-2))) S hw 1 rfl (vp_in_nI (n := 5) (by decide) (by decide)) (zz_upn (n := 5) (by decide)) rfl dX0_fill_25 (fun H locs hw => ?_)
  refine lv_iinc (v := 6) (lv' := [(3, .int 6), (0, .ref c0), (1, .ref sc), (2, .ref k0)]) hx hb dX0_fill_26 hl (k := 0) rfl (by decide) (by decide) rfl (fun ls hl => ?_)
  refine lv_goto (tgt := 12) hx hb dX0_fill_29 (by decide) ?_
  refine lv_iload_n hx hb dX0_fill_12 rfl (lv_at hl 0 rfl) ?_
  refine lv_bipush (v := 7) hx hb dX0_fill_13 (by decide) ?_
  refine lv_icmp_ge (tgt := 32) hx hb dX0_fill_15 (by decide) (fun cc => absurd cc (by decide)) (fun _ => ?_)
  refine lv_aload_n hx hb dX0_fill_18 rfl (lv_at hl 1 rfl) ?_
  refine zz_get (v := .ref a2) S hw fgX0_15 0 rfl rfl dX0_fill_19 ?_
  refine lv_iload_n hx hb dX0_fill_22 rfl (lv_at hl 0 rfl) ?_
  refine lv_bipush (v := (-2)) hx hb dX0_fill_23 (by decide) ?_
  refine zz_iast (ws' := [(c0, .inr (0, [.ref a1, .ref a2, .int 0, .int 0])), (a2, .inl (G.2 0, 7, .inl (upd (upd (upd (upd (upd (upd (upd f 0 (-2)) 1 (-2)) 2 (-2)) 3 (-2)) 4 (-2)) 5 (-2)) 6 (-2)))), (sc, .inr (5, [.ref s1, .ref s2, .ref s3, .ref s4, .ref s5, .ref s6, .ref s7, .ref s8, .ref s9, .int 0, .int 0, .int 1, .int 0]))]) (g := (upd (upd (upd (upd (upd (upd (upd f 0 (-2)) 1 (-2)) 2 (-2)) 3 (-2)) 4 (-2)) 5 (-2)) 6 (-2))) S hw 1 rfl (vp_in_nI (n := 6) (by decide) (by decide)) (zz_upn (n := 6) (by decide)) rfl dX0_fill_25 (fun H locs hw => ?_)
  refine lv_iinc (v := 7) (lv' := [(3, .int 7), (0, .ref c0), (1, .ref sc), (2, .ref k0)]) hx hb dX0_fill_26 hl (k := 0) rfl (by decide) (by decide) rfl (fun ls hl => ?_)
  refine lv_goto (tgt := 12) hx hb dX0_fill_29 (by decide) ?_
  refine lv_iload_n hx hb dX0_fill_12 rfl (lv_at hl 0 rfl) ?_
  refine lv_bipush (v := 7) hx hb dX0_fill_13 (by decide) ?_
  refine lv_icmp_ge (tgt := 32) hx hb dX0_fill_15 (by decide) (fun _ => ?_) (fun cc => absurd cc (by decide))
  refine lv_iconst (v := 0) hx hb dX0_fill_32 (by decide) ?_
  refine lv_istore_n (lv' := [(3, .int 0), (0, .ref c0), (1, .ref sc), (2, .ref k0)]) hx hb dX0_fill_33 rfl hl (by decide) rfl (fun ls hl => ?_)
  refine lv_iload_n hx hb dX0_fill_34 rfl (lv_at hl 0 rfl) ?_
  refine lv_aload_n hx hb dX0_fill_35 rfl (lv_at hl 2 rfl) ?_
  refine zz_get (v := .int 0) S hw fgX0_25 2 rfl rfl dX0_fill_36 ?_
  refine lv_icmp_ge (tgt := 55) hx hb dX0_fill_39 (by decide) (fun _ => ?_) (fun cc => absurd cc (by decide))
  exact hret _ _ _ _ _ ⟨(upd (upd (upd (upd (upd (upd (upd f 0 (-2)) 1 (-2)) 2 (-2)) 3 (-2)) 4 (-2)) 5 (-2)) 6 (-2)), rfl, rfl⟩ hw dX0_fill_55
theorem dX0_emptyParts_0 : decode cX0_emptyParts 0 = .ok (.iconst 0, 1) := by decide +kernel
theorem dX0_emptyParts_1 : decode cX0_emptyParts 1 = .ok (.istore_n 2, 1) := by decide +kernel
theorem dX0_emptyParts_2 : decode cX0_emptyParts 2 = .ok (.iconst 0, 1) := by decide +kernel
theorem dX0_emptyParts_3 : decode cX0_emptyParts 3 = .ok (.istore_n 3, 1) := by decide +kernel
theorem dX0_emptyParts_4 : decode cX0_emptyParts 4 = .ok (.iload_n 3, 1) := by decide +kernel
theorem dX0_emptyParts_5 : decode cX0_emptyParts 5 = .ok (.iload_n 1, 1) := by decide +kernel
theorem dX0_emptyParts_6 : decode cX0_emptyParts 6 = .ok (.if_icmp .ge 26, 3) := by decide +kernel
theorem dX0_emptyParts_9 : decode cX0_emptyParts 9 = .ok (.aload_n 0, 1) := by decide +kernel
theorem dX0_emptyParts_10 : decode cX0_emptyParts 10 = .ok (.getfield 9, 3) := by decide +kernel
theorem dX0_emptyParts_13 : decode cX0_emptyParts 13 = .ok (.iload_n 3, 1) := by decide +kernel
theorem dX0_emptyParts_14 : decode cX0_emptyParts 14 = .ok (.iaload, 1) := by decide +kernel
theorem dX0_emptyParts_15 : decode cX0_emptyParts 15 = .ok (.bipush (-2), 2) := by decide +kernel
theorem dX0_emptyParts_17 : decode cX0_emptyParts 17 = .ok (.if_icmp .ne 9, 3) := by decide +kernel
theorem dX0_emptyParts_20 : decode cX0_emptyParts 20 = .ok (.iload_n 2, 1) := by decide +kernel
theorem dX0_emptyParts_21 : decode cX0_emptyParts 21 = .ok (.iconst 1, 1) := by decide +kernel
theorem dX0_emptyParts_22 : decode cX0_emptyParts 22 = .ok (.iload_n 3, 1) := by decide +kernel
theorem dX0_emptyParts_23 : decode cX0_emptyParts 23 = .ok (.ishl, 1) := by decide +kernel
theorem dX0_emptyParts_24 : decode cX0_emptyParts 24 = .ok (.ior, 1) := by decide +kernel
theorem dX0_emptyParts_25 : decode cX0_emptyParts 25 = .ok (.istore_n 2, 1) := by decide +kernel
theorem dX0_emptyParts_26 : decode cX0_emptyParts 26 = .ok (.iinc 3 1, 3) := by decide +kernel
theorem dX0_emptyParts_29 : decode cX0_emptyParts 29 = .ok (.goto (-25), 3) := by decide +kernel
theorem dX0_emptyParts_32 : decode cX0_emptyParts 32 = .ok (.iload_n 2, 1) := by decide +kernel
theorem dX0_emptyParts_33 : decode cX0_emptyParts 33 = .ok (.ireturn, 1) := by decide +kernel
set_option maxHeartbeats 4000000 in
set_option maxRecDepth 100000 in
theorem c_emptyParts0 (l : Launch) (G : zz_G) (c0 : Nat) (a1 : Nat) (a2 : Nat) (fi : Int32) (sd : Int32) : zz_M l G mX0_emptyParts 0 0 0 [.ref c0, .int 0] [(c0, .inr (0, [.ref a1, .ref a2, .int fi, .int sd]))] (fun rr u => rr = some (.int 0) ∧ u = [(c0, .inr (0, [.ref a1, .ref a2, .int fi, .int sd]))]) := by
  refine zz_enteri (by decide +kernel) (Nat.le_of_ble_eq_true rfl) ?_
  intro p e s m args below meth c A Q ls S hnm hret hw hl
  have hl : lv_has ls 4 [(0, .ref c0), (1, .int 0)] := hl
  have hx := S.1
  have hb := S.2.1
  refine lv_iconst (v := 0) hx hb dX0_emptyParts_0 (by decide) ?_
  refine lv_istore_n (lv' := [(2, .int 0), (0, .ref c0), (1, .int 0)]) hx hb dX0_emptyParts_1 rfl hl (by decide) rfl (fun ls hl => ?_)
  refine lv_iconst (v := 0) hx hb dX0_emptyParts_2 (by decide) ?_
  refine lv_istore_n (lv' := [(3, .int 0), (2, .int 0), (0, .ref c0), (1, .int 0)]) hx hb dX0_emptyParts_3 rfl hl (by decide) rfl (fun ls hl => ?_)
  refine lv_iload_n hx hb dX0_emptyParts_4 rfl (lv_at hl 0 rfl) ?_
  refine lv_iload_n hx hb dX0_emptyParts_5 rfl (lv_at hl 3 rfl) ?_
  refine lv_icmp_ge (tgt := 32) hx hb dX0_emptyParts_6 (by decide) (fun _ => ?_) (fun cc => absurd cc (by decide))
  refine lv_iload_n hx hb dX0_emptyParts_32 rfl (lv_at hl 1 rfl) ?_
  exact hret _ _ _ _ _ _ ⟨rfl, rfl⟩ hw rfl dX0_emptyParts_33
theorem dX0_playParts_0 : decode cX0_playParts 0 = .ok (.iconst 0, 1) := by decide +kernel
theorem dX0_playParts_1 : decode cX0_playParts 1 = .ok (.istore 5, 2) := by decide +kernel
theorem dX0_playParts_3 : decode cX0_playParts 3 = .ok (.iconst 0, 1) := by decide +kernel
theorem dX0_playParts_4 : decode cX0_playParts 4 = .ok (.istore 6, 2) := by decide +kernel
theorem dX0_playParts_6 : decode cX0_playParts 6 = .ok (.iload 6, 2) := by decide +kernel
theorem dX0_playParts_8 : decode cX0_playParts 8 = .ok (.aload_n 1, 1) := by decide +kernel
theorem dX0_playParts_9 : decode cX0_playParts 9 = .ok (.getfield 25, 3) := by decide +kernel
theorem dX0_playParts_12 : decode cX0_playParts 12 = .ok (.if_icmp .ge 82, 3) := by decide +kernel
theorem dX0_playParts_15 : decode cX0_playParts 15 = .ok (.aload_n 2, 1) := by decide +kernel
theorem dX0_playParts_16 : decode cX0_playParts 16 = .ok (.getfield 61, 3) := by decide +kernel
theorem dX0_playParts_19 : decode cX0_playParts 19 = .ok (.iload 6, 2) := by decide +kernel
theorem dX0_playParts_21 : decode cX0_playParts 21 = .ok (.iaload, 1) := by decide +kernel
theorem dX0_playParts_22 : decode cX0_playParts 22 = .ok (.istore 7, 2) := by decide +kernel
theorem dX0_playParts_24 : decode cX0_playParts 24 = .ok (.aload_n 0, 1) := by decide +kernel
theorem dX0_playParts_25 : decode cX0_playParts 25 = .ok (.getfield 9, 3) := by decide +kernel
theorem dX0_playParts_28 : decode cX0_playParts 28 = .ok (.iload 6, 2) := by decide +kernel
theorem dX0_playParts_30 : decode cX0_playParts 30 = .ok (.iaload, 1) := by decide +kernel
theorem dX0_playParts_31 : decode cX0_playParts 31 = .ok (.bipush (-2), 2) := by decide +kernel
theorem dX0_playParts_33 : decode cX0_playParts 33 = .ok (.if_icmp .eq 33, 3) := by decide +kernel
theorem dX0_playParts_36 : decode cX0_playParts 36 = .ok (.aload_n 0, 1) := by decide +kernel
theorem dX0_playParts_37 : decode cX0_playParts 37 = .ok (.aload_n 1, 1) := by decide +kernel
theorem dX0_playParts_38 : decode cX0_playParts 38 = .ok (.aload_n 2, 1) := by decide +kernel
theorem dX0_playParts_39 : decode cX0_playParts 39 = .ok (.iload 6, 2) := by decide +kernel
theorem dX0_playParts_41 : decode cX0_playParts 41 = .ok (.iload 4, 2) := by decide +kernel
theorem dX0_playParts_43 : decode cX0_playParts 43 = .ok (.ifCond .eq 19, 3) := by decide +kernel
theorem dX0_playParts_46 : decode cX0_playParts 46 = .ok (.aload_n 0, 1) := by decide +kernel
theorem dX0_playParts_47 : decode cX0_playParts 47 = .ok (.aload_n 1, 1) := by decide +kernel
theorem dX0_playParts_48 : decode cX0_playParts 48 = .ok (.aload_n 2, 1) := by decide +kernel
theorem dX0_playParts_49 : decode cX0_playParts 49 = .ok (.iload 6, 2) := by decide +kernel
theorem dX0_playParts_51 : decode cX0_playParts 51 = .ok (.iload_n 3, 1) := by decide +kernel
theorem dX0_playParts_52 : decode cX0_playParts 52 = .ok (.invokevirtual 64, 3) := by decide +kernel
theorem dX0_playParts_55 : decode cX0_playParts 55 = .ok (.ifCond .eq 7, 3) := by decide +kernel
theorem dX0_playParts_58 : decode cX0_playParts 58 = .ok (.iconst 1, 1) := by decide +kernel
theorem dX0_playParts_59 : decode cX0_playParts 59 = .ok (.goto 4, 3) := by decide +kernel
theorem dX0_playParts_62 : decode cX0_playParts 62 = .ok (.iconst 0, 1) := by decide +kernel
theorem dX0_playParts_63 : decode cX0_playParts 63 = .ok (.invokevirtual 68, 3) := by decide +kernel
theorem dX0_playParts_66 : decode cX0_playParts 66 = .ok (.iload 5, 2) := by decide +kernel
theorem dX0_playParts_68 : decode cX0_playParts 68 = .ok (.aload_n 2, 1) := by decide +kernel
theorem dX0_playParts_69 : decode cX0_playParts 69 = .ok (.getfield 61, 3) := by decide +kernel
theorem dX0_playParts_72 : decode cX0_playParts 72 = .ok (.iload 6, 2) := by decide +kernel
theorem dX0_playParts_74 : decode cX0_playParts 74 = .ok (.iaload, 1) := by decide +kernel
theorem dX0_playParts_75 : decode cX0_playParts 75 = .ok (.iload 7, 2) := by decide +kernel
theorem dX0_playParts_77 : decode cX0_playParts 77 = .ok (.if_icmp .eq 7, 3) := by decide +kernel
theorem dX0_playParts_80 : decode cX0_playParts 80 = .ok (.iconst 1, 1) := by decide +kernel
theorem dX0_playParts_81 : decode cX0_playParts 81 = .ok (.goto 4, 3) := by decide +kernel
theorem dX0_playParts_84 : decode cX0_playParts 84 = .ok (.iconst 0, 1) := by decide +kernel
theorem dX0_playParts_85 : decode cX0_playParts 85 = .ok (.ior, 1) := by decide +kernel
theorem dX0_playParts_86 : decode cX0_playParts 86 = .ok (.istore 5, 2) := by decide +kernel
theorem dX0_playParts_88 : decode cX0_playParts 88 = .ok (.iinc 6 1, 3) := by decide +kernel
theorem dX0_playParts_91 : decode cX0_playParts 91 = .ok (.goto (-85), 3) := by decide +kernel
theorem dX0_playParts_94 : decode cX0_playParts 94 = .ok (.iload 5, 2) := by decide +kernel
theorem dX0_playParts_96 : decode cX0_playParts 96 = .ok (.ireturn, 1) := by decide +kernel
set_option maxHeartbeats 4000000 in
set_option maxRecDepth 100000 in
theorem c_playParts0 (l : Launch) (G : zz_G) (c0 : Nat) (a1 : Nat) (a2 : Nat) (sc : Nat) (s1 : Nat) (s2 : Nat) (s3 : Nat) (s4 : Nat) (s5 : Nat) (s6 : Nat) (s7 : Nat) (s8 : Nat) (s9 : Nat) (k0 : Nat) (fi : Int32) (sd : Int32) (se : Int32) (wd : Int32) : zz_M l G mX0_playParts 5 0 0 [.ref c0, .ref sc, .ref k0, .int se, .int wd] [(c0, .inr (0, [.ref a1, .ref a2, .int fi, .int sd])), (sc, .inr (5, [.ref s1, .ref s2, .ref s3, .ref s4, .ref s5, .ref s6, .ref s7, .ref s8, .ref s9, .int 0, .int 0, .int 1, .int 0]))] (fun rr u => rr = some (.int 0) ∧ u = [(c0, .inr (0, [.ref a1, .ref a2, .int fi, .int sd])), (sc, .inr (5, [.ref s1, .ref s2, .ref s3, .ref s4, .ref s5, .ref s6, .ref s7, .ref s8, .ref s9, .int 0, .int 0, .int 1, .int 0]))]) := by
  refine zz_enteri (by decide +kernel) (Nat.le_of_ble_eq_true rfl) ?_
  intro p e s m args below meth c A Q ls S hnm hret hw hl
  have hl : lv_has ls 8 [(0, .ref c0), (1, .ref sc), (2, .ref k0), (3, .int se), (4, .int wd)] := hl
  have hx := S.1
  have hb := S.2.1
  refine lv_iconst (v := 0) hx hb dX0_playParts_0 (by decide) ?_
  refine lv_istore (lv' := [(5, .int 0), (0, .ref c0), (1, .ref sc), (2, .ref k0), (3, .int se), (4, .int wd)]) hx hb dX0_playParts_1 hl (by decide) rfl (fun ls hl => ?_)
  refine lv_iconst (v := 0) hx hb dX0_playParts_3 (by decide) ?_
  refine lv_istore (lv' := [(6, .int 0), (5, .int 0), (0, .ref c0), (1, .ref sc), (2, .ref k0), (3, .int se), (4, .int wd)]) hx hb dX0_playParts_4 hl (by decide) rfl (fun ls hl => ?_)
  refine lv_iload hx hb dX0_playParts_6 (lv_at hl 0 rfl) ?_
  refine lv_aload_n hx hb dX0_playParts_8 rfl (lv_at hl 3 rfl) ?_
  refine zz_get (v := .int 0) S hw fgX0_25 1 rfl rfl dX0_playParts_9 ?_
  refine lv_icmp_ge (tgt := 94) hx hb dX0_playParts_12 (by decide) (fun _ => ?_) (fun cc => absurd cc (by decide))
  refine lv_iload hx hb dX0_playParts_94 (lv_at hl 1 rfl) ?_
  exact hret _ _ _ _ _ _ ⟨rfl, rfl⟩ hw rfl dX0_playParts_96
theorem dX0_passDays_0 : decode cX0_passDays 0 = .ok (.iconst 0, 1) := by decide +kernel
theorem dX0_passDays_1 : decode cX0_passDays 1 = .ok (.istore 6, 2) := by decide +kernel
theorem dX0_passDays_3 : decode cX0_passDays 3 = .ok (.iconst 0, 1) := by decide +kernel
theorem dX0_passDays_4 : decode cX0_passDays 4 = .ok (.istore 7, 2) := by decide +kernel
theorem dX0_passDays_6 : decode cX0_passDays 6 = .ok (.iload 7, 2) := by decide +kernel
theorem dX0_passDays_8 : decode cX0_passDays 8 = .ok (.iload_n 3, 1) := by decide +kernel
theorem dX0_passDays_9 : decode cX0_passDays 9 = .ok (.if_icmp .ge 37, 3) := by decide +kernel
theorem dX0_passDays_12 : decode cX0_passDays 12 = .ok (.aload_n 0, 1) := by decide +kernel
theorem dX0_passDays_13 : decode cX0_passDays 13 = .ok (.aload_n 1, 1) := by decide +kernel
theorem dX0_passDays_14 : decode cX0_passDays 14 = .ok (.aload_n 2, 1) := by decide +kernel
theorem dX0_passDays_15 : decode cX0_passDays 15 = .ok (.invokevirtual 50, 3) := by decide +kernel
theorem dX0_passDays_18 : decode cX0_passDays 18 = .ok (.aload_n 0, 1) := by decide +kernel
theorem dX0_passDays_19 : decode cX0_passDays 19 = .ok (.aload_n 1, 1) := by decide +kernel
theorem dX0_passDays_20 : decode cX0_passDays 20 = .ok (.aload_n 2, 1) := by decide +kernel
theorem dX0_passDays_21 : decode cX0_passDays 21 = .ok (.iload 4, 2) := by decide +kernel
theorem dX0_passDays_23 : decode cX0_passDays 23 = .ok (.iload 5, 2) := by decide +kernel
theorem dX0_passDays_25 : decode cX0_passDays 25 = .ok (.invokevirtual 54, 3) := by decide +kernel
theorem dX0_passDays_28 : decode cX0_passDays 28 = .ok (.istore 6, 2) := by decide +kernel
theorem dX0_passDays_30 : decode cX0_passDays 30 = .ok (.aload_n 2, 1) := by decide +kernel
theorem dX0_passDays_31 : decode cX0_passDays 31 = .ok (.dup, 1) := by decide +kernel
theorem dX0_passDays_32 : decode cX0_passDays 32 = .ok (.getfield 58, 3) := by decide +kernel
theorem dX0_passDays_35 : decode cX0_passDays 35 = .ok (.iconst 1, 1) := by decide +kernel
theorem dX0_passDays_36 : decode cX0_passDays 36 = .ok (.iadd, 1) := by decide +kernel
theorem dX0_passDays_37 : decode cX0_passDays 37 = .ok (.putfield 58, 3) := by decide +kernel
theorem dX0_passDays_40 : decode cX0_passDays 40 = .ok (.iinc 7 1, 3) := by decide +kernel
theorem dX0_passDays_43 : decode cX0_passDays 43 = .ok (.goto (-37), 3) := by decide +kernel
theorem dX0_passDays_46 : decode cX0_passDays 46 = .ok (.iload 6, 2) := by decide +kernel
theorem dX0_passDays_48 : decode cX0_passDays 48 = .ok (.ireturn, 1) := by decide +kernel
set_option maxHeartbeats 4000000 in
set_option maxRecDepth 100000 in
theorem c_passDays0 (l : Launch) (G : zz_G) (c0 : Nat) (a1 : Nat) (a2 : Nat) (sc : Nat) (s1 : Nat) (s2 : Nat) (s3 : Nat) (s4 : Nat) (s5 : Nat) (s6 : Nat) (s7 : Nat) (s8 : Nat) (s9 : Nat) (k0 : Nat) (b1 : Nat) (b2 : Nat) (b3 : Nat) (b4 : Nat) (o1 : Int32) (o3 : Int32) (k : Nat) (dd : Nat) (f : Nat → Int32) (se : Int32) (wd : Int32) (hk : k ≤ 60) : zz_M l G mX0_passDays 6 0 0 [.ref c0, .ref sc, .ref k0, .int (nI k), .int se, .int wd] [(c0, .inr (0, [.ref a1, .ref a2, .int 0, .int 0])), (a2, .inl (G.2 0, 7, .inl f)), (sc, .inr (5, [.ref s1, .ref s2, .ref s3, .ref s4, .ref s5, .ref s6, .ref s7, .ref s8, .ref s9, .int 0, .int 0, .int 1, .int 0])), (k0, .inr (6, [.ref b1, .ref b2, .ref b3, .ref b4, .int o1, .int (nI dd), .int o3]))] (fun rr u => ∃ (ff : Nat → Int32), rr = some (.int 0) ∧ u = [(c0, .inr (0, [.ref a1, .ref a2, .int 0, .int 0])), (a2, .inl (G.2 0, 7, .inl ff)), (sc, .inr (5, [.ref s1, .ref s2, .ref s3, .ref s4, .ref s5, .ref s6, .ref s7, .ref s8, .ref s9, .int 0, .int 0, .int 1, .int 0])), (k0, .inr (6, [.ref b1, .ref b2, .ref b3, .ref b4, .int o1, .int (nI (dd + k)), .int o3]))]) := by
  refine zz_enteri (by decide +kernel) (Nat.le_of_ble_eq_true rfl) ?_
  intro p e s m args below meth c A Q ls S hnm hret hw hl
  have hl : lv_has ls 8 [(0, .ref c0), (1, .ref sc), (2, .ref k0), (3, .int (nI k)), (4, .int se), (5, .int wd)] := hl
  have hx := S.1
  have hb := S.2.1
  refine lv_iconst (v := 0) hx hb dX0_passDays_0 (by decide) ?_
  refine lv_istore (lv' := [(6, .int 0), (0, .ref c0), (1, .ref sc), (2, .ref k0), (3, .int (nI k)), (4, .int se), (5, .int wd)]) hx hb dX0_passDays_1 hl (by decide) rfl (fun ls hl => ?_)
  refine lv_iconst (v := 0) hx hb dX0_passDays_3 (by decide) ?_
  refine lv_istore (lv' := [(7, .int 0), (6, .int 0), (0, .ref c0), (1, .ref sc), (2, .ref k0), (3, .int (nI k)), (4, .int se), (5, .int wd)]) hx hb dX0_passDays_4 hl (by decide) rfl (fun ls hl => ?_)
  have lp6_3 : ∀ (n1 i2 : Nat) (fx : Nat → Int32) (H : Heap) (locs : List Loc) (ls : Array Slot), i2 + n1 = k → zz_w G A s [(c0, .inr (0, [.ref a1, .ref a2, .int 0, .int 0])), (a2, .inl (G.2 0, 7, .inl fx)), (sc, .inr (5, [.ref s1, .ref s2, .ref s3, .ref s4, .ref s5, .ref s6, .ref s7, .ref s8, .ref s9, .int 0, .int 0, .int 1, .int 0])), (k0, .inr (6, [.ref b1, .ref b2, .ref b3, .ref b4, .int o1, .int (nI (dd + i2)), .int o3]))] H locs → lv_has ls 8 [(7, .int (nI i2)), (6, .int 0), (0, .ref c0), (1, .ref sc), (2, .ref k0), (3, .int (nI k)), (4, .int se), (5, .int wd)] → W p l e (zz_rm 6 0 0) s m args below meth c H locs (0) (0) Q (F0 m 6 ls []) := by
    intro n1
    induction n1 with
    | zero =>
      intro i2 fx H locs ls hi hw hl
      obtain rfl : k = i2 := by omega
      have hl : lv_has ls 8 [(7, .int (nI k)), (6, .int 0), (0, .ref c0), (1, .ref sc), (2, .ref k0), (3, .int (nI k)), (4, .int se), (5, .int wd)] := hl
      have hw : zz_w G A s [(c0, .inr (0, [.ref a1, .ref a2, .int 0, .int 0])), (a2, .inl (G.2 0, 7, .inl fx)), (sc, .inr (5, [.ref s1, .ref s2, .ref s3, .ref s4, .ref s5, .ref s6, .ref s7, .ref s8, .ref s9, .int 0, .int 0, .int 1, .int 0])), (k0, .inr (6, [.ref b1, .ref b2, .ref b3, .ref b4, .int o1, .int (nI (dd + k)), .int o3]))] H locs := hw
      refine lv_iload hx hb dX0_passDays_6 (lv_at hl 0 rfl) ?_
      refine lv_iload_n hx hb dX0_passDays_8 rfl (lv_at hl 5 rfl) ?_
      refine lv_icmp_ge (tgt := 46) hx hb dX0_passDays_9 (by decide) (fun _ => ?_) (fun cc => absurd ((zz_le (a := k) (b := k) rfl rfl (by omega) (by omega)).mpr (by omega)) cc)
      refine lv_iload hx hb dX0_passDays_46 (lv_at hl 1 rfl) ?_
      exact hret _ _ _ _ _ _ ⟨fx, rfl, rfl⟩ hw rfl dX0_passDays_48
    | succ n1 ih =>
      intro i2 fx H locs ls hi hw hl
      have hlt : i2 < k := by omega
      refine lv_iload hx hb dX0_passDays_6 (lv_at hl 0 rfl) ?_
      refine lv_iload_n hx hb dX0_passDays_8 rfl (lv_at hl 5 rfl) ?_
      refine lv_icmp_ge (tgt := 46) hx hb dX0_passDays_9 (by decide) (fun cc => absurd ((zz_le (a := k) (b := i2) rfl rfl (by omega) (by omega)).mp cc) (by omega)) (fun _ => ?_)
      refine lv_aload_n hx hb dX0_passDays_12 rfl (lv_at hl 2 rfl) ?_
      refine lv_aload_n hx hb dX0_passDays_13 rfl (lv_at hl 3 rfl) ?_
      refine lv_aload_n hx hb dX0_passDays_14 rfl (lv_at hl 4 rfl) ?_
      refine zz_callV (qb := 0) (As := [.ref sc, .ref k0]) (rest := []) (wr := [(k0, .inr (6, [.ref b1, .ref b2, .ref b3, .ref b4, .int o1, .int (nI (dd + i2)), .int o3]))]) S hw hl.1 lX0_50 (c_fill0 l G c0 a1 a2 sc s1 s2 s3 s4 s5 s6 s7 s8 s9 k0 fx 0 0) ⟨Nat.le_of_ble_eq_true rfl, Nat.le_of_ble_eq_true rfl⟩ ⟨Nat.le_of_ble_eq_true rfl, Nat.le_of_ble_eq_true rfl⟩ [0, 1, 2] [3] (by decide) rfl rfl (by decide) (by decide) rfl rfl rfl rfl (Nat.le_of_ble_eq_true rfl) dX0_passDays_15 (fun rr u H locs hp hw => ?_)
      obtain ⟨ff_4, rfl, rfl⟩ := hp
      have hw : zz_w G A s [(k0, .inr (6, [.ref b1, .ref b2, .ref b3, .ref b4, .int o1, .int (nI (dd + i2)), .int o3])), (c0, .inr (0, [.ref a1, .ref a2, .int 0, .int 0])), (a2, .inl (G.2 0, 7, .inl ff_4)), (sc, .inr (5, [.ref s1, .ref s2, .ref s3, .ref s4, .ref s5, .ref s6, .ref s7, .ref s8, .ref s9, .int 0, .int 0, .int 1, .int 0]))] H _ := hw
      refine W.eq (g2 := F0 m 18 ls []) rfl ?_
      refine lv_aload_n hx hb dX0_passDays_18 rfl (lv_at hl 2 rfl) ?_
      refine lv_aload_n hx hb dX0_passDays_19 rfl (lv_at hl 3 rfl) ?_
      refine lv_aload_n hx hb dX0_passDays_20 rfl (lv_at hl 4 rfl) ?_
      refine lv_iload hx hb dX0_passDays_21 (lv_at hl 6 rfl) ?_
      refine lv_iload hx hb dX0_passDays_23 (lv_at hl 7 rfl) ?_
      refine zz_callV (qb := 1) (As := [.ref sc, .ref k0, .int se, .int wd]) (rest := []) (wr := [(k0, .inr (6, [.ref b1, .ref b2, .ref b3, .ref b4, .int o1, .int (nI (dd + i2)), .int o3])), (a2, .inl (G.2 0, 7, .inl ff_4))]) S hw hl.1 lX0_54 (c_playParts0 l G c0 a1 a2 sc s1 s2 s3 s4 s5 s6 s7 s8 s9 k0 0 0 se wd) ⟨Nat.le_of_ble_eq_true rfl, Nat.le_of_ble_eq_true rfl⟩ ⟨Nat.le_of_ble_eq_true rfl, Nat.le_of_ble_eq_true rfl⟩ [1, 3] [0, 2] (by decide) rfl rfl (by decide) (by decide) rfl rfl rfl rfl (Nat.le_of_ble_eq_true rfl) dX0_passDays_25 (fun rr u H locs hp hw => ?_)
      obtain ⟨rfl, rfl⟩ := hp
      have hw : zz_w G A s [(k0, .inr (6, [.ref b1, .ref b2, .ref b3, .ref b4, .int o1, .int (nI (dd + i2)), .int o3])), (a2, .inl (G.2 0, 7, .inl ff_4)), (c0, .inr (0, [.ref a1, .ref a2, .int 0, .int 0])), (sc, .inr (5, [.ref s1, .ref s2, .ref s3, .ref s4, .ref s5, .ref s6, .ref s7, .ref s8, .ref s9, .int 0, .int 0, .int 1, .int 0]))] H _ := hw
      refine W.eq (g2 := F0 m 28 ls [.int 0]) rfl ?_
      refine lv_istore (lv' := [(6, .int 0), (7, .int (nI i2)), (0, .ref c0), (1, .ref sc), (2, .ref k0), (3, .int (nI k)), (4, .int se), (5, .int wd)]) hx hb dX0_passDays_28 hl (by decide) rfl (fun ls hl => ?_)
      refine lv_aload_n hx hb dX0_passDays_30 rfl (lv_at hl 4 rfl) ?_
      refine lv_dup hx hb dX0_passDays_31 rfl ?_
      refine zz_get (v := .int (nI (dd + i2))) S hw fgX0_58 0 rfl rfl dX0_passDays_32 ?_
      refine lv_iconst (v := 1) hx hb dX0_passDays_35 (by decide) ?_
      refine lv_iadd hx hb dX0_passDays_36 ?_
      refine zz_topi (y := (nI ((dd + i2) + 1))) (nI_add _ _) ?_
      refine zz_put (ws' := [(k0, .inr (6, [.ref b1, .ref b2, .ref b3, .ref b4, .int o1, .int (nI ((dd + i2) + 1)), .int o3])), (a2, .inl (G.2 0, 7, .inl ff_4)), (c0, .inr (0, [.ref a1, .ref a2, .int 0, .int 0])), (sc, .inr (5, [.ref s1, .ref s2, .ref s3, .ref s4, .ref s5, .ref s6, .ref s7, .ref s8, .ref s9, .int 0, .int 0, .int 1, .int 0]))]) (v := .int (nI ((dd + i2) + 1))) S hw fpX0_58 0 rfl rfl rfl (Nat.le_of_ble_eq_true rfl) rfl dX0_passDays_37 (fun H locs hw => ?_)
      refine lv_iinc (v := (nI (i2 + 1))) (lv' := [(7, .int (nI (i2 + 1))), (6, .int 0), (0, .ref c0), (1, .ref sc), (2, .ref k0), (3, .int (nI k)), (4, .int se), (5, .int wd)]) hx hb dX0_passDays_40 hl (k := 1) rfl (nI_add _ 1) (by decide) rfl (fun ls hl => ?_)
      refine lv_goto (tgt := 6) hx hb dX0_passDays_43 (by decide) ?_
      exact ih (i2 + 1) _ _ _ _ (by omega) (hw.sub [2, 1, 3, 0] (by decide) rfl) (lv_sub hl [0, 1, 2, 3, 4, 5, 6, 7] rfl)
  exact lp6_3 (k - 0) 0 _ _ _ _ (by omega) hw hl
end
