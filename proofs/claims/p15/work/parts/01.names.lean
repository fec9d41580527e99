-- ===== PART A: goes FIRST, ahead of the names: the tables' words, and 'selects' of the private methods out of them =====
/-- a private method of a class that the tables say can be made, by its rows of tables_1 -/
def lw_okq (q : MethodName × Nat) : Prop := (q.1.cls ≠ "java/lang/invoke/MethodHandle" ∧ q.1.cls ≠ "java/lang/invoke/VarHandle") ∧ Cond.instantiable q.1.cls q.2 ∈ tables_1 ∧ Cond.privateMethod q.1 ∈ tables_1 ∧ Cond.instanceMethod q.1 ∈ tables_1
theorem lw_p0 : lw_okq (⟨"UnderstudyShow", "putFourBytes", "(I)V"⟩, 14) := ⟨⟨by decide +kernel, by decide +kernel⟩, List.mem_of_getElem? (i := 21) (by decide +kernel), List.mem_of_getElem? (i := 376) (by decide +kernel), List.mem_of_getElem? (i := 377) (by decide +kernel)⟩
theorem lw_p1 : lw_okq (⟨"UnderstudyShow$Tokens", "cutOne", "([BIII)I"⟩, 4) := ⟨⟨by decide +kernel, by decide +kernel⟩, List.mem_of_getElem? (i := 35) (by decide +kernel), List.mem_of_getElem? (i := 405) (by decide +kernel), List.mem_of_getElem? (i := 406) (by decide +kernel)⟩
theorem lw_p2 : lw_okq (⟨"UnderstudyShow$Tokens", "cutLetters", "([BIII)I"⟩, 4) := ⟨⟨by decide +kernel, by decide +kernel⟩, List.mem_of_getElem? (i := 35) (by decide +kernel), List.mem_of_getElem? (i := 412) (by decide +kernel), List.mem_of_getElem? (i := 413) (by decide +kernel)⟩
theorem lw_p3 : lw_okq (⟨"UnderstudyShow$Tokens", "cutDigits", "([BIII)I"⟩, 4) := ⟨⟨by decide +kernel, by decide +kernel⟩, List.mem_of_getElem? (i := 35) (by decide +kernel), List.mem_of_getElem? (i := 475) (by decide +kernel), List.mem_of_getElem? (i := 476) (by decide +kernel)⟩
theorem lw_p4 : lw_okq (⟨"UnderstudyShow$Reader", "sort", "()I"⟩, 8) := ⟨⟨by decide +kernel, by decide +kernel⟩, List.mem_of_getElem? (i := 29) (by decide +kernel), List.mem_of_getElem? (i := 540) (by decide +kernel), List.mem_of_getElem? (i := 541) (by decide +kernel)⟩
theorem lw_p5 : lw_okq (⟨"UnderstudyShow$Reader", "readTell", "(LUnderstudyShow$Script;)V"⟩, 8) := ⟨⟨by decide +kernel, by decide +kernel⟩, List.mem_of_getElem? (i := 29) (by decide +kernel), List.mem_of_getElem? (i := 544) (by decide +kernel), List.mem_of_getElem? (i := 545) (by decide +kernel)⟩
theorem lw_p6 : lw_okq (⟨"UnderstudyShow$Reader", "readFigure", "(LUnderstudyShow$Script;Z)V"⟩, 8) := ⟨⟨by decide +kernel, by decide +kernel⟩, List.mem_of_getElem? (i := 29) (by decide +kernel), List.mem_of_getElem? (i := 548) (by decide +kernel), List.mem_of_getElem? (i := 549) (by decide +kernel)⟩
theorem lw_p7 : lw_okq (⟨"UnderstudyShow$Reader", "fail", "(I)V"⟩, 8) := ⟨⟨by decide +kernel, by decide +kernel⟩, List.mem_of_getElem? (i := 29) (by decide +kernel), List.mem_of_getElem? (i := 552) (by decide +kernel), List.mem_of_getElem? (i := 553) (by decide +kernel)⟩
theorem lw_p8 : lw_okq (⟨"UnderstudyShow$Reader", "take", "()V"⟩, 8) := ⟨⟨by decide +kernel, by decide +kernel⟩, List.mem_of_getElem? (i := 29) (by decide +kernel), List.mem_of_getElem? (i := 556) (by decide +kernel), List.mem_of_getElem? (i := 557) (by decide +kernel)⟩
theorem lw_p9 : lw_okq (⟨"UnderstudyShow$Reader", "readName", "(LUnderstudyShow$Script;)J"⟩, 8) := ⟨⟨by decide +kernel, by decide +kernel⟩, List.mem_of_getElem? (i := 29) (by decide +kernel), List.mem_of_getElem? (i := 560) (by decide +kernel), List.mem_of_getElem? (i := 561) (by decide +kernel)⟩
theorem lw_p10 : lw_okq (⟨"UnderstudyShow$Reader", "failLater", "(I)V"⟩, 8) := ⟨⟨by decide +kernel, by decide +kernel⟩, List.mem_of_getElem? (i := 29) (by decide +kernel), List.mem_of_getElem? (i := 568) (by decide +kernel), List.mem_of_getElem? (i := 569) (by decide +kernel)⟩
theorem lw_p11 : lw_okq (⟨"UnderstudyShow$Reader", "expect", "(I)V"⟩, 8) := ⟨⟨by decide +kernel, by decide +kernel⟩, List.mem_of_getElem? (i := 29) (by decide +kernel), List.mem_of_getElem? (i := 572) (by decide +kernel), List.mem_of_getElem? (i := 573) (by decide +kernel)⟩
theorem lw_p12 : lw_okq (⟨"UnderstudyShow$Reader", "readNumber", "(I)I"⟩, 8) := ⟨⟨by decide +kernel, by decide +kernel⟩, List.mem_of_getElem? (i := 29) (by decide +kernel), List.mem_of_getElem? (i := 576) (by decide +kernel), List.mem_of_getElem? (i := 577) (by decide +kernel)⟩
theorem lw_p13 : lw_okq (⟨"UnderstudyShow$Reader", "readLaw", "(LUnderstudyShow$Law;)V"⟩, 8) := ⟨⟨by decide +kernel, by decide +kernel⟩, List.mem_of_getElem? (i := 29) (by decide +kernel), List.mem_of_getElem? (i := 588) (by decide +kernel), List.mem_of_getElem? (i := 589) (by decide +kernel)⟩
theorem lw_p14 : lw_okq (⟨"UnderstudyShow$Reader", "readSum", "(LUnderstudyShow$Law;)V"⟩, 8) := ⟨⟨by decide +kernel, by decide +kernel⟩, List.mem_of_getElem? (i := 29) (by decide +kernel), List.mem_of_getElem? (i := 593) (by decide +kernel), List.mem_of_getElem? (i := 594) (by decide +kernel)⟩
theorem lw_p15 : lw_okq (⟨"UnderstudyShow$Reader", "waitFor", "(I)V"⟩, 8) := ⟨⟨by decide +kernel, by decide +kernel⟩, List.mem_of_getElem? (i := 29) (by decide +kernel), List.mem_of_getElem? (i := 597) (by decide +kernel), List.mem_of_getElem? (i := 598) (by decide +kernel)⟩
def lw_privs_1 : List (MethodName × Nat) := [(⟨"UnderstudyShow", "putFourBytes", "(I)V"⟩, 14), (⟨"UnderstudyShow$Tokens", "cutOne", "([BIII)I"⟩, 4), (⟨"UnderstudyShow$Tokens", "cutLetters", "([BIII)I"⟩, 4), (⟨"UnderstudyShow$Tokens", "cutDigits", "([BIII)I"⟩, 4), (⟨"UnderstudyShow$Reader", "sort", "()I"⟩, 8), (⟨"UnderstudyShow$Reader", "readTell", "(LUnderstudyShow$Script;)V"⟩, 8), (⟨"UnderstudyShow$Reader", "readFigure", "(LUnderstudyShow$Script;Z)V"⟩, 8), (⟨"UnderstudyShow$Reader", "fail", "(I)V"⟩, 8), (⟨"UnderstudyShow$Reader", "take", "()V"⟩, 8), (⟨"UnderstudyShow$Reader", "readName", "(LUnderstudyShow$Script;)J"⟩, 8), (⟨"UnderstudyShow$Reader", "failLater", "(I)V"⟩, 8), (⟨"UnderstudyShow$Reader", "expect", "(I)V"⟩, 8), (⟨"UnderstudyShow$Reader", "readNumber", "(I)I"⟩, 8), (⟨"UnderstudyShow$Reader", "readLaw", "(LUnderstudyShow$Law;)V"⟩, 8), (⟨"UnderstudyShow$Reader", "readSum", "(LUnderstudyShow$Law;)V"⟩, 8), (⟨"UnderstudyShow$Reader", "waitFor", "(I)V"⟩, 8)]
theorem lw_r1 : ∀ q ∈ lw_privs_1, lw_okq q := List.forall_mem_cons.mpr ⟨lw_p0, List.forall_mem_cons.mpr ⟨lw_p1, List.forall_mem_cons.mpr ⟨lw_p2, List.forall_mem_cons.mpr ⟨lw_p3, List.forall_mem_cons.mpr ⟨lw_p4, List.forall_mem_cons.mpr ⟨lw_p5, List.forall_mem_cons.mpr ⟨lw_p6, List.forall_mem_cons.mpr ⟨lw_p7, List.forall_mem_cons.mpr ⟨lw_p8, List.forall_mem_cons.mpr ⟨lw_p9, List.forall_mem_cons.mpr ⟨lw_p10, List.forall_mem_cons.mpr ⟨lw_p11, List.forall_mem_cons.mpr ⟨lw_p12, List.forall_mem_cons.mpr ⟨lw_p13, List.forall_mem_cons.mpr ⟨lw_p14, List.forall_mem_cons.mpr ⟨lw_p15, fun _ h => absurd h List.not_mem_nil⟩⟩⟩⟩⟩⟩⟩⟩⟩⟩⟩⟩⟩⟩⟩⟩
theorem lw_p16 : lw_okq (⟨"UnderstudyShow$Reader", "readUnit", "(LUnderstudyShow$Law;)V"⟩, 8) := ⟨⟨by decide +kernel, by decide +kernel⟩, List.mem_of_getElem? (i := 29) (by decide +kernel), List.mem_of_getElem? (i := 601) (by decide +kernel), List.mem_of_getElem? (i := 602) (by decide +kernel)⟩
theorem lw_p17 : lw_okq (⟨"UnderstudyShow$Reader", "putWaiting", "(LUnderstudyShow$Law;I)V"⟩, 8) := ⟨⟨by decide +kernel, by decide +kernel⟩, List.mem_of_getElem? (i := 29) (by decide +kernel), List.mem_of_getElem? (i := 609) (by decide +kernel), List.mem_of_getElem? (i := 610) (by decide +kernel)⟩
theorem lw_p18 : lw_okq (⟨"UnderstudyShow", "playDraft", "()V"⟩, 14) := ⟨⟨by decide +kernel, by decide +kernel⟩, List.mem_of_getElem? (i := 21) (by decide +kernel), List.mem_of_getElem? (i := 615) (by decide +kernel), List.mem_of_getElem? (i := 616) (by decide +kernel)⟩
theorem lw_p19 : lw_okq (⟨"UnderstudyShow", "isPerson", "(I)Z"⟩, 14) := ⟨⟨by decide +kernel, by decide +kernel⟩, List.mem_of_getElem? (i := 21) (by decide +kernel), List.mem_of_getElem? (i := 642) (by decide +kernel), List.mem_of_getElem? (i := 643) (by decide +kernel)⟩
theorem lw_p20 : lw_okq (⟨"UnderstudyShow$Cast", "fillPart", "(LUnderstudyShow$Script;LUnderstudyShow$State;I)V"⟩, 4) := ⟨⟨by decide +kernel, by decide +kernel⟩, List.mem_of_getElem? (i := 243) (by decide +kernel), List.mem_of_getElem? (i := 654) (by decide +kernel), List.mem_of_getElem? (i := 655) (by decide +kernel)⟩
theorem lw_p21 : lw_okq (⟨"UnderstudyShow$Law", "worthOfSum", "(I[I)J"⟩, 5) := ⟨⟨by decide +kernel, by decide +kernel⟩, List.mem_of_getElem? (i := 94) (by decide +kernel), List.mem_of_getElem? (i := 679) (by decide +kernel), List.mem_of_getElem? (i := 680) (by decide +kernel)⟩
theorem lw_p22 : lw_okq (⟨"UnderstudyShow", "seenAsAny", "(I)I"⟩, 14) := ⟨⟨by decide +kernel, by decide +kernel⟩, List.mem_of_getElem? (i := 21) (by decide +kernel), List.mem_of_getElem? (i := 696) (by decide +kernel), List.mem_of_getElem? (i := 697) (by decide +kernel)⟩
theorem lw_p23 : lw_okq (⟨"UnderstudyShow", "isPart", "(I)Z"⟩, 14) := ⟨⟨by decide +kernel, by decide +kernel⟩, List.mem_of_getElem? (i := 21) (by decide +kernel), List.mem_of_getElem? (i := 705) (by decide +kernel), List.mem_of_getElem? (i := 706) (by decide +kernel)⟩
theorem lw_p24 : lw_okq (⟨"UnderstudyShow", "dogsOfPart", "(I)I"⟩, 14) := ⟨⟨by decide +kernel, by decide +kernel⟩, List.mem_of_getElem? (i := 21) (by decide +kernel), List.mem_of_getElem? (i := 709) (by decide +kernel), List.mem_of_getElem? (i := 710) (by decide +kernel)⟩
theorem lw_p25 : lw_okq (⟨"UnderstudyShow$Cast", "playParts", "(LUnderstudyShow$Script;LUnderstudyShow$State;IZ)Z"⟩, 4) := ⟨⟨by decide +kernel, by decide +kernel⟩, List.mem_of_getElem? (i := 243) (by decide +kernel), List.mem_of_getElem? (i := 752) (by decide +kernel), List.mem_of_getElem? (i := 753) (by decide +kernel)⟩
theorem lw_p26 : lw_okq (⟨"UnderstudyShow$Cast", "isDogOut", "(LUnderstudyShow$Script;LUnderstudyShow$State;II)Z"⟩, 4) := ⟨⟨by decide +kernel, by decide +kernel⟩, List.mem_of_getElem? (i := 243) (by decide +kernel), List.mem_of_getElem? (i := 756) (by decide +kernel), List.mem_of_getElem? (i := 757) (by decide +kernel)⟩
theorem lw_p27 : lw_okq (⟨"UnderstudyShow$Cast", "playPart", "(LUnderstudyShow$Script;LUnderstudyShow$State;IZ)V"⟩, 4) := ⟨⟨by decide +kernel, by decide +kernel⟩, List.mem_of_getElem? (i := 243) (by decide +kernel), List.mem_of_getElem? (i := 767) (by decide +kernel), List.mem_of_getElem? (i := 768) (by decide +kernel)⟩
theorem lw_p28 : lw_okq (⟨"UnderstudyShow", "wouldRather", "(II)Z"⟩, 14) := ⟨⟨by decide +kernel, by decide +kernel⟩, List.mem_of_getElem? (i := 21) (by decide +kernel), List.mem_of_getElem? (i := 812) (by decide +kernel), List.mem_of_getElem? (i := 813) (by decide +kernel)⟩
theorem lw_p29 : lw_okq (⟨"UnderstudyShow", "standsIfAny", "(II)I"⟩, 14) := ⟨⟨by decide +kernel, by decide +kernel⟩, List.mem_of_getElem? (i := 21) (by decide +kernel), List.mem_of_getElem? (i := 816) (by decide +kernel), List.mem_of_getElem? (i := 817) (by decide +kernel)⟩
theorem lw_p30 : lw_okq (⟨"UnderstudyShow$Giving", "tellStands", "(LUnderstudyShow$Script;LUnderstudyShow$State;I)V"⟩, 5) := ⟨⟨by decide +kernel, by decide +kernel⟩, List.mem_of_getElem? (i := 266) (by decide +kernel), List.mem_of_getElem? (i := 828) (by decide +kernel), List.mem_of_getElem? (i := 829) (by decide +kernel)⟩
theorem lw_p31 : lw_okq (⟨"UnderstudyShow$Giving", "mostFrom", "(II)I"⟩, 5) := ⟨⟨by decide +kernel, by decide +kernel⟩, List.mem_of_getElem? (i := 266) (by decide +kernel), List.mem_of_getElem? (i := 846) (by decide +kernel), List.mem_of_getElem? (i := 847) (by decide +kernel)⟩
def lw_privs_2 : List (MethodName × Nat) := [(⟨"UnderstudyShow$Reader", "readUnit", "(LUnderstudyShow$Law;)V"⟩, 8), (⟨"UnderstudyShow$Reader", "putWaiting", "(LUnderstudyShow$Law;I)V"⟩, 8), (⟨"UnderstudyShow", "playDraft", "()V"⟩, 14), (⟨"UnderstudyShow", "isPerson", "(I)Z"⟩, 14), (⟨"UnderstudyShow$Cast", "fillPart", "(LUnderstudyShow$Script;LUnderstudyShow$State;I)V"⟩, 4), (⟨"UnderstudyShow$Law", "worthOfSum", "(I[I)J"⟩, 5), (⟨"UnderstudyShow", "seenAsAny", "(I)I"⟩, 14), (⟨"UnderstudyShow", "isPart", "(I)Z"⟩, 14), (⟨"UnderstudyShow", "dogsOfPart", "(I)I"⟩, 14), (⟨"UnderstudyShow$Cast", "playParts", "(LUnderstudyShow$Script;LUnderstudyShow$State;IZ)Z"⟩, 4), (⟨"UnderstudyShow$Cast", "isDogOut", "(LUnderstudyShow$Script;LUnderstudyShow$State;II)Z"⟩, 4), (⟨"UnderstudyShow$Cast", "playPart", "(LUnderstudyShow$Script;LUnderstudyShow$State;IZ)V"⟩, 4), (⟨"UnderstudyShow", "wouldRather", "(II)Z"⟩, 14), (⟨"UnderstudyShow", "standsIfAny", "(II)I"⟩, 14), (⟨"UnderstudyShow$Giving", "tellStands", "(LUnderstudyShow$Script;LUnderstudyShow$State;I)V"⟩, 5), (⟨"UnderstudyShow$Giving", "mostFrom", "(II)I"⟩, 5)]
theorem lw_r2 : ∀ q ∈ lw_privs_2, lw_okq q := List.forall_mem_cons.mpr ⟨lw_p16, List.forall_mem_cons.mpr ⟨lw_p17, List.forall_mem_cons.mpr ⟨lw_p18, List.forall_mem_cons.mpr ⟨lw_p19, List.forall_mem_cons.mpr ⟨lw_p20, List.forall_mem_cons.mpr ⟨lw_p21, List.forall_mem_cons.mpr ⟨lw_p22, List.forall_mem_cons.mpr ⟨lw_p23, List.forall_mem_cons.mpr ⟨lw_p24, List.forall_mem_cons.mpr ⟨lw_p25, List.forall_mem_cons.mpr ⟨lw_p26, List.forall_mem_cons.mpr ⟨lw_p27, List.forall_mem_cons.mpr ⟨lw_p28, List.forall_mem_cons.mpr ⟨lw_p29, List.forall_mem_cons.mpr ⟨lw_p30, List.forall_mem_cons.mpr ⟨lw_p31, fun _ h => absurd h List.not_mem_nil⟩⟩⟩⟩⟩⟩⟩⟩⟩⟩⟩⟩⟩⟩⟩⟩
theorem lw_p32 : lw_okq (⟨"UnderstudyShow$Giving", "canBe", "(III)Z"⟩, 5) := ⟨⟨by decide +kernel, by decide +kernel⟩, List.mem_of_getElem? (i := 266) (by decide +kernel), List.mem_of_getElem? (i := 850) (by decide +kernel), List.mem_of_getElem? (i := 851) (by decide +kernel)⟩
theorem lw_p33 : lw_okq (⟨"UnderstudyShow$Giving", "mostWith", "(III)I"⟩, 5) := ⟨⟨by decide +kernel, by decide +kernel⟩, List.mem_of_getElem? (i := 266) (by decide +kernel), List.mem_of_getElem? (i := 854) (by decide +kernel), List.mem_of_getElem? (i := 855) (by decide +kernel)⟩
theorem lw_p34 : lw_okq (⟨"UnderstudyShow$Giving", "firstOfMost", "(II)I"⟩, 5) := ⟨⟨by decide +kernel, by decide +kernel⟩, List.mem_of_getElem? (i := 266) (by decide +kernel), List.mem_of_getElem? (i := 863) (by decide +kernel), List.mem_of_getElem? (i := 864) (by decide +kernel)⟩
theorem lw_p35 : lw_okq (⟨"UnderstudyShow", "hoursToMove", "(II)I"⟩, 14) := ⟨⟨by decide +kernel, by decide +kernel⟩, List.mem_of_getElem? (i := 21) (by decide +kernel), List.mem_of_getElem? (i := 872) (by decide +kernel), List.mem_of_getElem? (i := 873) (by decide +kernel)⟩
theorem lw_p36 : lw_okq (⟨"UnderstudyShow$Giving", "overAllWays", "(II)I"⟩, 5) := ⟨⟨by decide +kernel, by decide +kernel⟩, List.mem_of_getElem? (i := 266) (by decide +kernel), List.mem_of_getElem? (i := 882) (by decide +kernel), List.mem_of_getElem? (i := 883) (by decide +kernel)⟩
theorem lw_p37 : lw_okq (⟨"UnderstudyShow$Giving", "giveNext", "(III)V"⟩, 5) := ⟨⟨by decide +kernel, by decide +kernel⟩, List.mem_of_getElem? (i := 266) (by decide +kernel), List.mem_of_getElem? (i := 892) (by decide +kernel), List.mem_of_getElem? (i := 893) (by decide +kernel)⟩
theorem lw_p38 : lw_okq (⟨"UnderstudyShow", "standsOf", "(LUnderstudyShow$State;)I"⟩, 14) := ⟨⟨by decide +kernel, by decide +kernel⟩, List.mem_of_getElem? (i := 21) (by decide +kernel), List.mem_of_getElem? (i := 931) (by decide +kernel), List.mem_of_getElem? (i := 932) (by decide +kernel)⟩
theorem lw_p39 : lw_okq (⟨"UnderstudyShow", "castWithout", "(I)LUnderstudyShow$Cast;"⟩, 14) := ⟨⟨by decide +kernel, by decide +kernel⟩, List.mem_of_getElem? (i := 21) (by decide +kernel), List.mem_of_getElem? (i := 944) (by decide +kernel), List.mem_of_getElem? (i := 945) (by decide +kernel)⟩
theorem lw_p40 : lw_okq (⟨"UnderstudyShow", "howManyAt", "(I)I"⟩, 14) := ⟨⟨by decide +kernel, by decide +kernel⟩, List.mem_of_getElem? (i := 21) (by decide +kernel), List.mem_of_getElem? (i := 956) (by decide +kernel), List.mem_of_getElem? (i := 957) (by decide +kernel)⟩
theorem lw_p41 : lw_okq (⟨"UnderstudyShow", "firstTwoAtOneHour", "(LUnderstudyShow$State;)I"⟩, 14) := ⟨⟨by decide +kernel, by decide +kernel⟩, List.mem_of_getElem? (i := 21) (by decide +kernel), List.mem_of_getElem? (i := 980) (by decide +kernel), List.mem_of_getElem? (i := 981) (by decide +kernel)⟩
theorem lw_p42 : lw_okq (⟨"UnderstudyShow$Told", "fits", "(ILUnderstudyShow$Script;LUnderstudyShow$State;I)Z"⟩, 4) := ⟨⟨by decide +kernel, by decide +kernel⟩, List.mem_of_getElem? (i := 308) (by decide +kernel), List.mem_of_getElem? (i := 1024) (by decide +kernel), List.mem_of_getElem? (i := 1025) (by decide +kernel)⟩
theorem lw_p43 : lw_okq (⟨"UnderstudyShow", "leftAtWorst", "(III)I"⟩, 14) := ⟨⟨by decide +kernel, by decide +kernel⟩, List.mem_of_getElem? (i := 21) (by decide +kernel), List.mem_of_getElem? (i := 1034) (by decide +kernel), List.mem_of_getElem? (i := 1035) (by decide +kernel)⟩
theorem lw_p44 : lw_okq (⟨"UnderstudyShow", "marksOfAll", "()I"⟩, 14) := ⟨⟨by decide +kernel, by decide +kernel⟩, List.mem_of_getElem? (i := 21) (by decide +kernel), List.mem_of_getElem? (i := 1054) (by decide +kernel), List.mem_of_getElem? (i := 1055) (by decide +kernel)⟩
theorem lw_p45 : lw_okq (⟨"UnderstudyShow", "slotsHeld", "()I"⟩, 14) := ⟨⟨by decide +kernel, by decide +kernel⟩, List.mem_of_getElem? (i := 21) (by decide +kernel), List.mem_of_getElem? (i := 1058) (by decide +kernel), List.mem_of_getElem? (i := 1059) (by decide +kernel)⟩
theorem lw_p46 : lw_okq (⟨"UnderstudyShow", "countOfCast", "(I)I"⟩, 14) := ⟨⟨by decide +kernel, by decide +kernel⟩, List.mem_of_getElem? (i := 21) (by decide +kernel), List.mem_of_getElem? (i := 1062) (by decide +kernel), List.mem_of_getElem? (i := 1063) (by decide +kernel)⟩
theorem lw_p47 : lw_okq (⟨"UnderstudyShow", "idlePeople", "()I"⟩, 14) := ⟨⟨by decide +kernel, by decide +kernel⟩, List.mem_of_getElem? (i := 21) (by decide +kernel), List.mem_of_getElem? (i := 1066) (by decide +kernel), List.mem_of_getElem? (i := 1067) (by decide +kernel)⟩
def lw_privs_3 : List (MethodName × Nat) := [(⟨"UnderstudyShow$Giving", "canBe", "(III)Z"⟩, 5), (⟨"UnderstudyShow$Giving", "mostWith", "(III)I"⟩, 5), (⟨"UnderstudyShow$Giving", "firstOfMost", "(II)I"⟩, 5), (⟨"UnderstudyShow", "hoursToMove", "(II)I"⟩, 14), (⟨"UnderstudyShow$Giving", "overAllWays", "(II)I"⟩, 5), (⟨"UnderstudyShow$Giving", "giveNext", "(III)V"⟩, 5), (⟨"UnderstudyShow", "standsOf", "(LUnderstudyShow$State;)I"⟩, 14), (⟨"UnderstudyShow", "castWithout", "(I)LUnderstudyShow$Cast;"⟩, 14), (⟨"UnderstudyShow", "howManyAt", "(I)I"⟩, 14), (⟨"UnderstudyShow", "firstTwoAtOneHour", "(LUnderstudyShow$State;)I"⟩, 14), (⟨"UnderstudyShow$Told", "fits", "(ILUnderstudyShow$Script;LUnderstudyShow$State;I)Z"⟩, 4), (⟨"UnderstudyShow", "leftAtWorst", "(III)I"⟩, 14), (⟨"UnderstudyShow", "marksOfAll", "()I"⟩, 14), (⟨"UnderstudyShow", "slotsHeld", "()I"⟩, 14), (⟨"UnderstudyShow", "countOfCast", "(I)I"⟩, 14), (⟨"UnderstudyShow", "idlePeople", "()I"⟩, 14)]
theorem lw_r3 : ∀ q ∈ lw_privs_3, lw_okq q := List.forall_mem_cons.mpr ⟨lw_p32, List.forall_mem_cons.mpr ⟨lw_p33, List.forall_mem_cons.mpr ⟨lw_p34, List.forall_mem_cons.mpr ⟨lw_p35, List.forall_mem_cons.mpr ⟨lw_p36, List.forall_mem_cons.mpr ⟨lw_p37, List.forall_mem_cons.mpr ⟨lw_p38, List.forall_mem_cons.mpr ⟨lw_p39, List.forall_mem_cons.mpr ⟨lw_p40, List.forall_mem_cons.mpr ⟨lw_p41, List.forall_mem_cons.mpr ⟨lw_p42, List.forall_mem_cons.mpr ⟨lw_p43, List.forall_mem_cons.mpr ⟨lw_p44, List.forall_mem_cons.mpr ⟨lw_p45, List.forall_mem_cons.mpr ⟨lw_p46, List.forall_mem_cons.mpr ⟨lw_p47, fun _ h => absurd h List.not_mem_nil⟩⟩⟩⟩⟩⟩⟩⟩⟩⟩⟩⟩⟩⟩⟩⟩
theorem lw_p48 : lw_okq (⟨"UnderstudyShow", "hoursApartInCast", "()I"⟩, 14) := ⟨⟨by decide +kernel, by decide +kernel⟩, List.mem_of_getElem? (i := 21) (by decide +kernel), List.mem_of_getElem? (i := 1070) (by decide +kernel), List.mem_of_getElem? (i := 1071) (by decide +kernel)⟩
theorem lw_p49 : lw_okq (⟨"UnderstudyShowModel", "plain", "(I)V"⟩, 67) := ⟨⟨by decide +kernel, by decide +kernel⟩, List.mem_of_getElem? (i := 1074) (by decide +kernel), List.mem_of_getElem? (i := 1080) (by decide +kernel), List.mem_of_getElem? (i := 1081) (by decide +kernel)⟩
theorem lw_p50 : lw_okq (⟨"UnderstudyShowModel", "begins", "()V"⟩, 67) := ⟨⟨by decide +kernel, by decide +kernel⟩, List.mem_of_getElem? (i := 1074) (by decide +kernel), List.mem_of_getElem? (i := 1091) (by decide +kernel), List.mem_of_getElem? (i := 1092) (by decide +kernel)⟩
theorem lw_p51 : lw_okq (⟨"UnderstudyShowModel", "keepsRow", "()V"⟩, 67) := ⟨⟨by decide +kernel, by decide +kernel⟩, List.mem_of_getElem? (i := 1074) (by decide +kernel), List.mem_of_getElem? (i := 1095) (by decide +kernel), List.mem_of_getElem? (i := 1096) (by decide +kernel)⟩
theorem lw_p52 : lw_okq (⟨"UnderstudyShowModel", "put", "(I)V"⟩, 67) := ⟨⟨by decide +kernel, by decide +kernel⟩, List.mem_of_getElem? (i := 1074) (by decide +kernel), List.mem_of_getElem? (i := 1304) (by decide +kernel), List.mem_of_getElem? (i := 1305) (by decide +kernel)⟩
theorem lw_p53 : lw_okq (⟨"UnderstudyShowModel", "cut", "()V"⟩, 67) := ⟨⟨by decide +kernel, by decide +kernel⟩, List.mem_of_getElem? (i := 1074) (by decide +kernel), List.mem_of_getElem? (i := 1316) (by decide +kernel), List.mem_of_getElem? (i := 1317) (by decide +kernel)⟩
theorem lw_p54 : lw_okq (⟨"UnderstudyShowModel", "byteAt", "(I)I"⟩, 67) := ⟨⟨by decide +kernel, by decide +kernel⟩, List.mem_of_getElem? (i := 1074) (by decide +kernel), List.mem_of_getElem? (i := 1320) (by decide +kernel), List.mem_of_getElem? (i := 1321) (by decide +kernel)⟩
theorem lw_p55 : lw_okq (⟨"UnderstudyShowModel", "token", "(IIIJ)V"⟩, 67) := ⟨⟨by decide +kernel, by decide +kernel⟩, List.mem_of_getElem? (i := 1074) (by decide +kernel), List.mem_of_getElem? (i := 1324) (by decide +kernel), List.mem_of_getElem? (i := 1325) (by decide +kernel)⟩
theorem lw_p56 : lw_okq (⟨"UnderstudyShowModel", "sign", "(III)I"⟩, 67) := ⟨⟨by decide +kernel, by decide +kernel⟩, List.mem_of_getElem? (i := 1074) (by decide +kernel), List.mem_of_getElem? (i := 1334) (by decide +kernel), List.mem_of_getElem? (i := 1335) (by decide +kernel)⟩
theorem lw_p57 : lw_okq (⟨"UnderstudyShowModel", "is", "(I)Z"⟩, 67) := ⟨⟨by decide +kernel, by decide +kernel⟩, List.mem_of_getElem? (i := 1074) (by decide +kernel), List.mem_of_getElem? (i := 1338) (by decide +kernel), List.mem_of_getElem? (i := 1339) (by decide +kernel)⟩
theorem lw_p58 : lw_okq (⟨"UnderstudyShowModel", "tellOne", "()V"⟩, 67) := ⟨⟨by decide +kernel, by decide +kernel⟩, List.mem_of_getElem? (i := 1074) (by decide +kernel), List.mem_of_getElem? (i := 1342) (by decide +kernel), List.mem_of_getElem? (i := 1343) (by decide +kernel)⟩
theorem lw_p59 : lw_okq (⟨"UnderstudyShowModel", "roomFor", "(II)V"⟩, 67) := ⟨⟨by decide +kernel, by decide +kernel⟩, List.mem_of_getElem? (i := 1074) (by decide +kernel), List.mem_of_getElem? (i := 1346) (by decide +kernel), List.mem_of_getElem? (i := 1347) (by decide +kernel)⟩
theorem lw_p60 : lw_okq (⟨"UnderstudyShowModel", "fail", "(I)V"⟩, 67) := ⟨⟨by decide +kernel, by decide +kernel⟩, List.mem_of_getElem? (i := 1074) (by decide +kernel), List.mem_of_getElem? (i := 1350) (by decide +kernel), List.mem_of_getElem? (i := 1351) (by decide +kernel)⟩
theorem lw_p61 : lw_okq (⟨"UnderstudyShowModel", "goesOn", "()V"⟩, 67) := ⟨⟨by decide +kernel, by decide +kernel⟩, List.mem_of_getElem? (i := 1074) (by decide +kernel), List.mem_of_getElem? (i := 1354) (by decide +kernel), List.mem_of_getElem? (i := 1355) (by decide +kernel)⟩
theorem lw_p62 : lw_okq (⟨"UnderstudyShowModel", "named", "()I"⟩, 67) := ⟨⟨by decide +kernel, by decide +kernel⟩, List.mem_of_getElem? (i := 1074) (by decide +kernel), List.mem_of_getElem? (i := 1358) (by decide +kernel), List.mem_of_getElem? (i := 1359) (by decide +kernel)⟩
theorem lw_p63 : lw_okq (⟨"UnderstudyShowModel", "must", "(I)V"⟩, 67) := ⟨⟨by decide +kernel, by decide +kernel⟩, List.mem_of_getElem? (i := 1074) (by decide +kernel), List.mem_of_getElem? (i := 1362) (by decide +kernel), List.mem_of_getElem? (i := 1363) (by decide +kernel)⟩
def lw_privs_4 : List (MethodName × Nat) := [(⟨"UnderstudyShow", "hoursApartInCast", "()I"⟩, 14), (⟨"UnderstudyShowModel", "plain", "(I)V"⟩, 67), (⟨"UnderstudyShowModel", "begins", "()V"⟩, 67), (⟨"UnderstudyShowModel", "keepsRow", "()V"⟩, 67), (⟨"UnderstudyShowModel", "put", "(I)V"⟩, 67), (⟨"UnderstudyShowModel", "cut", "()V"⟩, 67), (⟨"UnderstudyShowModel", "byteAt", "(I)I"⟩, 67), (⟨"UnderstudyShowModel", "token", "(IIIJ)V"⟩, 67), (⟨"UnderstudyShowModel", "sign", "(III)I"⟩, 67), (⟨"UnderstudyShowModel", "is", "(I)Z"⟩, 67), (⟨"UnderstudyShowModel", "tellOne", "()V"⟩, 67), (⟨"UnderstudyShowModel", "roomFor", "(II)V"⟩, 67), (⟨"UnderstudyShowModel", "fail", "(I)V"⟩, 67), (⟨"UnderstudyShowModel", "goesOn", "()V"⟩, 67), (⟨"UnderstudyShowModel", "named", "()I"⟩, 67), (⟨"UnderstudyShowModel", "must", "(I)V"⟩, 67)]
theorem lw_r4 : ∀ q ∈ lw_privs_4, lw_okq q := List.forall_mem_cons.mpr ⟨lw_p48, List.forall_mem_cons.mpr ⟨lw_p49, List.forall_mem_cons.mpr ⟨lw_p50, List.forall_mem_cons.mpr ⟨lw_p51, List.forall_mem_cons.mpr ⟨lw_p52, List.forall_mem_cons.mpr ⟨lw_p53, List.forall_mem_cons.mpr ⟨lw_p54, List.forall_mem_cons.mpr ⟨lw_p55, List.forall_mem_cons.mpr ⟨lw_p56, List.forall_mem_cons.mpr ⟨lw_p57, List.forall_mem_cons.mpr ⟨lw_p58, List.forall_mem_cons.mpr ⟨lw_p59, List.forall_mem_cons.mpr ⟨lw_p60, List.forall_mem_cons.mpr ⟨lw_p61, List.forall_mem_cons.mpr ⟨lw_p62, List.forall_mem_cons.mpr ⟨lw_p63, fun _ h => absurd h List.not_mem_nil⟩⟩⟩⟩⟩⟩⟩⟩⟩⟩⟩⟩⟩⟩⟩⟩
theorem lw_p64 : lw_okq (⟨"UnderstudyShowModel", "wrong", "(II)V"⟩, 67) := ⟨⟨by decide +kernel, by decide +kernel⟩, List.mem_of_getElem? (i := 1074) (by decide +kernel), List.mem_of_getElem? (i := 1366) (by decide +kernel), List.mem_of_getElem? (i := 1367) (by decide +kernel)⟩
theorem lw_p65 : lw_okq (⟨"UnderstudyShowModel", "bounded", "(II)I"⟩, 67) := ⟨⟨by decide +kernel, by decide +kernel⟩, List.mem_of_getElem? (i := 1074) (by decide +kernel), List.mem_of_getElem? (i := 1370) (by decide +kernel), List.mem_of_getElem? (i := 1371) (by decide +kernel)⟩
theorem lw_p66 : lw_okq (⟨"UnderstudyShowModel", "endsName", "(I)V"⟩, 67) := ⟨⟨by decide +kernel, by decide +kernel⟩, List.mem_of_getElem? (i := 1074) (by decide +kernel), List.mem_of_getElem? (i := 1374) (by decide +kernel), List.mem_of_getElem? (i := 1375) (by decide +kernel)⟩
theorem lw_p67 : lw_okq (⟨"UnderstudyShowModel", "toldInt", "(II)I"⟩, 67) := ⟨⟨by decide +kernel, by decide +kernel⟩, List.mem_of_getElem? (i := 1074) (by decide +kernel), List.mem_of_getElem? (i := 1378) (by decide +kernel), List.mem_of_getElem? (i := 1379) (by decide +kernel)⟩
theorem lw_p68 : lw_okq (⟨"UnderstudyShowModel", "tellLaw", "(I)V"⟩, 67) := ⟨⟨by decide +kernel, by decide +kernel⟩, List.mem_of_getElem? (i := 1074) (by decide +kernel), List.mem_of_getElem? (i := 1382) (by decide +kernel), List.mem_of_getElem? (i := 1383) (by decide +kernel)⟩
theorem lw_p69 : lw_okq (⟨"UnderstudyShowModel", "expression", "()V"⟩, 67) := ⟨⟨by decide +kernel, by decide +kernel⟩, List.mem_of_getElem? (i := 1074) (by decide +kernel), List.mem_of_getElem? (i := 1386) (by decide +kernel), List.mem_of_getElem? (i := 1387) (by decide +kernel)⟩
theorem lw_p70 : lw_okq (⟨"UnderstudyShowModel", "unit", "()V"⟩, 67) := ⟨⟨by decide +kernel, by decide +kernel⟩, List.mem_of_getElem? (i := 1074) (by decide +kernel), List.mem_of_getElem? (i := 1390) (by decide +kernel), List.mem_of_getElem? (i := 1391) (by decide +kernel)⟩
theorem lw_p71 : lw_okq (⟨"UnderstudyShowModel", "emit", "(II)V"⟩, 67) := ⟨⟨by decide +kernel, by decide +kernel⟩, List.mem_of_getElem? (i := 1074) (by decide +kernel), List.mem_of_getElem? (i := 1394) (by decide +kernel), List.mem_of_getElem? (i := 1395) (by decide +kernel)⟩
theorem lw_p72 : lw_okq (⟨"UnderstudyShowModel", "comesOut", "(Z)V"⟩, 67) := ⟨⟨by decide +kernel, by decide +kernel⟩, List.mem_of_getElem? (i := 1074) (by decide +kernel), List.mem_of_getElem? (i := 1398) (by decide +kernel), List.mem_of_getElem? (i := 1399) (by decide +kernel)⟩
theorem lw_p73 : lw_okq (⟨"UnderstudyShowModel", "term", "()V"⟩, 67) := ⟨⟨by decide +kernel, by decide +kernel⟩, List.mem_of_getElem? (i := 1074) (by decide +kernel), List.mem_of_getElem? (i := 1402) (by decide +kernel), List.mem_of_getElem? (i := 1403) (by decide +kernel)⟩
theorem lw_p74 : lw_okq (⟨"UnderstudyShowModel", "isPerson", "(I)Z"⟩, 67) := ⟨⟨by decide +kernel, by decide +kernel⟩, List.mem_of_getElem? (i := 1074) (by decide +kernel), List.mem_of_getElem? (i := 1414) (by decide +kernel), List.mem_of_getElem? (i := 1415) (by decide +kernel)⟩
theorem lw_p75 : lw_okq (⟨"UnderstudyShowModel", "copies", "()V"⟩, 67) := ⟨⟨by decide +kernel, by decide +kernel⟩, List.mem_of_getElem? (i := 1074) (by decide +kernel), List.mem_of_getElem? (i := 1421) (by decide +kernel), List.mem_of_getElem? (i := 1422) (by decide +kernel)⟩
theorem lw_p76 : lw_okq (⟨"UnderstudyShowModel", "casts", "()V"⟩, 67) := ⟨⟨by decide +kernel, by decide +kernel⟩, List.mem_of_getElem? (i := 1074) (by decide +kernel), List.mem_of_getElem? (i := 1425) (by decide +kernel), List.mem_of_getElem? (i := 1426) (by decide +kernel)⟩
theorem lw_p77 : lw_okq (⟨"UnderstudyShowModel", "isOff", "(I)Z"⟩, 67) := ⟨⟨by decide +kernel, by decide +kernel⟩, List.mem_of_getElem? (i := 1074) (by decide +kernel), List.mem_of_getElem? (i := 1429) (by decide +kernel), List.mem_of_getElem? (i := 1430) (by decide +kernel)⟩
theorem lw_p78 : lw_okq (⟨"UnderstudyShowModel", "standsOf", "(II)I"⟩, 67) := ⟨⟨by decide +kernel, by decide +kernel⟩, List.mem_of_getElem? (i := 1074) (by decide +kernel), List.mem_of_getElem? (i := 1433) (by decide +kernel), List.mem_of_getElem? (i := 1434) (by decide +kernel)⟩
theorem lw_p79 : lw_okq (⟨"UnderstudyShowModel", "looks", "(II)V"⟩, 67) := ⟨⟨by decide +kernel, by decide +kernel⟩, List.mem_of_getElem? (i := 1074) (by decide +kernel), List.mem_of_getElem? (i := 1437) (by decide +kernel), List.mem_of_getElem? (i := 1438) (by decide +kernel)⟩
def lw_privs_5 : List (MethodName × Nat) := [(⟨"UnderstudyShowModel", "wrong", "(II)V"⟩, 67), (⟨"UnderstudyShowModel", "bounded", "(II)I"⟩, 67), (⟨"UnderstudyShowModel", "endsName", "(I)V"⟩, 67), (⟨"UnderstudyShowModel", "toldInt", "(II)I"⟩, 67), (⟨"UnderstudyShowModel", "tellLaw", "(I)V"⟩, 67), (⟨"UnderstudyShowModel", "expression", "()V"⟩, 67), (⟨"UnderstudyShowModel", "unit", "()V"⟩, 67), (⟨"UnderstudyShowModel", "emit", "(II)V"⟩, 67), (⟨"UnderstudyShowModel", "comesOut", "(Z)V"⟩, 67), (⟨"UnderstudyShowModel", "term", "()V"⟩, 67), (⟨"UnderstudyShowModel", "isPerson", "(I)Z"⟩, 67), (⟨"UnderstudyShowModel", "copies", "()V"⟩, 67), (⟨"UnderstudyShowModel", "casts", "()V"⟩, 67), (⟨"UnderstudyShowModel", "isOff", "(I)Z"⟩, 67), (⟨"UnderstudyShowModel", "standsOf", "(II)I"⟩, 67), (⟨"UnderstudyShowModel", "looks", "(II)V"⟩, 67)]
theorem lw_r5 : ∀ q ∈ lw_privs_5, lw_okq q := List.forall_mem_cons.mpr ⟨lw_p64, List.forall_mem_cons.mpr ⟨lw_p65, List.forall_mem_cons.mpr ⟨lw_p66, List.forall_mem_cons.mpr ⟨lw_p67, List.forall_mem_cons.mpr ⟨lw_p68, List.forall_mem_cons.mpr ⟨lw_p69, List.forall_mem_cons.mpr ⟨lw_p70, List.forall_mem_cons.mpr ⟨lw_p71, List.forall_mem_cons.mpr ⟨lw_p72, List.forall_mem_cons.mpr ⟨lw_p73, List.forall_mem_cons.mpr ⟨lw_p74, List.forall_mem_cons.mpr ⟨lw_p75, List.forall_mem_cons.mpr ⟨lw_p76, List.forall_mem_cons.mpr ⟨lw_p77, List.forall_mem_cons.mpr ⟨lw_p78, List.forall_mem_cons.mpr ⟨lw_p79, fun _ h => absurd h List.not_mem_nil⟩⟩⟩⟩⟩⟩⟩⟩⟩⟩⟩⟩⟩⟩⟩⟩
theorem lw_p80 : lw_okq (⟨"UnderstudyShowModel", "lawTells", "(II)I"⟩, 67) := ⟨⟨by decide +kernel, by decide +kernel⟩, List.mem_of_getElem? (i := 1074) (by decide +kernel), List.mem_of_getElem? (i := 1447) (by decide +kernel), List.mem_of_getElem? (i := 1448) (by decide +kernel)⟩
theorem lw_p81 : lw_okq (⟨"UnderstudyShowModel", "termOf", "(II)I"⟩, 67) := ⟨⟨by decide +kernel, by decide +kernel⟩, List.mem_of_getElem? (i := 1074) (by decide +kernel), List.mem_of_getElem? (i := 1451) (by decide +kernel), List.mem_of_getElem? (i := 1452) (by decide +kernel)⟩
theorem lw_p82 : lw_okq (⟨"UnderstudyShowModel", "castFor", "(I)I"⟩, 67) := ⟨⟨by decide +kernel, by decide +kernel⟩, List.mem_of_getElem? (i := 1074) (by decide +kernel), List.mem_of_getElem? (i := 1458) (by decide +kernel), List.mem_of_getElem? (i := 1459) (by decide +kernel)⟩
theorem lw_p83 : lw_okq (⟨"UnderstudyShowModel", "seenAny", "(I)I"⟩, 67) := ⟨⟨by decide +kernel, by decide +kernel⟩, List.mem_of_getElem? (i := 1074) (by decide +kernel), List.mem_of_getElem? (i := 1462) (by decide +kernel), List.mem_of_getElem? (i := 1463) (by decide +kernel)⟩
theorem lw_p84 : lw_okq (⟨"UnderstudyShowModel", "isPart", "(I)Z"⟩, 67) := ⟨⟨by decide +kernel, by decide +kernel⟩, List.mem_of_getElem? (i := 1074) (by decide +kernel), List.mem_of_getElem? (i := 1470) (by decide +kernel), List.mem_of_getElem? (i := 1471) (by decide +kernel)⟩
theorem lw_p85 : lw_okq (⟨"UnderstudyShowModel", "dogsOf", "(II)I"⟩, 67) := ⟨⟨by decide +kernel, by decide +kernel⟩, List.mem_of_getElem? (i := 1074) (by decide +kernel), List.mem_of_getElem? (i := 1474) (by decide +kernel), List.mem_of_getElem? (i := 1475) (by decide +kernel)⟩
theorem lw_p86 : lw_okq (⟨"UnderstudyShowModel", "writesOf", "(II)I"⟩, 67) := ⟨⟨by decide +kernel, by decide +kernel⟩, List.mem_of_getElem? (i := 1074) (by decide +kernel), List.mem_of_getElem? (i := 1482) (by decide +kernel), List.mem_of_getElem? (i := 1483) (by decide +kernel)⟩
theorem lw_p87 : lw_okq (⟨"UnderstudyShowModel", "marksOf", "(II)I"⟩, 67) := ⟨⟨by decide +kernel, by decide +kernel⟩, List.mem_of_getElem? (i := 1074) (by decide +kernel), List.mem_of_getElem? (i := 1486) (by decide +kernel), List.mem_of_getElem? (i := 1487) (by decide +kernel)⟩
theorem lw_p88 : lw_okq (⟨"UnderstudyShowModel", "does", "(II)V"⟩, 67) := ⟨⟨by decide +kernel, by decide +kernel⟩, List.mem_of_getElem? (i := 1074) (by decide +kernel), List.mem_of_getElem? (i := 1497) (by decide +kernel), List.mem_of_getElem? (i := 1498) (by decide +kernel)⟩
theorem lw_p89 : lw_okq (⟨"UnderstudyShowModel", "records", "()V"⟩, 67) := ⟨⟨by decide +kernel, by decide +kernel⟩, List.mem_of_getElem? (i := 1074) (by decide +kernel), List.mem_of_getElem? (i := 1501) (by decide +kernel), List.mem_of_getElem? (i := 1502) (by decide +kernel)⟩
theorem lw_p90 : lw_okq (⟨"UnderstudyShowModel", "goes", "(I)V"⟩, 67) := ⟨⟨by decide +kernel, by decide +kernel⟩, List.mem_of_getElem? (i := 1074) (by decide +kernel), List.mem_of_getElem? (i := 1520) (by decide +kernel), List.mem_of_getElem? (i := 1521) (by decide +kernel)⟩
theorem lw_p91 : lw_okq (⟨"UnderstudyShowModel", "dayGoes", "()V"⟩, 67) := ⟨⟨by decide +kernel, by decide +kernel⟩, List.mem_of_getElem? (i := 1074) (by decide +kernel), List.mem_of_getElem? (i := 1524) (by decide +kernel), List.mem_of_getElem? (i := 1525) (by decide +kernel)⟩
theorem lw_p92 : lw_okq (⟨"UnderstudyShowModel", "lotOf", "(I)I"⟩, 67) := ⟨⟨by decide +kernel, by decide +kernel⟩, List.mem_of_getElem? (i := 1074) (by decide +kernel), List.mem_of_getElem? (i := 1528) (by decide +kernel), List.mem_of_getElem? (i := 1529) (by decide +kernel)⟩
theorem lw_p93 : lw_okq (⟨"UnderstudyShowModel", "emptyBits", "()I"⟩, 67) := ⟨⟨by decide +kernel, by decide +kernel⟩, List.mem_of_getElem? (i := 1074) (by decide +kernel), List.mem_of_getElem? (i := 1548) (by decide +kernel), List.mem_of_getElem? (i := 1549) (by decide +kernel)⟩
theorem lw_p94 : lw_okq (⟨"UnderstudyShowModel", "fillsGiven", "()V"⟩, 67) := ⟨⟨by decide +kernel, by decide +kernel⟩, List.mem_of_getElem? (i := 1074) (by decide +kernel), List.mem_of_getElem? (i := 1556) (by decide +kernel), List.mem_of_getElem? (i := 1557) (by decide +kernel)⟩
theorem lw_p95 : lw_okq (⟨"UnderstudyShowModel", "fillsStands", "(I)V"⟩, 67) := ⟨⟨by decide +kernel, by decide +kernel⟩, List.mem_of_getElem? (i := 1074) (by decide +kernel), List.mem_of_getElem? (i := 1560) (by decide +kernel), List.mem_of_getElem? (i := 1561) (by decide +kernel)⟩
def lw_privs_6 : List (MethodName × Nat) := [(⟨"UnderstudyShowModel", "lawTells", "(II)I"⟩, 67), (⟨"UnderstudyShowModel", "termOf", "(II)I"⟩, 67), (⟨"UnderstudyShowModel", "castFor", "(I)I"⟩, 67), (⟨"UnderstudyShowModel", "seenAny", "(I)I"⟩, 67), (⟨"UnderstudyShowModel", "isPart", "(I)Z"⟩, 67), (⟨"UnderstudyShowModel", "dogsOf", "(II)I"⟩, 67), (⟨"UnderstudyShowModel", "writesOf", "(II)I"⟩, 67), (⟨"UnderstudyShowModel", "marksOf", "(II)I"⟩, 67), (⟨"UnderstudyShowModel", "does", "(II)V"⟩, 67), (⟨"UnderstudyShowModel", "records", "()V"⟩, 67), (⟨"UnderstudyShowModel", "goes", "(I)V"⟩, 67), (⟨"UnderstudyShowModel", "dayGoes", "()V"⟩, 67), (⟨"UnderstudyShowModel", "lotOf", "(I)I"⟩, 67), (⟨"UnderstudyShowModel", "emptyBits", "()I"⟩, 67), (⟨"UnderstudyShowModel", "fillsGiven", "()V"⟩, 67), (⟨"UnderstudyShowModel", "fillsStands", "(I)V"⟩, 67)]
theorem lw_r6 : ∀ q ∈ lw_privs_6, lw_okq q := List.forall_mem_cons.mpr ⟨lw_p80, List.forall_mem_cons.mpr ⟨lw_p81, List.forall_mem_cons.mpr ⟨lw_p82, List.forall_mem_cons.mpr ⟨lw_p83, List.forall_mem_cons.mpr ⟨lw_p84, List.forall_mem_cons.mpr ⟨lw_p85, List.forall_mem_cons.mpr ⟨lw_p86, List.forall_mem_cons.mpr ⟨lw_p87, List.forall_mem_cons.mpr ⟨lw_p88, List.forall_mem_cons.mpr ⟨lw_p89, List.forall_mem_cons.mpr ⟨lw_p90, List.forall_mem_cons.mpr ⟨lw_p91, List.forall_mem_cons.mpr ⟨lw_p92, List.forall_mem_cons.mpr ⟨lw_p93, List.forall_mem_cons.mpr ⟨lw_p94, List.forall_mem_cons.mpr ⟨lw_p95, fun _ h => absurd h List.not_mem_nil⟩⟩⟩⟩⟩⟩⟩⟩⟩⟩⟩⟩⟩⟩⟩⟩
theorem lw_p96 : lw_okq (⟨"UnderstudyShowModel", "ends", "(I)V"⟩, 67) := ⟨⟨by decide +kernel, by decide +kernel⟩, List.mem_of_getElem? (i := 1074) (by decide +kernel), List.mem_of_getElem? (i := 1564) (by decide +kernel), List.mem_of_getElem? (i := 1565) (by decide +kernel)⟩
theorem lw_p97 : lw_okq (⟨"UnderstudyShowModel", "isFree", "(III)Z"⟩, 67) := ⟨⟨by decide +kernel, by decide +kernel⟩, List.mem_of_getElem? (i := 1074) (by decide +kernel), List.mem_of_getElem? (i := 1568) (by decide +kernel), List.mem_of_getElem? (i := 1569) (by decide +kernel)⟩
theorem lw_p98 : lw_okq (⟨"UnderstudyShowModel", "with", "(III)I"⟩, 67) := ⟨⟨by decide +kernel, by decide +kernel⟩, List.mem_of_getElem? (i := 1074) (by decide +kernel), List.mem_of_getElem? (i := 1572) (by decide +kernel), List.mem_of_getElem? (i := 1573) (by decide +kernel)⟩
theorem lw_p99 : lw_okq (⟨"UnderstudyShowModel", "lowestFor", "(II)I"⟩, 67) := ⟨⟨by decide +kernel, by decide +kernel⟩, List.mem_of_getElem? (i := 1074) (by decide +kernel), List.mem_of_getElem? (i := 1576) (by decide +kernel), List.mem_of_getElem? (i := 1577) (by decide +kernel)⟩
theorem lw_p100 : lw_okq (⟨"UnderstudyShowModel", "costsOf", "(II)I"⟩, 67) := ⟨⟨by decide +kernel, by decide +kernel⟩, List.mem_of_getElem? (i := 1074) (by decide +kernel), List.mem_of_getElem? (i := 1584) (by decide +kernel), List.mem_of_getElem? (i := 1585) (by decide +kernel)⟩
theorem lw_p101 : lw_okq (⟨"UnderstudyShowModel", "wouldRather", "(II)Z"⟩, 67) := ⟨⟨by decide +kernel, by decide +kernel⟩, List.mem_of_getElem? (i := 1074) (by decide +kernel), List.mem_of_getElem? (i := 1605) (by decide +kernel), List.mem_of_getElem? (i := 1606) (by decide +kernel)⟩
theorem lw_p102 : lw_okq (⟨"UnderstudyShowModel", "sumCast", "()I"⟩, 67) := ⟨⟨by decide +kernel, by decide +kernel⟩, List.mem_of_getElem? (i := 1074) (by decide +kernel), List.mem_of_getElem? (i := 1613) (by decide +kernel), List.mem_of_getElem? (i := 1614) (by decide +kernel)⟩
theorem lw_p103 : lw_okq (⟨"UnderstudyShowModel", "standsAll", "()I"⟩, 67) := ⟨⟨by decide +kernel, by decide +kernel⟩, List.mem_of_getElem? (i := 1074) (by decide +kernel), List.mem_of_getElem? (i := 1617) (by decide +kernel), List.mem_of_getElem? (i := 1618) (by decide +kernel)⟩
theorem lw_p104 : lw_okq (⟨"UnderstudyShowModel", "seenAs", "(II)I"⟩, 67) := ⟨⟨by decide +kernel, by decide +kernel⟩, List.mem_of_getElem? (i := 1074) (by decide +kernel), List.mem_of_getElem? (i := 1645) (by decide +kernel), List.mem_of_getElem? (i := 1646) (by decide +kernel)⟩
theorem lw_p105 : lw_okq (⟨"UnderstudyShowModel", "copiesStill", "()V"⟩, 67) := ⟨⟨by decide +kernel, by decide +kernel⟩, List.mem_of_getElem? (i := 1074) (by decide +kernel), List.mem_of_getElem? (i := 1657) (by decide +kernel), List.mem_of_getElem? (i := 1658) (by decide +kernel)⟩
theorem lw_p106 : lw_okq (⟨"UnderstudyShowModel", "isChanged", "()Z"⟩, 67) := ⟨⟨by decide +kernel, by decide +kernel⟩, List.mem_of_getElem? (i := 1074) (by decide +kernel), List.mem_of_getElem? (i := 1661) (by decide +kernel), List.mem_of_getElem? (i := 1662) (by decide +kernel)⟩
theorem lw_p107 : lw_okq (⟨"UnderstudyShowModel", "pairAlike", "()I"⟩, 67) := ⟨⟨by decide +kernel, by decide +kernel⟩, List.mem_of_getElem? (i := 1074) (by decide +kernel), List.mem_of_getElem? (i := 1676) (by decide +kernel), List.mem_of_getElem? (i := 1677) (by decide +kernel)⟩
theorem lw_p108 : lw_okq (⟨"UnderstudyShowModel", "whoBits", "(I)I"⟩, 67) := ⟨⟨by decide +kernel, by decide +kernel⟩, List.mem_of_getElem? (i := 1074) (by decide +kernel), List.mem_of_getElem? (i := 1712) (by decide +kernel), List.mem_of_getElem? (i := 1713) (by decide +kernel)⟩
theorem lw_p109 : lw_okq (⟨"UnderstudyShowModel", "apartAll", "()I"⟩, 67) := ⟨⟨by decide +kernel, by decide +kernel⟩, List.mem_of_getElem? (i := 1074) (by decide +kernel), List.mem_of_getElem? (i := 1732) (by decide +kernel), List.mem_of_getElem? (i := 1733) (by decide +kernel)⟩
def lw_privs_7 : List (MethodName × Nat) := [(⟨"UnderstudyShowModel", "ends", "(I)V"⟩, 67), (⟨"UnderstudyShowModel", "isFree", "(III)Z"⟩, 67), (⟨"UnderstudyShowModel", "with", "(III)I"⟩, 67), (⟨"UnderstudyShowModel", "lowestFor", "(II)I"⟩, 67), (⟨"UnderstudyShowModel", "costsOf", "(II)I"⟩, 67), (⟨"UnderstudyShowModel", "wouldRather", "(II)Z"⟩, 67), (⟨"UnderstudyShowModel", "sumCast", "()I"⟩, 67), (⟨"UnderstudyShowModel", "standsAll", "()I"⟩, 67), (⟨"UnderstudyShowModel", "seenAs", "(II)I"⟩, 67), (⟨"UnderstudyShowModel", "copiesStill", "()V"⟩, 67), (⟨"UnderstudyShowModel", "isChanged", "()Z"⟩, 67), (⟨"UnderstudyShowModel", "pairAlike", "()I"⟩, 67), (⟨"UnderstudyShowModel", "whoBits", "(I)I"⟩, 67), (⟨"UnderstudyShowModel", "apartAll", "()I"⟩, 67)]
theorem lw_r7 : ∀ q ∈ lw_privs_7, lw_okq q := List.forall_mem_cons.mpr ⟨lw_p96, List.forall_mem_cons.mpr ⟨lw_p97, List.forall_mem_cons.mpr ⟨lw_p98, List.forall_mem_cons.mpr ⟨lw_p99, List.forall_mem_cons.mpr ⟨lw_p100, List.forall_mem_cons.mpr ⟨lw_p101, List.forall_mem_cons.mpr ⟨lw_p102, List.forall_mem_cons.mpr ⟨lw_p103, List.forall_mem_cons.mpr ⟨lw_p104, List.forall_mem_cons.mpr ⟨lw_p105, List.forall_mem_cons.mpr ⟨lw_p106, List.forall_mem_cons.mpr ⟨lw_p107, List.forall_mem_cons.mpr ⟨lw_p108, List.forall_mem_cons.mpr ⟨lw_p109, fun _ h => absurd h List.not_mem_nil⟩⟩⟩⟩⟩⟩⟩⟩⟩⟩⟩⟩⟩⟩
def lw_privs : List (MethodName × Nat) := lw_privs_1 ++ (lw_privs_2 ++ (lw_privs_3 ++ (lw_privs_4 ++ (lw_privs_5 ++ (lw_privs_6 ++ (lw_privs_7))))))
def lw_tbl : List Cond := k2_sels lw_privs ++ tables_1
theorem lw_privs_ok : ∀ q ∈ lw_privs, lw_okq q := by
  show ∀ q ∈ lw_privs_1 ++ (lw_privs_2 ++ (lw_privs_3 ++ (lw_privs_4 ++ (lw_privs_5 ++ (lw_privs_6 ++ (lw_privs_7)))))), lw_okq q
  exact List.forall_mem_append.mpr ⟨lw_r1, List.forall_mem_append.mpr ⟨lw_r2, List.forall_mem_append.mpr ⟨lw_r3, List.forall_mem_append.mpr ⟨lw_r4, List.forall_mem_append.mpr ⟨lw_r5, List.forall_mem_append.mpr ⟨lw_r6, lw_r7⟩⟩⟩⟩⟩⟩

def RX0 : String := "UnderstudyShow$Cast"
def TX0 : u_T := fun k => match k with
  | 0 => ("UnderstudyShow$Cast", "who", "[I", true)
  | 1 => ("UnderstudyShow$Cast", "as", "[I", true)
  | 2 => ("UnderstudyShow$Cast", "filled", "I", false)
  | _ => ("UnderstudyShow$Cast", "stands", "I", false)
def tyX0 : Nat → FieldType := fun k => match k with
  | 0 => .array .int
  | 1 => .array .int
  | 2 => .int
  | _ => .int
theorem nmX0 : ∀ a, a < 4 → ∀ b, b < 4 → a ≠ b → (TX0 a).2.1 ≠ (TX0 b).2.1 := by decide +kernel
theorem tyX0_ok : ∀ k, k < 4 → parseFieldDescriptor (TX0 k).2.2.1 = some (tyX0 k) := by decide +kernel
abbrev cX0_init : ByteArray := prog_2_method_1_code
def yX0_init : MethodName := ⟨RX0, "<init>", "()V"⟩
abbrev cX0_fill : ByteArray := prog_2_method_2_code
def yX0_fill : MethodName := ⟨RX0, "fill", "(LUnderstudyShow$Script;LUnderstudyShow$State;)V"⟩
abbrev cX0_fillPart : ByteArray := prog_2_method_3_code
def yX0_fillPart : MethodName := ⟨RX0, "fillPart", "(LUnderstudyShow$Script;LUnderstudyShow$State;I)V"⟩
abbrev cX0_emptyParts : ByteArray := prog_2_method_4_code
def yX0_emptyParts : MethodName := ⟨RX0, "emptyParts", "(I)I"⟩
abbrev cX0_passDays : ByteArray := prog_2_method_5_code
def yX0_passDays : MethodName := ⟨RX0, "passDays", "(LUnderstudyShow$Script;LUnderstudyShow$State;IIZ)Z"⟩
abbrev cX0_playParts : ByteArray := prog_2_method_6_code
def yX0_playParts : MethodName := ⟨RX0, "playParts", "(LUnderstudyShow$Script;LUnderstudyShow$State;IZ)Z"⟩
abbrev cX0_playPart : ByteArray := prog_2_method_7_code
def yX0_playPart : MethodName := ⟨RX0, "playPart", "(LUnderstudyShow$Script;LUnderstudyShow$State;IZ)V"⟩
abbrev cX0_isDogOut : ByteArray := prog_2_method_8_code
def yX0_isDogOut : MethodName := ⟨RX0, "isDogOut", "(LUnderstudyShow$Script;LUnderstudyShow$State;II)Z"⟩
abbrev cX0_lot : ByteArray := prog_2_method_9_code
def yX0_lot : MethodName := ⟨RX0, "lot", "(II)I"⟩
abbrev cX0_stirred : ByteArray := prog_2_method_10_code
def yX0_stirred : MethodName := ⟨RX0, "stirred", "(II)I"⟩
def RX1 : String := "UnderstudyShow$Giving"
def TX1 : u_T := fun k => match k with
  | 0 => ("UnderstudyShow$Giving", "worths", "[I", true)
  | 1 => ("UnderstudyShow$Giving", "sets", "[I", true)
  | 2 => ("UnderstudyShow$Giving", "mosts", "[I", true)
  | 3 => ("UnderstudyShow$Giving", "people", "I", false)
  | _ => ("UnderstudyShow$Giving", "parts", "I", false)
def tyX1 : Nat → FieldType := fun k => match k with
  | 0 => .array .int
  | 1 => .array .int
  | 2 => .array .int
  | 3 => .int
  | _ => .int
theorem nmX1 : ∀ a, a < 5 → ∀ b, b < 5 → a ≠ b → (TX1 a).2.1 ≠ (TX1 b).2.1 := by decide +kernel
theorem tyX1_ok : ∀ k, k < 5 → parseFieldDescriptor (TX1 k).2.2.1 = some (tyX1 k) := by decide +kernel
abbrev cX1_init : ByteArray := prog_3_method_1_code
def yX1_init : MethodName := ⟨RX1, "<init>", "()V"⟩
abbrev cX1_begin : ByteArray := prog_3_method_2_code
def yX1_begin : MethodName := ⟨RX1, "begin", "(LUnderstudyShow$Script;)V"⟩
abbrev cX1_put : ByteArray := prog_3_method_3_code
def yX1_put : MethodName := ⟨RX1, "put", "(III)V"⟩
abbrev cX1_tellWhoCan : ByteArray := prog_3_method_4_code
def yX1_tellWhoCan : MethodName := ⟨RX1, "tellWhoCan", "(LUnderstudyShow$Script;LUnderstudyShow$State;)V"⟩
abbrev cX1_tellAllWhoAreThere : ByteArray := prog_3_method_5_code
def yX1_tellAllWhoAreThere : MethodName := ⟨RX1, "tellAllWhoAreThere", "(LUnderstudyShow$Script;LUnderstudyShow$State;)V"⟩
abbrev cX1_tellStands : ByteArray := prog_3_method_6_code
def yX1_tellStands : MethodName := ⟨RX1, "tellStands", "(LUnderstudyShow$Script;LUnderstudyShow$State;I)V"⟩
abbrev cX1_canBe : ByteArray := prog_3_method_7_code
def yX1_canBe : MethodName := ⟨RX1, "canBe", "(III)Z"⟩
abbrev cX1_most : ByteArray := prog_3_method_8_code
def yX1_most : MethodName := ⟨RX1, "most", "()I"⟩
abbrev cX1_mostFrom : ByteArray := prog_3_method_9_code
def yX1_mostFrom : MethodName := ⟨RX1, "mostFrom", "(II)I"⟩
abbrev cX1_mostWith : ByteArray := prog_3_method_10_code
def yX1_mostWith : MethodName := ⟨RX1, "mostWith", "(III)I"⟩
abbrev cX1_toWhom : ByteArray := prog_3_method_11_code
def yX1_toWhom : MethodName := ⟨RX1, "toWhom", "(I)I"⟩
abbrev cX1_firstOfMost : ByteArray := prog_3_method_12_code
def yX1_firstOfMost : MethodName := ⟨RX1, "firstOfMost", "(II)I"⟩
abbrev cX1_howMany : ByteArray := prog_3_method_13_code
def yX1_howMany : MethodName := ⟨RX1, "howMany", "()I"⟩
abbrev cX1_greatestLeast : ByteArray := prog_3_method_14_code
def yX1_greatestLeast : MethodName := ⟨RX1, "greatestLeast", "()I"⟩
abbrev cX1_fewest : ByteArray := prog_3_method_15_code
def yX1_fewest : MethodName := ⟨RX1, "fewest", "()I"⟩
abbrev cX1_overAllWays : ByteArray := prog_3_method_16_code
def yX1_overAllWays : MethodName := ⟨RX1, "overAllWays", "(II)I"⟩
abbrev cX1_giveNext : ByteArray := prog_3_method_17_code
def yX1_giveNext : MethodName := ⟨RX1, "giveNext", "(III)V"⟩
abbrev cX1_further : ByteArray := prog_3_method_18_code
def yX1_further : MethodName := ⟨RX1, "further", "(III)I"⟩
abbrev cX1_better : ByteArray := prog_3_method_19_code
def yX1_better : MethodName := ⟨RX1, "better", "(III)I"⟩
def RX2 : String := "UnderstudyShow$Law"
def TX2 : u_T := fun k => match k with
  | 0 => ("UnderstudyShow$Law", "steps", "[I", true)
  | 1 => ("UnderstudyShow$Law", "starts", "[I", true)
  | 2 => ("UnderstudyShow$Law", "stack", "[I", true)
  | 3 => ("UnderstudyShow$Law", "sums", "I", false)
  | _ => ("UnderstudyShow$Law", "used", "I", false)
def tyX2 : Nat → FieldType := fun k => match k with
  | 0 => .array .int
  | 1 => .array .int
  | 2 => .array .int
  | 3 => .int
  | _ => .int
theorem nmX2 : ∀ a, a < 5 → ∀ b, b < 5 → a ≠ b → (TX2 a).2.1 ≠ (TX2 b).2.1 := by decide +kernel
theorem tyX2_ok : ∀ k, k < 5 → parseFieldDescriptor (TX2 k).2.2.1 = some (tyX2 k) := by decide +kernel
abbrev cX2_init : ByteArray := prog_4_method_1_code
def yX2_init : MethodName := ⟨RX2, "<init>", "()V"⟩
abbrev cX2_clear : ByteArray := prog_4_method_2_code
def yX2_clear : MethodName := ⟨RX2, "clear", "()V"⟩
abbrev cX2_put : ByteArray := prog_4_method_3_code
def yX2_put : MethodName := ⟨RX2, "put", "(I)V"⟩
abbrev cX2_endSum : ByteArray := prog_4_method_4_code
def yX2_endSum : MethodName := ⟨RX2, "endSum", "()V"⟩
abbrev cX2_setNumber : ByteArray := prog_4_method_5_code
def yX2_setNumber : MethodName := ⟨RX2, "setNumber", "(I)V"⟩
abbrev cX2_setNumberLess : ByteArray := prog_4_method_6_code
def yX2_setNumberLess : MethodName := ⟨RX2, "setNumberLess", "(III)V"⟩
abbrev cX2_worth : ByteArray := prog_4_method_7_code
def yX2_worth : MethodName := ⟨RX2, "worth", "([II)I"⟩
abbrev cX2_heldTo : ByteArray := prog_4_method_8_code
def yX2_heldTo : MethodName := ⟨RX2, "heldTo", "(JI)I"⟩
abbrev cX2_worthOfSum : ByteArray := prog_4_method_9_code
def yX2_worthOfSum : MethodName := ⟨RX2, "worthOfSum", "(I[I)J"⟩
abbrev cX2_joined : ByteArray := prog_4_method_10_code
def yX2_joined : MethodName := ⟨RX2, "joined", "(III)I"⟩
def RX3 : String := "UnderstudyShow$Past"
def TX3 : u_T := fun k => match k with
  | 0 => ("UnderstudyShow$Past", "states", "[LUnderstudyShow$State;", true)
  | 1 => ("UnderstudyShow$Past", "next", "I", false)
  | _ => ("UnderstudyShow$Past", "many", "I", false)
def tyX3 : Nat → FieldType := fun k => match k with
  | 0 => .array (.object "UnderstudyShow$State")
  | 1 => .int
  | _ => .int
theorem nmX3 : ∀ a, a < 3 → ∀ b, b < 3 → a ≠ b → (TX3 a).2.1 ≠ (TX3 b).2.1 := by decide +kernel
theorem tyX3_ok : ∀ k, k < 3 → parseFieldDescriptor (TX3 k).2.2.1 = some (tyX3 k) := by decide +kernel
abbrev cX3_init : ByteArray := prog_5_method_1_code
def yX3_init : MethodName := ⟨RX3, "<init>", "()V"⟩
abbrev cX3_clear : ByteArray := prog_5_method_2_code
def yX3_clear : MethodName := ⟨RX3, "clear", "()V"⟩
abbrev cX3_remember : ByteArray := prog_5_method_3_code
def yX3_remember : MethodName := ⟨RX3, "remember", "(LUnderstudyShow$State;)V"⟩
abbrev cX3_takeBack : ByteArray := prog_5_method_4_code
def yX3_takeBack : MethodName := ⟨RX3, "takeBack", "(LUnderstudyShow$State;)Z"⟩
def RX4 : String := "UnderstudyShow$Reader"
def TX4 : u_T := fun k => match k with
  | 0 => ("UnderstudyShow$Reader", "tokens", "LUnderstudyShow$Tokens;", true)
  | 1 => ("UnderstudyShow$Reader", "waiting", "[I", true)
  | 2 => ("UnderstudyShow$Reader", "waitingMany", "I", false)
  | 3 => ("UnderstudyShow$Reader", "at", "I", false)
  | 4 => ("UnderstudyShow$Reader", "fault", "I", false)
  | 5 => ("UnderstudyShow$Reader", "faultPlace", "I", false)
  | 6 => ("UnderstudyShow$Reader", "laterFault", "I", false)
  | _ => ("UnderstudyShow$Reader", "laterPlace", "I", false)
def tyX4 : Nat → FieldType := fun k => match k with
  | 0 => .object "UnderstudyShow$Tokens"
  | 1 => .array .int
  | 2 => .int
  | 3 => .int
  | 4 => .int
  | 5 => .int
  | 6 => .int
  | _ => .int
theorem nmX4 : ∀ a, a < 8 → ∀ b, b < 8 → a ≠ b → (TX4 a).2.1 ≠ (TX4 b).2.1 := by decide +kernel
theorem tyX4_ok : ∀ k, k < 8 → parseFieldDescriptor (TX4 k).2.2.1 = some (tyX4 k) := by decide +kernel
abbrev cX4_init : ByteArray := prog_6_method_1_code
def yX4_init : MethodName := ⟨RX4, "<init>", "()V"⟩
abbrev cX4_readText : ByteArray := prog_6_method_2_code
def yX4_readText : MethodName := ⟨RX4, "readText", "([BILUnderstudyShow$Script;)I"⟩
abbrev cX4_sort : ByteArray := prog_6_method_3_code
def yX4_sort : MethodName := ⟨RX4, "sort", "()I"⟩
abbrev cX4_fail : ByteArray := prog_6_method_4_code
def yX4_fail : MethodName := ⟨RX4, "fail", "(I)V"⟩
abbrev cX4_failLater : ByteArray := prog_6_method_5_code
def yX4_failLater : MethodName := ⟨RX4, "failLater", "(I)V"⟩
abbrev cX4_take : ByteArray := prog_6_method_6_code
def yX4_take : MethodName := ⟨RX4, "take", "()V"⟩
abbrev cX4_expect : ByteArray := prog_6_method_7_code
def yX4_expect : MethodName := ⟨RX4, "expect", "(I)V"⟩
abbrev cX4_readTell : ByteArray := prog_6_method_8_code
def yX4_readTell : MethodName := ⟨RX4, "readTell", "(LUnderstudyShow$Script;)V"⟩
abbrev cX4_readFigure : ByteArray := prog_6_method_9_code
def yX4_readFigure : MethodName := ⟨RX4, "readFigure", "(LUnderstudyShow$Script;Z)V"⟩
abbrev cX4_readName : ByteArray := prog_6_method_10_code
def yX4_readName : MethodName := ⟨RX4, "readName", "(LUnderstudyShow$Script;)J"⟩
abbrev cX4_readNumber : ByteArray := prog_6_method_11_code
def yX4_readNumber : MethodName := ⟨RX4, "readNumber", "(I)I"⟩
abbrev cX4_readLaw : ByteArray := prog_6_method_12_code
def yX4_readLaw : MethodName := ⟨RX4, "readLaw", "(LUnderstudyShow$Law;)V"⟩
abbrev cX4_readSum : ByteArray := prog_6_method_13_code
def yX4_readSum : MethodName := ⟨RX4, "readSum", "(LUnderstudyShow$Law;)V"⟩
abbrev cX4_readUnit : ByteArray := prog_6_method_14_code
def yX4_readUnit : MethodName := ⟨RX4, "readUnit", "(LUnderstudyShow$Law;)V"⟩
abbrev cX4_waitFor : ByteArray := prog_6_method_15_code
def yX4_waitFor : MethodName := ⟨RX4, "waitFor", "(I)V"⟩
abbrev cX4_rank : ByteArray := prog_6_method_16_code
def yX4_rank : MethodName := ⟨RX4, "rank", "(I)I"⟩
abbrev cX4_putWaiting : ByteArray := prog_6_method_17_code
def yX4_putWaiting : MethodName := ⟨RX4, "putWaiting", "(LUnderstudyShow$Law;I)V"⟩
def RX5 : String := "UnderstudyShow$Script"
def TX5 : u_T := fun k => match k with
  | 0 => ("UnderstudyShow$Script", "names", "[J", true)
  | 1 => ("UnderstudyShow$Script", "hours", "[I", true)
  | 2 => ("UnderstudyShow$Script", "kinds", "[I", true)
  | 3 => ("UnderstudyShow$Script", "sizes", "[I", true)
  | 4 => ("UnderstudyShow$Script", "partHours", "[I", true)
  | 5 => ("UnderstudyShow$Script", "partKinds", "[I", true)
  | 6 => ("UnderstudyShow$Script", "partSizes", "[I", true)
  | 7 => ("UnderstudyShow$Script", "laws", "[LUnderstudyShow$Law;", true)
  | 8 => ("UnderstudyShow$Script", "facts", "[I", true)
  | 9 => ("UnderstudyShow$Script", "people", "I", false)
  | 10 => ("UnderstudyShow$Script", "parts", "I", false)
  | 11 => ("UnderstudyShow$Script", "least", "I", false)
  | _ => ("UnderstudyShow$Script", "seed", "I", false)
def tyX5 : Nat → FieldType := fun k => match k with
  | 0 => .array .long
  | 1 => .array .int
  | 2 => .array .int
  | 3 => .array .int
  | 4 => .array .int
  | 5 => .array .int
  | 6 => .array .int
  | 7 => .array (.object "UnderstudyShow$Law")
  | 8 => .array .int
  | 9 => .int
  | 10 => .int
  | 11 => .int
  | _ => .int
theorem nmX5 : ∀ a, a < 13 → ∀ b, b < 13 → a ≠ b → (TX5 a).2.1 ≠ (TX5 b).2.1 := by decide +kernel
theorem tyX5_ok : ∀ k, k < 13 → parseFieldDescriptor (TX5 k).2.2.1 = some (tyX5 k) := by decide +kernel
abbrev cX5_init : ByteArray := prog_7_method_1_code
def yX5_init : MethodName := ⟨RX5, "<init>", "()V"⟩
abbrev cX5_clear : ByteArray := prog_7_method_2_code
def yX5_clear : MethodName := ⟨RX5, "clear", "()V"⟩
abbrev cX5_hasName : ByteArray := prog_7_method_3_code
def yX5_hasName : MethodName := ⟨RX5, "hasName", "(J)Z"⟩
abbrev cX5_addPerson : ByteArray := prog_7_method_4_code
def yX5_addPerson : MethodName := ⟨RX5, "addPerson", "(JIII)V"⟩
abbrev cX5_addPart : ByteArray := prog_7_method_5_code
def yX5_addPart : MethodName := ⟨RX5, "addPart", "(JIII)V"⟩
abbrev cX5_measure : ByteArray := prog_7_method_6_code
def yX5_measure : MethodName := ⟨RX5, "measure", "(ILUnderstudyShow$State;II)I"⟩
def RX6 : String := "UnderstudyShow$State"
def TX6 : u_T := fun k => match k with
  | 0 => ("UnderstudyShow$State", "hours", "[I", true)
  | 1 => ("UnderstudyShow$State", "partHours", "[I", true)
  | 2 => ("UnderstudyShow$State", "marks", "[I", true)
  | 3 => ("UnderstudyShow$State", "seen", "[I", true)
  | 4 => ("UnderstudyShow$State", "off", "I", false)
  | 5 => ("UnderstudyShow$State", "day", "I", false)
  | _ => ("UnderstudyShow$State", "dogs", "I", false)
def tyX6 : Nat → FieldType := fun k => match k with
  | 0 => .array .int
  | 1 => .array .int
  | 2 => .array .int
  | 3 => .array .int
  | 4 => .int
  | 5 => .int
  | _ => .int
theorem nmX6 : ∀ a, a < 7 → ∀ b, b < 7 → a ≠ b → (TX6 a).2.1 ≠ (TX6 b).2.1 := by decide +kernel
theorem tyX6_ok : ∀ k, k < 7 → parseFieldDescriptor (TX6 k).2.2.1 = some (tyX6 k) := by decide +kernel
abbrev cX6_init : ByteArray := prog_8_method_1_code
def yX6_init : MethodName := ⟨RX6, "<init>", "()V"⟩
abbrev cX6_begin : ByteArray := prog_8_method_2_code
def yX6_begin : MethodName := ⟨RX6, "begin", "(LUnderstudyShow$Script;)V"⟩
abbrev cX6_copyFrom : ByteArray := prog_8_method_3_code
def yX6_copyFrom : MethodName := ⟨RX6, "copyFrom", "(LUnderstudyShow$State;)V"⟩
abbrev cX6_isOff : ByteArray := prog_8_method_4_code
def yX6_isOff : MethodName := ⟨RX6, "isOff", "(I)Z"⟩
abbrev cX6_seenAs : ByteArray := prog_8_method_5_code
def yX6_seenAs : MethodName := ⟨RX6, "seenAs", "(II)I"⟩
abbrev cX6_seeAndMark : ByteArray := prog_8_method_6_code
def yX6_seeAndMark : MethodName := ⟨RX6, "seeAndMark", "(III)V"⟩
abbrev cX6_goNearer : ByteArray := prog_8_method_7_code
def yX6_goNearer : MethodName := ⟨RX6, "goNearer", "(II)V"⟩
def RX7 : String := "UnderstudyShow$Tokens"
def TX7 : u_T := fun k => match k with
  | 0 => ("UnderstudyShow$Tokens", "sorts", "[I", true)
  | 1 => ("UnderstudyShow$Tokens", "places", "[I", true)
  | 2 => ("UnderstudyShow$Tokens", "numbers", "[I", true)
  | _ => ("UnderstudyShow$Tokens", "spellings", "[J", true)
def tyX7 : Nat → FieldType := fun k => match k with
  | 0 => .array .int
  | 1 => .array .int
  | 2 => .array .int
  | _ => .array .long
theorem nmX7 : ∀ a, a < 4 → ∀ b, b < 4 → a ≠ b → (TX7 a).2.1 ≠ (TX7 b).2.1 := by decide +kernel
theorem tyX7_ok : ∀ k, k < 4 → parseFieldDescriptor (TX7 k).2.2.1 = some (tyX7 k) := by decide +kernel
abbrev cX7_init : ByteArray := prog_9_method_1_code
def yX7_init : MethodName := ⟨RX7, "<init>", "()V"⟩
abbrev cX7_cut : ByteArray := prog_9_method_2_code
def yX7_cut : MethodName := ⟨RX7, "cut", "([BI)V"⟩
abbrev cX7_byteAt : ByteArray := prog_9_method_3_code
def yX7_byteAt : MethodName := ⟨RX7, "byteAt", "([BII)I"⟩
abbrev cX7_isBlank : ByteArray := prog_9_method_4_code
def yX7_isBlank : MethodName := ⟨RX7, "isBlank", "(I)Z"⟩
abbrev cX7_isLetter : ByteArray := prog_9_method_5_code
def yX7_isLetter : MethodName := ⟨RX7, "isLetter", "(I)Z"⟩
abbrev cX7_isDigit : ByteArray := prog_9_method_6_code
def yX7_isDigit : MethodName := ⟨RX7, "isDigit", "(I)Z"⟩
abbrev cX7_behindBlanks : ByteArray := prog_9_method_7_code
def yX7_behindBlanks : MethodName := ⟨RX7, "behindBlanks", "([BII)I"⟩
abbrev cX7_cutOne : ByteArray := prog_9_method_8_code
def yX7_cutOne : MethodName := ⟨RX7, "cutOne", "([BIII)I"⟩
abbrev cX7_cutLetters : ByteArray := prog_9_method_9_code
def yX7_cutLetters : MethodName := ⟨RX7, "cutLetters", "([BIII)I"⟩
abbrev cX7_cutDigits : ByteArray := prog_9_method_10_code
def yX7_cutDigits : MethodName := ⟨RX7, "cutDigits", "([BIII)I"⟩
abbrev cX7_sortOf : ByteArray := prog_9_method_11_code
def yX7_sortOf : MethodName := ⟨RX7, "sortOf", "(J)I"⟩
abbrev cX7_spellingOf : ByteArray := prog_9_method_12_code
def yX7_spellingOf : MethodName := ⟨RX7, "spellingOf", "(I)J"⟩
def RX8 : String := "UnderstudyShow$Told"
def TX8 : u_T := fun k => match k with
  | 0 => ("UnderstudyShow$Told", "parts", "[I", true)
  | 1 => ("UnderstudyShow$Told", "worths", "[I", true)
  | 2 => ("UnderstudyShow$Told", "so", "[Z", true)
  | _ => ("UnderstudyShow$Told", "many", "I", false)
def tyX8 : Nat → FieldType := fun k => match k with
  | 0 => .array .int
  | 1 => .array .int
  | 2 => .array .boolean
  | _ => .int
theorem nmX8 : ∀ a, a < 4 → ∀ b, b < 4 → a ≠ b → (TX8 a).2.1 ≠ (TX8 b).2.1 := by decide +kernel
theorem tyX8_ok : ∀ k, k < 4 → parseFieldDescriptor (TX8 k).2.2.1 = some (tyX8 k) := by decide +kernel
abbrev cX8_init : ByteArray := prog_10_method_1_code
def yX8_init : MethodName := ⟨RX8, "<init>", "()V"⟩
abbrev cX8_clear : ByteArray := prog_10_method_2_code
def yX8_clear : MethodName := ⟨RX8, "clear", "()V"⟩
abbrev cX8_add : ByteArray := prog_10_method_3_code
def yX8_add : MethodName := ⟨RX8, "add", "(IIZ)I"⟩
abbrev cX8_whoIsLeft : ByteArray := prog_10_method_4_code
def yX8_whoIsLeft : MethodName := ⟨RX8, "whoIsLeft", "(ILUnderstudyShow$Script;LUnderstudyShow$State;)I"⟩
abbrev cX8_fits : ByteArray := prog_10_method_5_code
def yX8_fits : MethodName := ⟨RX8, "fits", "(ILUnderstudyShow$Script;LUnderstudyShow$State;I)Z"⟩
def RX9 : String := "UnderstudyShow"
def TX9 : u_T := fun k => match k with
  | 0 => ("UnderstudyShow", "tape", "[B", true)
  | 1 => ("UnderstudyShow", "tapeLength", "I", false)
  | 2 => ("UnderstudyShow", "reader", "LUnderstudyShow$Reader;", true)
  | 3 => ("UnderstudyShow", "latestPlace", "I", false)
  | 4 => ("UnderstudyShow", "script", "LUnderstudyShow$Script;", false)
  | 5 => ("UnderstudyShow", "draft", "LUnderstudyShow$Script;", false)
  | 6 => ("UnderstudyShow", "now", "LUnderstudyShow$State;", true)
  | 7 => ("UnderstudyShow", "maybe", "LUnderstudyShow$State;", true)
  | 8 => ("UnderstudyShow", "cast", "LUnderstudyShow$Cast;", true)
  | 9 => ("UnderstudyShow", "giving", "LUnderstudyShow$Giving;", true)
  | 10 => ("UnderstudyShow", "past", "LUnderstudyShow$Past;", true)
  | 11 => ("UnderstudyShow", "told", "LUnderstudyShow$Told;", true)
  | 12 => ("UnderstudyShow", "slots", "[LUnderstudyShow$State;", true)
  | _ => ("UnderstudyShow", "held", "[Z", true)
def tyX9 : Nat → FieldType := fun k => match k with
  | 0 => .array .byte
  | 1 => .int
  | 2 => .object "UnderstudyShow$Reader"
  | 3 => .int
  | 4 => .object "UnderstudyShow$Script"
  | 5 => .object "UnderstudyShow$Script"
  | 6 => .object "UnderstudyShow$State"
  | 7 => .object "UnderstudyShow$State"
  | 8 => .object "UnderstudyShow$Cast"
  | 9 => .object "UnderstudyShow$Giving"
  | 10 => .object "UnderstudyShow$Past"
  | 11 => .object "UnderstudyShow$Told"
  | 12 => .array (.object "UnderstudyShow$State")
  | _ => .array .boolean
theorem nmX9 : ∀ a, a < 14 → ∀ b, b < 14 → a ≠ b → (TX9 a).2.1 ≠ (TX9 b).2.1 := by decide +kernel
theorem tyX9_ok : ∀ k, k < 14 → parseFieldDescriptor (TX9 k).2.2.1 = some (tyX9 k) := by decide +kernel
abbrev cX9_init : ByteArray := prog_1_method_1_code
def yX9_init : MethodName := ⟨RX9, "<init>", "()V"⟩
abbrev cX9_feed : ByteArray := prog_1_method_2_code
def yX9_feed : MethodName := ⟨RX9, "feed", "(IIIII)I"⟩
abbrev cX9_putFourBytes : ByteArray := prog_1_method_3_code
def yX9_putFourBytes : MethodName := ⟨RX9, "putFourBytes", "(I)V"⟩
abbrev cX9_back : ByteArray := prog_1_method_4_code
def yX9_back : MethodName := ⟨RX9, "back", "(I)I"⟩
abbrev cX9_read : ByteArray := prog_1_method_5_code
def yX9_read : MethodName := ⟨RX9, "read", "()I"⟩
abbrev cX9_playDraft : ByteArray := prog_1_method_6_code
def yX9_playDraft : MethodName := ⟨RX9, "playDraft", "()V"⟩
abbrev cX9_place : ByteArray := prog_1_method_7_code
def yX9_place : MethodName := ⟨RX9, "place", "()I"⟩
abbrev cX9_isPerson : ByteArray := prog_1_method_8_code
def yX9_isPerson : MethodName := ⟨RX9, "isPerson", "(I)Z"⟩
abbrev cX9_isPart : ByteArray := prog_1_method_9_code
def yX9_isPart : MethodName := ⟨RX9, "isPart", "(I)Z"⟩
abbrev cX9_isHour : ByteArray := prog_1_method_10_code
def yX9_isHour : MethodName := ⟨RX9, "isHour", "(I)Z"⟩
abbrev cX9_isOneOfTwo : ByteArray := prog_1_method_11_code
def yX9_isOneOfTwo : MethodName := ⟨RX9, "isOneOfTwo", "(I)Z"⟩
abbrev cX9_hoursApart : ByteArray := prog_1_method_12_code
def yX9_hoursApart : MethodName := ⟨RX9, "hoursApart", "(II)I"⟩
abbrev cX9_laterHour : ByteArray := prog_1_method_13_code
def yX9_laterHour : MethodName := ⟨RX9, "laterHour", "(I)I"⟩
abbrev cX9_earlierHour : ByteArray := prog_1_method_14_code
def yX9_earlierHour : MethodName := ⟨RX9, "earlierHour", "(I)I"⟩
abbrev cX9_person : ByteArray := prog_1_method_15_code
def yX9_person : MethodName := ⟨RX9, "person", "(II)I"⟩
abbrev cX9_seenAsAny : ByteArray := prog_1_method_16_code
def yX9_seenAsAny : MethodName := ⟨RX9, "seenAsAny", "(I)I"⟩
abbrev cX9_part : ByteArray := prog_1_method_17_code
def yX9_part : MethodName := ⟨RX9, "part", "(II)I"⟩
abbrev cX9_dogsOfPart : ByteArray := prog_1_method_18_code
def yX9_dogsOfPart : MethodName := ⟨RX9, "dogsOfPart", "(I)I"⟩
abbrev cX9_tells : ByteArray := prog_1_method_19_code
def yX9_tells : MethodName := ⟨RX9, "tells", "(III)I"⟩
abbrev cX9_move : ByteArray := prog_1_method_20_code
def yX9_move : MethodName := ⟨RX9, "move", "(II)Z"⟩
abbrev cX9_write : ByteArray := prog_1_method_21_code
def yX9_write : MethodName := ⟨RX9, "write", "(II)Z"⟩
abbrev cX9_keepOff : ByteArray := prog_1_method_22_code
def yX9_keepOff : MethodName := ⟨RX9, "keepOff", "(IZ)Z"⟩
abbrev cX9_days : ByteArray := prog_1_method_23_code
def yX9_days : MethodName := ⟨RX9, "days", "(I)I"⟩
abbrev cX9_undo : ByteArray := prog_1_method_24_code
def yX9_undo : MethodName := ⟨RX9, "undo", "()Z"⟩
abbrev cX9_empty : ByteArray := prog_1_method_25_code
def yX9_empty : MethodName := ⟨RX9, "empty", "()I"⟩
abbrev cX9_standsOf : ByteArray := prog_1_method_26_code
def yX9_standsOf : MethodName := ⟨RX9, "standsOf", "(LUnderstudyShow$State;)I"⟩
abbrev cX9_rather : ByteArray := prog_1_method_27_code
def yX9_rather : MethodName := ⟨RX9, "rather", "(I)I"⟩
abbrev cX9_wouldRather : ByteArray := prog_1_method_28_code
def yX9_wouldRather : MethodName := ⟨RX9, "wouldRather", "(II)Z"⟩
abbrev cX9_standsIfAny : ByteArray := prog_1_method_29_code
def yX9_standsIfAny : MethodName := ⟨RX9, "standsIfAny", "(II)I"⟩
abbrev cX9_given : ByteArray := prog_1_method_30_code
def yX9_given : MethodName := ⟨RX9, "given", "(I)I"⟩
abbrev cX9_whole : ByteArray := prog_1_method_31_code
def yX9_whole : MethodName := ⟨RX9, "whole", "()I"⟩
abbrev cX9_costs : ByteArray := prog_1_method_32_code
def yX9_costs : MethodName := ⟨RX9, "costs", "(II)I"⟩
abbrev cX9_hoursToMove : ByteArray := prog_1_method_33_code
def yX9_hoursToMove : MethodName := ⟨RX9, "hoursToMove", "(II)I"⟩
abbrev cX9_ways : ByteArray := prog_1_method_34_code
def yX9_ways : MethodName := ⟨RX9, "ways", "()I"⟩
abbrev cX9_fairest : ByteArray := prog_1_method_35_code
def yX9_fairest : MethodName := ⟨RX9, "fairest", "()I"⟩
abbrev cX9_bestHour : ByteArray := prog_1_method_36_code
def yX9_bestHour : MethodName := ⟨RX9, "bestHour", "(II)I"⟩
abbrev cX9_trade : ByteArray := prog_1_method_37_code
def yX9_trade : MethodName := ⟨RX9, "trade", "(II)I"⟩
abbrev cX9_castWithout : ByteArray := prog_1_method_38_code
def yX9_castWithout : MethodName := ⟨RX9, "castWithout", "(I)LUnderstudyShow$Cast;"⟩
abbrev cX9_key : ByteArray := prog_1_method_39_code
def yX9_key : MethodName := ⟨RX9, "key", "()I"⟩
abbrev cX9_missed : ByteArray := prog_1_method_40_code
def yX9_missed : MethodName := ⟨RX9, "missed", "(I)I"⟩
abbrev cX9_crowd : ByteArray := prog_1_method_41_code
def yX9_crowd : MethodName := ⟨RX9, "crowd", "(I)I"⟩
abbrev cX9_howManyAt : ByteArray := prog_1_method_42_code
def yX9_howManyAt : MethodName := ⟨RX9, "howManyAt", "(I)I"⟩
abbrev cX9_habit : ByteArray := prog_1_method_43_code
def yX9_habit : MethodName := ⟨RX9, "habit", "(II)I"⟩
abbrev cX9_regular : ByteArray := prog_1_method_44_code
def yX9_regular : MethodName := ⟨RX9, "regular", "(II)I"⟩
abbrev cX9_settles : ByteArray := prog_1_method_45_code
def yX9_settles : MethodName := ⟨RX9, "settles", "()I"⟩
abbrev cX9_drift : ByteArray := prog_1_method_46_code
def yX9_drift : MethodName := ⟨RX9, "drift", "(II)I"⟩
abbrev cX9_meet : ByteArray := prog_1_method_47_code
def yX9_meet : MethodName := ⟨RX9, "meet", "(I)I"⟩
abbrev cX9_firstTwoAtOneHour : ByteArray := prog_1_method_48_code
def yX9_firstTwoAtOneHour : MethodName := ⟨RX9, "firstTwoAtOneHour", "(LUnderstudyShow$State;)I"⟩
abbrev cX9_away : ByteArray := prog_1_method_49_code
def yX9_away : MethodName := ⟨RX9, "away", "()I"⟩
abbrev cX9_then : ByteArray := prog_1_method_50_code
def yX9_then : MethodName := ⟨RX9, "then", "(III)I"⟩
abbrev cX9_marksIn : ByteArray := prog_1_method_51_code
def yX9_marksIn : MethodName := ⟨RX9, "marksIn", "(II)I"⟩
abbrev cX9_star : ByteArray := prog_1_method_52_code
def yX9_star : MethodName := ⟨RX9, "star", "(II)I"⟩
abbrev cX9_year : ByteArray := prog_1_method_53_code
def yX9_year : MethodName := ⟨RX9, "year", "(II)I"⟩
abbrev cX9_tell : ByteArray := prog_1_method_54_code
def yX9_tell : MethodName := ⟨RX9, "tell", "(IIZ)I"⟩
abbrev cX9_forget : ByteArray := prog_1_method_55_code
def yX9_forget : MethodName := ⟨RX9, "forget", "()I"⟩
abbrev cX9_who : ByteArray := prog_1_method_56_code
def yX9_who : MethodName := ⟨RX9, "who", "(II)I"⟩
abbrev cX9_ask : ByteArray := prog_1_method_57_code
def yX9_ask : MethodName := ⟨RX9, "ask", "(II)I"⟩
abbrev cX9_leftAtWorst : ByteArray := prog_1_method_58_code
def yX9_leftAtWorst : MethodName := ⟨RX9, "leftAtWorst", "(III)I"⟩
abbrev cX9_isSlot : ByteArray := prog_1_method_59_code
def yX9_isSlot : MethodName := ⟨RX9, "isSlot", "(I)Z"⟩
abbrev cX9_hold : ByteArray := prog_1_method_60_code
def yX9_hold : MethodName := ⟨RX9, "hold", "(I)Z"⟩
abbrev cX9_restore : ByteArray := prog_1_method_61_code
def yX9_restore : MethodName := ⟨RX9, "restore", "(I)Z"⟩
abbrev cX9_count : ByteArray := prog_1_method_62_code
def yX9_count : MethodName := ⟨RX9, "count", "(I)I"⟩
abbrev cX9_countOfCast : ByteArray := prog_1_method_63_code
def yX9_countOfCast : MethodName := ⟨RX9, "countOfCast", "(I)I"⟩
abbrev cX9_marksOfAll : ByteArray := prog_1_method_64_code
def yX9_marksOfAll : MethodName := ⟨RX9, "marksOfAll", "()I"⟩
abbrev cX9_slotsHeld : ByteArray := prog_1_method_65_code
def yX9_slotsHeld : MethodName := ⟨RX9, "slotsHeld", "()I"⟩
abbrev cX9_idlePeople : ByteArray := prog_1_method_66_code
def yX9_idlePeople : MethodName := ⟨RX9, "idlePeople", "()I"⟩
abbrev cX9_hoursApartInCast : ByteArray := prog_1_method_67_code
def yX9_hoursApartInCast : MethodName := ⟨RX9, "hoursApartInCast", "()I"⟩
def RX10 : String := "UnderstudyShowModel"
def TX10 : u_T := fun k => match k with
  | 0 => ("UnderstudyShowModel", "thrown", "I", false)
  | 1 => ("UnderstudyShowModel", "tape", "[B", true)
  | 2 => ("UnderstudyShowModel", "taped", "I", false)
  | 3 => ("UnderstudyShowModel", "text", "[B", true)
  | 4 => ("UnderstudyShowModel", "size", "I", false)
  | 5 => ("UnderstudyShowModel", "tKind", "[I", true)
  | 6 => ("UnderstudyShowModel", "tPlace", "[I", true)
  | 7 => ("UnderstudyShowModel", "tValue", "[I", true)
  | 8 => ("UnderstudyShowModel", "tName", "[J", true)
  | 9 => ("UnderstudyShowModel", "keys", "[J", true)
  | 10 => ("UnderstudyShowModel", "tokens", "I", false)
  | 11 => ("UnderstudyShowModel", "t", "I", false)
  | 12 => ("UnderstudyShowModel", "open", "I", false)
  | 13 => ("UnderstudyShowModel", "fault", "I", false)
  | 14 => ("UnderstudyShowModel", "faultPlace", "I", false)
  | 15 => ("UnderstudyShowModel", "worst", "I", false)
  | 16 => ("UnderstudyShowModel", "worstPlace", "I", false)
  | 17 => ("UnderstudyShowModel", "place", "I", false)
  | 18 => ("UnderstudyShowModel", "live", "I", false)
  | 19 => ("UnderstudyShowModel", "side", "I", false)
  | 20 => ("UnderstudyShowModel", "names", "I", false)
  | 21 => ("UnderstudyShowModel", "nameOf", "[J", true)
  | 22 => ("UnderstudyShowModel", "people", "[I", true)
  | 23 => ("UnderstudyShowModel", "hourTold", "[I", true)
  | 24 => ("UnderstudyShowModel", "kindOf", "[I", true)
  | 25 => ("UnderstudyShowModel", "sizeOf", "[I", true)
  | 26 => ("UnderstudyShowModel", "parts", "[I", true)
  | 27 => ("UnderstudyShowModel", "partTold", "[I", true)
  | 28 => ("UnderstudyShowModel", "partKind", "[I", true)
  | 29 => ("UnderstudyShowModel", "partSize", "[I", true)
  | 30 => ("UnderstudyShowModel", "atLeast", "[I", true)
  | 31 => ("UnderstudyShowModel", "seed", "[I", true)
  | 32 => ("UnderstudyShowModel", "lawFirst", "[I", true)
  | 33 => ("UnderstudyShowModel", "lawLast", "[I", true)
  | 34 => ("UnderstudyShowModel", "branches", "I", false)
  | 35 => ("UnderstudyShowModel", "hasTest", "[Z", true)
  | 36 => ("UnderstudyShowModel", "testFrom", "[I", true)
  | 37 => ("UnderstudyShowModel", "testMid", "[I", true)
  | 38 => ("UnderstudyShowModel", "testTo", "[I", true)
  | 39 => ("UnderstudyShowModel", "termTo", "[I", true)
  | 40 => ("UnderstudyShowModel", "codes", "I", false)
  | 41 => ("UnderstudyShowModel", "code", "[I", true)
  | 42 => ("UnderstudyShowModel", "codeInt", "[I", true)
  | 43 => ("UnderstudyShowModel", "waits", "[I", true)
  | 44 => ("UnderstudyShowModel", "waiting", "I", false)
  | 45 => ("UnderstudyShowModel", "variables", "[I", true)
  | 46 => ("UnderstudyShowModel", "pile", "[I", true)
  | 47 => ("UnderstudyShowModel", "isBroken", "Z", false)
  | 48 => ("UnderstudyShowModel", "now", "[I", true)
  | 49 => ("UnderstudyShowModel", "row", "[I", true)
  | 50 => ("UnderstudyShowModel", "lots", "I", false)
  | 51 => ("UnderstudyShowModel", "isStill", "Z", false)
  | 52 => ("UnderstudyShowModel", "castAs", "[I", true)
  | 53 => ("UnderstudyShowModel", "isWritten", "[Z", true)
  | 54 => ("UnderstudyShowModel", "hasDog", "[Z", true)
  | 55 => ("UnderstudyShowModel", "marksNow", "[I", true)
  | 56 => ("UnderstudyShowModel", "undos", "I", false)
  | 57 => ("UnderstudyShowModel", "history", "[I", true)
  | 58 => ("UnderstudyShowModel", "tableOf", "[I", true)
  | 59 => ("UnderstudyShowModel", "bestFrom", "[I", true)
  | 60 => ("UnderstudyShowModel", "hourAhead", "[I", true)
  | 61 => ("UnderstudyShowModel", "tolds", "I", false)
  | 62 => ("UnderstudyShowModel", "toldPart", "[I", true)
  | 63 => ("UnderstudyShowModel", "toldBy", "[I", true)
  | 64 => ("UnderstudyShowModel", "toldSo", "[Z", true)
  | 65 => ("UnderstudyShowModel", "isHeld", "[Z", true)
  | _ => ("UnderstudyShowModel", "heldRows", "[I", true)
def tyX10 : Nat → FieldType := fun k => match k with
  | 0 => .int
  | 1 => .array .byte
  | 2 => .int
  | 3 => .array .byte
  | 4 => .int
  | 5 => .array .int
  | 6 => .array .int
  | 7 => .array .int
  | 8 => .array .long
  | 9 => .array .long
  | 10 => .int
  | 11 => .int
  | 12 => .int
  | 13 => .int
  | 14 => .int
  | 15 => .int
  | 16 => .int
  | 17 => .int
  | 18 => .int
  | 19 => .int
  | 20 => .int
  | 21 => .array .long
  | 22 => .array .int
  | 23 => .array .int
  | 24 => .array .int
  | 25 => .array .int
  | 26 => .array .int
  | 27 => .array .int
  | 28 => .array .int
  | 29 => .array .int
  | 30 => .array .int
  | 31 => .array .int
  | 32 => .array .int
  | 33 => .array .int
  | 34 => .int
  | 35 => .array .boolean
  | 36 => .array .int
  | 37 => .array .int
  | 38 => .array .int
  | 39 => .array .int
  | 40 => .int
  | 41 => .array .int
  | 42 => .array .int
  | 43 => .array .int
  | 44 => .int
  | 45 => .array .int
  | 46 => .array .int
  | 47 => .boolean
  | 48 => .array .int
  | 49 => .array .int
  | 50 => .int
  | 51 => .boolean
  | 52 => .array .int
  | 53 => .array .boolean
  | 54 => .array .boolean
  | 55 => .array .int
  | 56 => .int
  | 57 => .array .int
  | 58 => .array .int
  | 59 => .array .int
  | 60 => .array .int
  | 61 => .int
  | 62 => .array .int
  | 63 => .array .int
  | 64 => .array .boolean
  | 65 => .array .boolean
  | _ => .array .int
theorem nmX10 : ∀ a, a < 67 → ∀ b, b < 67 → a ≠ b → (TX10 a).2.1 ≠ (TX10 b).2.1 := by decide +kernel
theorem tyX10_ok : ∀ k, k < 67 → parseFieldDescriptor (TX10 k).2.2.1 = some (tyX10 k) := by decide +kernel
abbrev cX10_init : ByteArray := prog_12_method_2_code
def yX10_init : MethodName := ⟨RX10, "<init>", "()V"⟩
abbrev cX10_feed : ByteArray := prog_12_method_3_code
def yX10_feed : MethodName := ⟨RX10, "feed", "(IIIII)I"⟩
abbrev cX10_put : ByteArray := prog_12_method_4_code
def yX10_put : MethodName := ⟨RX10, "put", "(I)V"⟩
abbrev cX10_back : ByteArray := prog_12_method_5_code
def yX10_back : MethodName := ⟨RX10, "back", "(I)I"⟩
abbrev cX10_byteAt : ByteArray := prog_12_method_6_code
def yX10_byteAt : MethodName := ⟨RX10, "byteAt", "(I)I"⟩
abbrev cX10_isDigit : ByteArray := prog_12_method_7_code
def yX10_isDigit : MethodName := ⟨RX10, "isDigit", "(I)Z"⟩
abbrev cX10_isLetter : ByteArray := prog_12_method_8_code
def yX10_isLetter : MethodName := ⟨RX10, "isLetter", "(I)Z"⟩
abbrev cX10_appends : ByteArray := prog_12_method_9_code
def yX10_appends : MethodName := ⟨RX10, "appends", "(JI)J"⟩
abbrev cX10_word : ByteArray := prog_12_method_10_code
def yX10_word : MethodName := ⟨RX10, "word", "(IIIIIII)J"⟩
abbrev cX10_token : ByteArray := prog_12_method_11_code
def yX10_token : MethodName := ⟨RX10, "token", "(IIIJ)V"⟩
abbrev cX10_cut : ByteArray := prog_12_method_12_code
def yX10_cut : MethodName := ⟨RX10, "cut", "()V"⟩
abbrev cX10_sign : ByteArray := prog_12_method_13_code
def yX10_sign : MethodName := ⟨RX10, "sign", "(III)I"⟩
abbrev cX10_is : ByteArray := prog_12_method_14_code
def yX10_is : MethodName := ⟨RX10, "is", "(I)Z"⟩
abbrev cX10_fail : ByteArray := prog_12_method_15_code
def yX10_fail : MethodName := ⟨RX10, "fail", "(I)V"⟩
abbrev cX10_wrong : ByteArray := prog_12_method_16_code
def yX10_wrong : MethodName := ⟨RX10, "wrong", "(II)V"⟩
abbrev cX10_goesOn : ByteArray := prog_12_method_17_code
def yX10_goesOn : MethodName := ⟨RX10, "goesOn", "()V"⟩
abbrev cX10_must : ByteArray := prog_12_method_18_code
def yX10_must : MethodName := ⟨RX10, "must", "(I)V"⟩
abbrev cX10_plain : ByteArray := prog_12_method_19_code
def yX10_plain : MethodName := ⟨RX10, "plain", "(I)V"⟩
abbrev cX10_read : ByteArray := prog_12_method_20_code
def yX10_read : MethodName := ⟨RX10, "read", "()I"⟩
abbrev cX10_place : ByteArray := prog_12_method_21_code
def yX10_place : MethodName := ⟨RX10, "place", "()I"⟩
abbrev cX10_roomFor : ByteArray := prog_12_method_22_code
def yX10_roomFor : MethodName := ⟨RX10, "roomFor", "(II)V"⟩
abbrev cX10_toldInt : ByteArray := prog_12_method_23_code
def yX10_toldInt : MethodName := ⟨RX10, "toldInt", "(II)I"⟩
abbrev cX10_tellOne : ByteArray := prog_12_method_24_code
def yX10_tellOne : MethodName := ⟨RX10, "tellOne", "()V"⟩
abbrev cX10_named : ByteArray := prog_12_method_25_code
def yX10_named : MethodName := ⟨RX10, "named", "()I"⟩
abbrev cX10_endsName : ByteArray := prog_12_method_26_code
def yX10_endsName : MethodName := ⟨RX10, "endsName", "(I)V"⟩
abbrev cX10_bounded : ByteArray := prog_12_method_27_code
def yX10_bounded : MethodName := ⟨RX10, "bounded", "(II)I"⟩
abbrev cX10_tellLaw : ByteArray := prog_12_method_28_code
def yX10_tellLaw : MethodName := ⟨RX10, "tellLaw", "(I)V"⟩
abbrev cX10_term : ByteArray := prog_12_method_29_code
def yX10_term : MethodName := ⟨RX10, "term", "()V"⟩
abbrev cX10_emit : ByteArray := prog_12_method_30_code
def yX10_emit : MethodName := ⟨RX10, "emit", "(II)V"⟩
abbrev cX10_comesOut : ByteArray := prog_12_method_31_code
def yX10_comesOut : MethodName := ⟨RX10, "comesOut", "(Z)V"⟩
abbrev cX10_expression : ByteArray := prog_12_method_32_code
def yX10_expression : MethodName := ⟨RX10, "expression", "()V"⟩
abbrev cX10_unit : ByteArray := prog_12_method_33_code
def yX10_unit : MethodName := ⟨RX10, "unit", "()V"⟩
abbrev cX10_termOf : ByteArray := prog_12_method_34_code
def yX10_termOf : MethodName := ⟨RX10, "termOf", "(II)I"⟩
abbrev cX10_in : ByteArray := prog_12_method_35_code
def yX10_in : MethodName := ⟨RX10, "in", "(III)Z"⟩
abbrev cX10_within : ByteArray := prog_12_method_36_code
def yX10_within : MethodName := ⟨RX10, "within", "(III)I"⟩
abbrev cX10_bits : ByteArray := prog_12_method_37_code
def yX10_bits : MethodName := ⟨RX10, "bits", "(I)I"⟩
abbrev cX10_off : ByteArray := prog_12_method_38_code
def yX10_off : MethodName := ⟨RX10, "off", "(II)I"⟩
abbrev cX10_roundOff : ByteArray := prog_12_method_39_code
def yX10_roundOff : MethodName := ⟨RX10, "roundOff", "(II)I"⟩
abbrev cX10_isPerson : ByteArray := prog_12_method_40_code
def yX10_isPerson : MethodName := ⟨RX10, "isPerson", "(I)Z"⟩
abbrev cX10_isPart : ByteArray := prog_12_method_41_code
def yX10_isPart : MethodName := ⟨RX10, "isPart", "(I)Z"⟩
abbrev cX10_isHour : ByteArray := prog_12_method_42_code
def yX10_isHour : MethodName := ⟨RX10, "isHour", "(I)Z"⟩
abbrev cX10_begins : ByteArray := prog_12_method_43_code
def yX10_begins : MethodName := ⟨RX10, "begins", "()V"⟩
abbrev cX10_keepsRow : ByteArray := prog_12_method_44_code
def yX10_keepsRow : MethodName := ⟨RX10, "keepsRow", "()V"⟩
abbrev cX10_copies : ByteArray := prog_12_method_45_code
def yX10_copies : MethodName := ⟨RX10, "copies", "()V"⟩
abbrev cX10_copiesStill : ByteArray := prog_12_method_46_code
def yX10_copiesStill : MethodName := ⟨RX10, "copiesStill", "()V"⟩
abbrev cX10_mixed : ByteArray := prog_12_method_47_code
def yX10_mixed : MethodName := ⟨RX10, "mixed", "(II)I"⟩
abbrev cX10_lotOf : ByteArray := prog_12_method_48_code
def yX10_lotOf : MethodName := ⟨RX10, "lotOf", "(I)I"⟩
abbrev cX10_looks : ByteArray := prog_12_method_49_code
def yX10_looks : MethodName := ⟨RX10, "looks", "(II)V"⟩
abbrev cX10_lawTells : ByteArray := prog_12_method_50_code
def yX10_lawTells : MethodName := ⟨RX10, "lawTells", "(II)I"⟩
abbrev cX10_standsOf : ByteArray := prog_12_method_51_code
def yX10_standsOf : MethodName := ⟨RX10, "standsOf", "(II)I"⟩
abbrev cX10_writesOf : ByteArray := prog_12_method_52_code
def yX10_writesOf : MethodName := ⟨RX10, "writesOf", "(II)I"⟩
abbrev cX10_marksOf : ByteArray := prog_12_method_53_code
def yX10_marksOf : MethodName := ⟨RX10, "marksOf", "(II)I"⟩
abbrev cX10_dogsOf : ByteArray := prog_12_method_54_code
def yX10_dogsOf : MethodName := ⟨RX10, "dogsOf", "(II)I"⟩
abbrev cX10_isOff : ByteArray := prog_12_method_55_code
def yX10_isOff : MethodName := ⟨RX10, "isOff", "(I)Z"⟩
abbrev cX10_casts : ByteArray := prog_12_method_56_code
def yX10_casts : MethodName := ⟨RX10, "casts", "()V"⟩
abbrev cX10_emptyBits : ByteArray := prog_12_method_57_code
def yX10_emptyBits : MethodName := ⟨RX10, "emptyBits", "()I"⟩
abbrev cX10_standsAll : ByteArray := prog_12_method_58_code
def yX10_standsAll : MethodName := ⟨RX10, "standsAll", "()I"⟩
abbrev cX10_castFor : ByteArray := prog_12_method_59_code
def yX10_castFor : MethodName := ⟨RX10, "castFor", "(I)I"⟩
abbrev cX10_towards : ByteArray := prog_12_method_60_code
def yX10_towards : MethodName := ⟨RX10, "towards", "(II)I"⟩
abbrev cX10_dayGoes : ByteArray := prog_12_method_61_code
def yX10_dayGoes : MethodName := ⟨RX10, "dayGoes", "()V"⟩
abbrev cX10_goes : ByteArray := prog_12_method_62_code
def yX10_goes : MethodName := ⟨RX10, "goes", "(I)V"⟩
abbrev cX10_seenAny : ByteArray := prog_12_method_63_code
def yX10_seenAny : MethodName := ⟨RX10, "seenAny", "(I)I"⟩
abbrev cX10_person : ByteArray := prog_12_method_64_code
def yX10_person : MethodName := ⟨RX10, "person", "(II)I"⟩
abbrev cX10_part : ByteArray := prog_12_method_65_code
def yX10_part : MethodName := ⟨RX10, "part", "(II)I"⟩
abbrev cX10_tells : ByteArray := prog_12_method_66_code
def yX10_tells : MethodName := ⟨RX10, "tells", "(III)I"⟩
abbrev cX10_records : ByteArray := prog_12_method_67_code
def yX10_records : MethodName := ⟨RX10, "records", "()V"⟩
abbrev cX10_does : ByteArray := prog_12_method_68_code
def yX10_does : MethodName := ⟨RX10, "does", "(II)V"⟩
abbrev cX10_move : ByteArray := prog_12_method_69_code
def yX10_move : MethodName := ⟨RX10, "move", "(II)Z"⟩
abbrev cX10_write : ByteArray := prog_12_method_70_code
def yX10_write : MethodName := ⟨RX10, "write", "(II)Z"⟩
abbrev cX10_keepOff : ByteArray := prog_12_method_71_code
def yX10_keepOff : MethodName := ⟨RX10, "keepOff", "(IZ)Z"⟩
abbrev cX10_isLong : ByteArray := prog_12_method_72_code
def yX10_isLong : MethodName := ⟨RX10, "isLong", "(I)Z"⟩
abbrev cX10_isSome : ByteArray := prog_12_method_73_code
def yX10_isSome : MethodName := ⟨RX10, "isSome", "(I)Z"⟩
abbrev cX10_days : ByteArray := prog_12_method_74_code
def yX10_days : MethodName := ⟨RX10, "days", "(I)I"⟩
abbrev cX10_undo : ByteArray := prog_12_method_75_code
def yX10_undo : MethodName := ⟨RX10, "undo", "()Z"⟩
abbrev cX10_empty : ByteArray := prog_12_method_76_code
def yX10_empty : MethodName := ⟨RX10, "empty", "()I"⟩
abbrev cX10_fillsStands : ByteArray := prog_12_method_77_code
def yX10_fillsStands : MethodName := ⟨RX10, "fillsStands", "(I)V"⟩
abbrev cX10_isFree : ByteArray := prog_12_method_78_code
def yX10_isFree : MethodName := ⟨RX10, "isFree", "(III)Z"⟩
abbrev cX10_with : ByteArray := prog_12_method_79_code
def yX10_with : MethodName := ⟨RX10, "with", "(III)I"⟩
abbrev cX10_ends : ByteArray := prog_12_method_80_code
def yX10_ends : MethodName := ⟨RX10, "ends", "(I)V"⟩
abbrev cX10_fillsGiven : ByteArray := prog_12_method_81_code
def yX10_fillsGiven : MethodName := ⟨RX10, "fillsGiven", "()V"⟩
abbrev cX10_lowestFor : ByteArray := prog_12_method_82_code
def yX10_lowestFor : MethodName := ⟨RX10, "lowestFor", "(II)I"⟩
abbrev cX10_given : ByteArray := prog_12_method_83_code
def yX10_given : MethodName := ⟨RX10, "given", "(I)I"⟩
abbrev cX10_costsOf : ByteArray := prog_12_method_84_code
def yX10_costsOf : MethodName := ⟨RX10, "costsOf", "(II)I"⟩
abbrev cX10_costs : ByteArray := prog_12_method_85_code
def yX10_costs : MethodName := ⟨RX10, "costs", "(II)I"⟩
abbrev cX10_whole : ByteArray := prog_12_method_86_code
def yX10_whole : MethodName := ⟨RX10, "whole", "()I"⟩
abbrev cX10_ways : ByteArray := prog_12_method_87_code
def yX10_ways : MethodName := ⟨RX10, "ways", "()I"⟩
abbrev cX10_fairest : ByteArray := prog_12_method_88_code
def yX10_fairest : MethodName := ⟨RX10, "fairest", "()I"⟩
abbrev cX10_wouldRather : ByteArray := prog_12_method_89_code
def yX10_wouldRather : MethodName := ⟨RX10, "wouldRather", "(II)Z"⟩
abbrev cX10_rather : ByteArray := prog_12_method_90_code
def yX10_rather : MethodName := ⟨RX10, "rather", "(I)I"⟩
abbrev cX10_sumCast : ByteArray := prog_12_method_91_code
def yX10_sumCast : MethodName := ⟨RX10, "sumCast", "()I"⟩
abbrev cX10_bestHour : ByteArray := prog_12_method_92_code
def yX10_bestHour : MethodName := ⟨RX10, "bestHour", "(II)I"⟩
abbrev cX10_trade : ByteArray := prog_12_method_93_code
def yX10_trade : MethodName := ⟨RX10, "trade", "(II)I"⟩
abbrev cX10_key : ByteArray := prog_12_method_94_code
def yX10_key : MethodName := ⟨RX10, "key", "()I"⟩
abbrev cX10_missed : ByteArray := prog_12_method_95_code
def yX10_missed : MethodName := ⟨RX10, "missed", "(I)I"⟩
abbrev cX10_crowd : ByteArray := prog_12_method_96_code
def yX10_crowd : MethodName := ⟨RX10, "crowd", "(I)I"⟩
abbrev cX10_seenAs : ByteArray := prog_12_method_97_code
def yX10_seenAs : MethodName := ⟨RX10, "seenAs", "(II)I"⟩
abbrev cX10_habit : ByteArray := prog_12_method_98_code
def yX10_habit : MethodName := ⟨RX10, "habit", "(II)I"⟩
abbrev cX10_regular : ByteArray := prog_12_method_99_code
def yX10_regular : MethodName := ⟨RX10, "regular", "(II)I"⟩
abbrev cX10_isChanged : ByteArray := prog_12_method_100_code
def yX10_isChanged : MethodName := ⟨RX10, "isChanged", "()Z"⟩
abbrev cX10_settles : ByteArray := prog_12_method_101_code
def yX10_settles : MethodName := ⟨RX10, "settles", "()I"⟩
abbrev cX10_drift : ByteArray := prog_12_method_102_code
def yX10_drift : MethodName := ⟨RX10, "drift", "(II)I"⟩
abbrev cX10_pairAlike : ByteArray := prog_12_method_103_code
def yX10_pairAlike : MethodName := ⟨RX10, "pairAlike", "()I"⟩
abbrev cX10_meet : ByteArray := prog_12_method_104_code
def yX10_meet : MethodName := ⟨RX10, "meet", "(I)I"⟩
abbrev cX10_away : ByteArray := prog_12_method_105_code
def yX10_away : MethodName := ⟨RX10, "away", "()I"⟩
abbrev cX10_then : ByteArray := prog_12_method_106_code
def yX10_then : MethodName := ⟨RX10, "then", "(III)I"⟩
abbrev cX10_marksIn : ByteArray := prog_12_method_107_code
def yX10_marksIn : MethodName := ⟨RX10, "marksIn", "(II)I"⟩
abbrev cX10_star : ByteArray := prog_12_method_108_code
def yX10_star : MethodName := ⟨RX10, "star", "(II)I"⟩
abbrev cX10_year : ByteArray := prog_12_method_109_code
def yX10_year : MethodName := ⟨RX10, "year", "(II)I"⟩
abbrev cX10_tell : ByteArray := prog_12_method_110_code
def yX10_tell : MethodName := ⟨RX10, "tell", "(IIZ)I"⟩
abbrev cX10_forget : ByteArray := prog_12_method_111_code
def yX10_forget : MethodName := ⟨RX10, "forget", "()I"⟩
abbrev cX10_whoBits : ByteArray := prog_12_method_112_code
def yX10_whoBits : MethodName := ⟨RX10, "whoBits", "(I)I"⟩
abbrev cX10_who : ByteArray := prog_12_method_113_code
def yX10_who : MethodName := ⟨RX10, "who", "(II)I"⟩
abbrev cX10_ask : ByteArray := prog_12_method_114_code
def yX10_ask : MethodName := ⟨RX10, "ask", "(II)I"⟩
abbrev cX10_hold : ByteArray := prog_12_method_115_code
def yX10_hold : MethodName := ⟨RX10, "hold", "(I)Z"⟩
abbrev cX10_restore : ByteArray := prog_12_method_116_code
def yX10_restore : MethodName := ⟨RX10, "restore", "(I)Z"⟩
abbrev cX10_apartAll : ByteArray := prog_12_method_117_code
def yX10_apartAll : MethodName := ⟨RX10, "apartAll", "()I"⟩
abbrev cX10_count : ByteArray := prog_12_method_118_code
def yX10_count : MethodName := ⟨RX10, "count", "(I)I"⟩
def RJ11 : String := "java/lang/Character"
def TJ11 : u_T := fun k => match k with
  | _ => ("", "", "", false)
def tyJ11 : Nat → FieldType := fun k => match k with
  | _ => .int
theorem nmJ11 : ∀ a, a < 0 → ∀ b, b < 0 → a ≠ b → (TJ11 a).2.1 ≠ (TJ11 b).2.1 := by decide +kernel
theorem tyJ11_ok : ∀ k, k < 0 → parseFieldDescriptor (TJ11 k).2.2.1 = some (tyJ11 k) := by decide +kernel
abbrev cJ11_isValidCodePoint_9a6ad : ByteArray := prog_13_method_11_code
def yJ11_isValidCodePoint_9a6ad : MethodName := ⟨RJ11, "isValidCodePoint", "(I)Z"⟩
abbrev cJ11_highSurrogate_5068e : ByteArray := prog_13_method_28_code
def yJ11_highSurrogate_5068e : MethodName := ⟨RJ11, "highSurrogate", "(I)C"⟩
abbrev cJ11_lowSurrogate_5068e : ByteArray := prog_13_method_29_code
def yJ11_lowSurrogate_5068e : MethodName := ⟨RJ11, "lowSurrogate", "(I)C"⟩
def RJ6 : String := "java/lang/Integer"
def TJ6 : u_T := fun k => match k with
  | _ => ("", "", "", false)
def tyJ6 : Nat → FieldType := fun k => match k with
  | _ => .int
theorem nmJ6 : ∀ a, a < 0 → ∀ b, b < 0 → a ≠ b → (TJ6 a).2.1 ≠ (TJ6 b).2.1 := by decide +kernel
theorem tyJ6_ok : ∀ k, k < 0 → parseFieldDescriptor (TJ6 k).2.2.1 = some (tyJ6 k) := by decide +kernel
abbrev cJ6_bitCount_0f7a4 : ByteArray := prog_14_method_49_code
def yJ6_bitCount_0f7a4 : MethodName := ⟨RJ6, "bitCount", "(I)I"⟩
def RJ9 : String := "java/lang/Math"
def TJ9 : u_T := fun k => match k with
  | _ => ("", "", "", false)
def tyJ9 : Nat → FieldType := fun k => match k with
  | _ => .int
theorem nmJ9 : ∀ a, a < 0 → ∀ b, b < 0 → a ≠ b → (TJ9 a).2.1 ≠ (TJ9 b).2.1 := by decide +kernel
theorem tyJ9_ok : ∀ k, k < 0 → parseFieldDescriptor (TJ9 k).2.2.1 = some (tyJ9 k) := by decide +kernel
abbrev cJ9_abs_0f7a4 : ByteArray := prog_15_method_59_code
def yJ9_abs_0f7a4 : MethodName := ⟨RJ9, "abs", "(I)I"⟩
abbrev cJ9_max_7cf53 : ByteArray := prog_15_method_65_code
def yJ9_max_7cf53 : MethodName := ⟨RJ9, "max", "(II)I"⟩
abbrev cJ9_max_f86c9 : ByteArray := prog_15_method_66_code
def yJ9_max_f86c9 : MethodName := ⟨RJ9, "max", "(JJ)J"⟩
abbrev cJ9_min_7cf53 : ByteArray := prog_15_method_69_code
def yJ9_min_7cf53 : MethodName := ⟨RJ9, "min", "(II)I"⟩
abbrev cJ9_min_f86c9 : ByteArray := prog_15_method_70_code
def yJ9_min_f86c9 : MethodName := ⟨RJ9, "min", "(JJ)J"⟩
def RJ0 : String := "java/lang/String"
def TJ0 : u_T := fun k => match k with
  | _ => ("", "", "", false)
def tyJ0 : Nat → FieldType := fun k => match k with
  | _ => .int
theorem nmJ0 : ∀ a, a < 0 → ∀ b, b < 0 → a ≠ b → (TJ0 a).2.1 ≠ (TJ0 b).2.1 := by decide +kernel
theorem tyJ0_ok : ∀ k, k < 0 → parseFieldDescriptor (TJ0 k).2.2.1 = some (tyJ0 k) := by decide +kernel
abbrev cJ0_length_8abf5 : ByteArray := prog_16_method_54_code
def yJ0_length_8abf5 : MethodName := ⟨RJ0, "length", "()I"⟩
abbrev cJ0_charAt_5068e : ByteArray := prog_16_method_56_code
def yJ0_charAt_5068e : MethodName := ⟨RJ0, "charAt", "(I)C"⟩
abbrev cJ0_indexOf_0f7a4 : ByteArray := prog_16_method_79_code
def yJ0_indexOf_0f7a4 : MethodName := ⟨RJ0, "indexOf", "(I)I"⟩
abbrev cJ0_indexOf_7cf53 : ByteArray := prog_16_method_80_code
def yJ0_indexOf_7cf53 : MethodName := ⟨RJ0, "indexOf", "(II)I"⟩
abbrev cJ0_coder_7d493 : ByteArray := prog_16_method_152_code
def yJ0_coder_7d493 : MethodName := ⟨RJ0, "coder", "()B"⟩
abbrev cJ0_isLatin1_aae02 : ByteArray := prog_16_method_154_code
def yJ0_isLatin1_aae02 : MethodName := ⟨RJ0, "isLatin1", "()Z"⟩
abbrev cJ0_checkIndex_df160 : ByteArray := prog_16_method_155_code
def yJ0_checkIndex_df160 : MethodName := ⟨RJ0, "checkIndex", "(II)V"⟩
abbrev cJ0_checkBoundsBeginEnd_23922 : ByteArray := prog_16_method_158_code
def yJ0_checkBoundsBeginEnd_23922 : MethodName := ⟨RJ0, "checkBoundsBeginEnd", "(III)V"⟩
def RJ1 : String := "java/lang/StringLatin1"
def TJ1 : u_T := fun k => match k with
  | _ => ("", "", "", false)
def tyJ1 : Nat → FieldType := fun k => match k with
  | _ => .int
theorem nmJ1 : ∀ a, a < 0 → ∀ b, b < 0 → a ≠ b → (TJ1 a).2.1 ≠ (TJ1 b).2.1 := by decide +kernel
theorem tyJ1_ok : ∀ k, k < 0 → parseFieldDescriptor (TJ1 k).2.2.1 = some (tyJ1 k) := by decide +kernel
abbrev cJ1_charAt_3b067 : ByteArray := prog_17_method_2_code
def yJ1_charAt_3b067 : MethodName := ⟨RJ1, "charAt", "([BI)C"⟩
abbrev cJ1_canEncode_9a6ad : ByteArray := prog_17_method_4_code
def yJ1_canEncode_9a6ad : MethodName := ⟨RJ1, "canEncode", "(I)Z"⟩
abbrev cJ1_indexOf_4cfef : ByteArray := prog_17_method_22_code
def yJ1_indexOf_4cfef : MethodName := ⟨RJ1, "indexOf", "([BIII)I"⟩
abbrev cJ1_indexOfChar_4cfef : ByteArray := prog_17_method_23_code
def yJ1_indexOfChar_4cfef : MethodName := ⟨RJ1, "indexOfChar", "([BIII)I"⟩
def RJ2 : String := "java/lang/StringUTF16"
def TJ2 : u_T := fun k => match k with
  | _ => ("", "", "", false)
def tyJ2 : Nat → FieldType := fun k => match k with
  | _ => .int
theorem nmJ2 : ∀ a, a < 0 → ∀ b, b < 0 → a ≠ b → (TJ2 a).2.1 ≠ (TJ2 b).2.1 := by decide +kernel
theorem tyJ2_ok : ∀ k, k < 0 → parseFieldDescriptor (TJ2 k).2.2.1 = some (tyJ2 k) := by decide +kernel
abbrev cJ2_getChar_3b067 : ByteArray := prog_18_method_5_code
def yJ2_getChar_3b067 : MethodName := ⟨RJ2, "getChar", "([BI)C"⟩
abbrev cJ2_length_9d52b : ByteArray := prog_18_method_6_code
def yJ2_length_9d52b : MethodName := ⟨RJ2, "length", "([B)I"⟩
abbrev cJ2_indexOf_4cfef : ByteArray := prog_18_method_40_code
def yJ2_indexOf_4cfef : MethodName := ⟨RJ2, "indexOf", "([BIII)I"⟩
abbrev cJ2_indexOfChar_4cfef : ByteArray := prog_18_method_47_code
def yJ2_indexOfChar_4cfef : MethodName := ⟨RJ2, "indexOfChar", "([BIII)I"⟩
abbrev cJ2_indexOfCharUnsafe_4cfef : ByteArray := prog_18_method_48_code
def yJ2_indexOfCharUnsafe_4cfef : MethodName := ⟨RJ2, "indexOfCharUnsafe", "([BIII)I"⟩
abbrev cJ2_indexOfSupplementary_4cfef : ByteArray := prog_18_method_49_code
def yJ2_indexOfSupplementary_4cfef : MethodName := ⟨RJ2, "indexOfSupplementary", "([BIII)I"⟩
abbrev cJ2_charAt_3b067 : ByteArray := prog_18_method_83_code
def yJ2_charAt_3b067 : MethodName := ⟨RJ2, "charAt", "([BI)C"⟩
abbrev cJ2_checkIndex_2214a : ByteArray := prog_18_method_91_code
def yJ2_checkIndex_2214a : MethodName := ⟨RJ2, "checkIndex", "(I[B)V"⟩
abbrev cJ2_checkBoundsBeginEnd_d044e : ByteArray := prog_18_method_93_code
def yJ2_checkBoundsBeginEnd_d044e : MethodName := ⟨RJ2, "checkBoundsBeginEnd", "(II[B)V"⟩
def RJ10 : String := "java/lang/System"
def TJ10 : u_T := fun k => match k with
  | _ => ("", "", "", false)
def tyJ10 : Nat → FieldType := fun k => match k with
  | _ => .int
theorem nmJ10 : ∀ a, a < 0 → ∀ b, b < 0 → a ≠ b → (TJ10 a).2.1 ≠ (TJ10 b).2.1 := by decide +kernel
theorem tyJ10_ok : ∀ k, k < 0 → parseFieldDescriptor (TJ10 k).2.2.1 = some (tyJ10 k) := by decide +kernel
def RJ3 : String := "jdk/internal/util/Preconditions"
def TJ3 : u_T := fun k => match k with
  | _ => ("", "", "", false)
def tyJ3 : Nat → FieldType := fun k => match k with
  | _ => .int
theorem nmJ3 : ∀ a, a < 0 → ∀ b, b < 0 → a ≠ b → (TJ3 a).2.1 ≠ (TJ3 b).2.1 := by decide +kernel
theorem tyJ3_ok : ∀ k, k < 0 → parseFieldDescriptor (TJ3 k).2.2.1 = some (tyJ3 k) := by decide +kernel
abbrev cJ3_checkIndex_8e157 : ByteArray := prog_20_method_11_code
def yJ3_checkIndex_8e157 : MethodName := ⟨RJ3, "checkIndex", "(IILjava/util/function/BiFunction;)I"⟩
abbrev cJ3_checkFromToIndex_8c36e : ByteArray := prog_20_method_12_code
def yJ3_checkFromToIndex_8c36e : MethodName := ⟨RJ3, "checkFromToIndex", "(IIILjava/util/function/BiFunction;)I"⟩
def RL : String := "UnderstudyShowLaw"
abbrev cL_law : ByteArray := code
def yL_law : MethodName := ⟨RL, "law", "([I)Z"⟩
