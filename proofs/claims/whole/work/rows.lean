section
-- ===== PART A: goes FIRST, ahead of the names: the tables' words, and 'selects' of the private methods out of them =====
/-- a private method of a class that the tables say can be made, by its rows of tables_1 -/
def lw_okq (q : MethodName × Nat) : Prop := (q.1.cls ≠ "java/lang/invoke/MethodHandle" ∧ q.1.cls ≠ "java/lang/invoke/VarHandle") ∧ Cond.instantiable q.1.cls q.2 ∈ tables_1 ∧ Cond.privateMethod q.1 ∈ tables_1 ∧ Cond.instanceMethod q.1 ∈ tables_1
theorem lw_p0 : lw_okq (⟨"GlenGames$Programme", "search", "(III)V"⟩, 13) := ⟨⟨by decide +kernel, by decide +kernel⟩, List.mem_of_getElem? (i := 24) (by decide +kernel), List.mem_of_getElem? (i := 323) (by decide +kernel), List.mem_of_getElem? (i := 324) (by decide +kernel)⟩
theorem lw_p1 : lw_okq (⟨"GlenGames$Programme", "keep", "(II)V"⟩, 13) := ⟨⟨by decide +kernel, by decide +kernel⟩, List.mem_of_getElem? (i := 24) (by decide +kernel), List.mem_of_getElem? (i := 327) (by decide +kernel), List.mem_of_getElem? (i := 328) (by decide +kernel)⟩
theorem lw_p2 : lw_okq (⟨"GlenGames$Programme", "searchBehind", "(IIII)V"⟩, 13) := ⟨⟨by decide +kernel, by decide +kernel⟩, List.mem_of_getElem? (i := 24) (by decide +kernel), List.mem_of_getElem? (i := 334) (by decide +kernel), List.mem_of_getElem? (i := 335) (by decide +kernel)⟩
theorem lw_p3 : lw_okq (⟨"GlenGames$Programme", "firstFit", "(II)I"⟩, 13) := ⟨⟨by decide +kernel, by decide +kernel⟩, List.mem_of_getElem? (i := 24) (by decide +kernel), List.mem_of_getElem? (i := 338) (by decide +kernel), List.mem_of_getElem? (i := 339) (by decide +kernel)⟩
theorem lw_p4 : lw_okq (⟨"GlenGames$Programme", "pushedBy", "(III)I"⟩, 13) := ⟨⟨by decide +kernel, by decide +kernel⟩, List.mem_of_getElem? (i := 24) (by decide +kernel), List.mem_of_getElem? (i := 342) (by decide +kernel), List.mem_of_getElem? (i := 343) (by decide +kernel)⟩
theorem lw_p5 : lw_okq (⟨"GlenGames", "areTaken", "(LGlenGames$Event;LGlenGames$Sheet;II)Z"⟩, 7) := ⟨⟨by decide +kernel, by decide +kernel⟩, List.mem_of_getElem? (i := 16) (by decide +kernel), List.mem_of_getElem? (i := 430) (by decide +kernel), List.mem_of_getElem? (i := 431) (by decide +kernel)⟩
theorem lw_p6 : lw_okq (⟨"GlenGames", "addAll", "(LGlenGames$Event;LGlenGames$Sheet;II)V"⟩, 7) := ⟨⟨by decide +kernel, by decide +kernel⟩, List.mem_of_getElem? (i := 16) (by decide +kernel), List.mem_of_getElem? (i := 438) (by decide +kernel), List.mem_of_getElem? (i := 439) (by decide +kernel)⟩
theorem lw_p7 : lw_okq (⟨"GlenGames", "isAsOf", "(I)Z"⟩, 7) := ⟨⟨by decide +kernel, by decide +kernel⟩, List.mem_of_getElem? (i := 16) (by decide +kernel), List.mem_of_getElem? (i := 446) (by decide +kernel), List.mem_of_getElem? (i := 447) (by decide +kernel)⟩
theorem lw_p8 : lw_okq (⟨"GlenGames$Board", "take", "(LGlenGames$Ledger;LGlenGames$Event;I)V"⟩, 5) := ⟨⟨by decide +kernel, by decide +kernel⟩, List.mem_of_getElem? (i := 163) (by decide +kernel), List.mem_of_getElem? (i := 458) (by decide +kernel), List.mem_of_getElem? (i := 459) (by decide +kernel)⟩
theorem lw_p9 : lw_okq (⟨"GlenGames$Board", "insert", "(II)V"⟩, 5) := ⟨⟨by decide +kernel, by decide +kernel⟩, List.mem_of_getElem? (i := 163) (by decide +kernel), List.mem_of_getElem? (i := 467) (by decide +kernel), List.mem_of_getElem? (i := 468) (by decide +kernel)⟩
theorem lw_p10 : lw_okq (⟨"GlenGames$Board", "joinJudges", "()V"⟩, 5) := ⟨⟨by decide +kernel, by decide +kernel⟩, List.mem_of_getElem? (i := 163) (by decide +kernel), List.mem_of_getElem? (i := 475) (by decide +kernel), List.mem_of_getElem? (i := 476) (by decide +kernel)⟩
theorem lw_p11 : lw_okq (⟨"GlenGames$Board", "rank", "(LGlenGames$Event;)V"⟩, 5) := ⟨⟨by decide +kernel, by decide +kernel⟩, List.mem_of_getElem? (i := 163) (by decide +kernel), List.mem_of_getElem? (i := 480) (by decide +kernel), List.mem_of_getElem? (i := 481) (by decide +kernel)⟩
theorem lw_p12 : lw_okq (⟨"GlenGames$Board", "howManyAheadOf", "(ILGlenGames$Event;)I"⟩, 5) := ⟨⟨by decide +kernel, by decide +kernel⟩, List.mem_of_getElem? (i := 163) (by decide +kernel), List.mem_of_getElem? (i := 484) (by decide +kernel), List.mem_of_getElem? (i := 485) (by decide +kernel)⟩
theorem lw_p13 : lw_okq (⟨"GlenGames$Board", "isAhead", "(IILGlenGames$Event;)Z"⟩, 5) := ⟨⟨by decide +kernel, by decide +kernel⟩, List.mem_of_getElem? (i := 163) (by decide +kernel), List.mem_of_getElem? (i := 488) (by decide +kernel), List.mem_of_getElem? (i := 489) (by decide +kernel)⟩
theorem lw_p14 : lw_okq (⟨"GlenGames$Board", "beatsAll", "(I)Z"⟩, 5) := ⟨⟨by decide +kernel, by decide +kernel⟩, List.mem_of_getElem? (i := 163) (by decide +kernel), List.mem_of_getElem? (i := 521) (by decide +kernel), List.mem_of_getElem? (i := 522) (by decide +kernel)⟩
theorem lw_p15 : lw_okq (⟨"GlenGames$Board", "judgesFor", "(II)I"⟩, 5) := ⟨⟨by decide +kernel, by decide +kernel⟩, List.mem_of_getElem? (i := 163) (by decide +kernel), List.mem_of_getElem? (i := 526) (by decide +kernel), List.mem_of_getElem? (i := 527) (by decide +kernel)⟩
def lw_privs_1 : List (MethodName × Nat) := [(⟨"GlenGames$Programme", "search", "(III)V"⟩, 13), (⟨"GlenGames$Programme", "keep", "(II)V"⟩, 13), (⟨"GlenGames$Programme", "searchBehind", "(IIII)V"⟩, 13), (⟨"GlenGames$Programme", "firstFit", "(II)I"⟩, 13), (⟨"GlenGames$Programme", "pushedBy", "(III)I"⟩, 13), (⟨"GlenGames", "areTaken", "(LGlenGames$Event;LGlenGames$Sheet;II)Z"⟩, 7), (⟨"GlenGames", "addAll", "(LGlenGames$Event;LGlenGames$Sheet;II)V"⟩, 7), (⟨"GlenGames", "isAsOf", "(I)Z"⟩, 7), (⟨"GlenGames$Board", "take", "(LGlenGames$Ledger;LGlenGames$Event;I)V"⟩, 5), (⟨"GlenGames$Board", "insert", "(II)V"⟩, 5), (⟨"GlenGames$Board", "joinJudges", "()V"⟩, 5), (⟨"GlenGames$Board", "rank", "(LGlenGames$Event;)V"⟩, 5), (⟨"GlenGames$Board", "howManyAheadOf", "(ILGlenGames$Event;)I"⟩, 5), (⟨"GlenGames$Board", "isAhead", "(IILGlenGames$Event;)Z"⟩, 5), (⟨"GlenGames$Board", "beatsAll", "(I)Z"⟩, 5), (⟨"GlenGames$Board", "judgesFor", "(II)I"⟩, 5)]
theorem lw_r1 : ∀ q ∈ lw_privs_1, lw_okq q := List.forall_mem_cons.mpr ⟨lw_p0, List.forall_mem_cons.mpr ⟨lw_p1, List.forall_mem_cons.mpr ⟨lw_p2, List.forall_mem_cons.mpr ⟨lw_p3, List.forall_mem_cons.mpr ⟨lw_p4, List.forall_mem_cons.mpr ⟨lw_p5, List.forall_mem_cons.mpr ⟨lw_p6, List.forall_mem_cons.mpr ⟨lw_p7, List.forall_mem_cons.mpr ⟨lw_p8, List.forall_mem_cons.mpr ⟨lw_p9, List.forall_mem_cons.mpr ⟨lw_p10, List.forall_mem_cons.mpr ⟨lw_p11, List.forall_mem_cons.mpr ⟨lw_p12, List.forall_mem_cons.mpr ⟨lw_p13, List.forall_mem_cons.mpr ⟨lw_p14, List.forall_mem_cons.mpr ⟨lw_p15, fun _ h => absurd h List.not_mem_nil⟩⟩⟩⟩⟩⟩⟩⟩⟩⟩⟩⟩⟩⟩⟩⟩
theorem lw_p16 : lw_okq (⟨"GlenGames$Board", "arePlacesAsLast", "()Z"⟩, 5) := ⟨⟨by decide +kernel, by decide +kernel⟩, List.mem_of_getElem? (i := 163) (by decide +kernel), List.mem_of_getElem? (i := 540) (by decide +kernel), List.mem_of_getElem? (i := 541) (by decide +kernel)⟩
theorem lw_p17 : lw_okq (⟨"GlenGames$Tape", "behindBlanks", "(I)I"⟩, 3) := ⟨⟨by decide +kernel, by decide +kernel⟩, List.mem_of_getElem? (i := 186) (by decide +kernel), List.mem_of_getElem? (i := 572) (by decide +kernel), List.mem_of_getElem? (i := 573) (by decide +kernel)⟩
theorem lw_p18 : lw_okq (⟨"GlenGames$Tape", "behindDigits", "(I)I"⟩, 3) := ⟨⟨by decide +kernel, by decide +kernel⟩, List.mem_of_getElem? (i := 186) (by decide +kernel), List.mem_of_getElem? (i := 576) (by decide +kernel), List.mem_of_getElem? (i := 577) (by decide +kernel)⟩
theorem lw_p19 : lw_okq (⟨"GlenGames$Tape", "numberOf", "(II)I"⟩, 3) := ⟨⟨by decide +kernel, by decide +kernel⟩, List.mem_of_getElem? (i := 186) (by decide +kernel), List.mem_of_getElem? (i := 580) (by decide +kernel), List.mem_of_getElem? (i := 581) (by decide +kernel)⟩
theorem lw_p20 : lw_okq (⟨"GlenGames", "winnings", "(LGlenGames$Event;I)I"⟩, 7) := ⟨⟨by decide +kernel, by decide +kernel⟩, List.mem_of_getElem? (i := 16) (by decide +kernel), List.mem_of_getElem? (i := 598) (by decide +kernel), List.mem_of_getElem? (i := 599) (by decide +kernel)⟩
theorem lw_p21 : lw_okq (⟨"GlenGames", "moveYards", "()I"⟩, 7) := ⟨⟨by decide +kernel, by decide +kernel⟩, List.mem_of_getElem? (i := 16) (by decide +kernel), List.mem_of_getElem? (i := 618) (by decide +kernel), List.mem_of_getElem? (i := 619) (by decide +kernel)⟩
theorem lw_p22 : lw_okq (⟨"GlenGames", "toldOf", "(LGlenGames$Event;I)I"⟩, 7) := ⟨⟨by decide +kernel, by decide +kernel⟩, List.mem_of_getElem? (i := 16) (by decide +kernel), List.mem_of_getElem? (i := 658) (by decide +kernel), List.mem_of_getElem? (i := 659) (by decide +kernel)⟩
theorem lw_p23 : lw_okq (⟨"GlenGamesModel", "isEvent", "(I)Z"⟩, 42) := ⟨⟨by decide +kernel, by decide +kernel⟩, List.mem_of_getElem? (i := 662) (by decide +kernel), List.mem_of_getElem? (i := 807) (by decide +kernel), List.mem_of_getElem? (i := 808) (by decide +kernel)⟩
theorem lw_p24 : lw_okq (⟨"GlenGamesModel", "layRow", "(I)I"⟩, 42) := ⟨⟨by decide +kernel, by decide +kernel⟩, List.mem_of_getElem? (i := 662) (by decide +kernel), List.mem_of_getElem? (i := 829) (by decide +kernel), List.mem_of_getElem? (i := 830) (by decide +kernel)⟩
theorem lw_p25 : lw_okq (⟨"GlenGamesModel", "goes", "(III)Z"⟩, 42) := ⟨⟨by decide +kernel, by decide +kernel⟩, List.mem_of_getElem? (i := 662) (by decide +kernel), List.mem_of_getElem? (i := 833) (by decide +kernel), List.mem_of_getElem? (i := 834) (by decide +kernel)⟩
theorem lw_p26 : lw_okq (⟨"GlenGamesModel", "isCalled", "(II)Z"⟩, 42) := ⟨⟨by decide +kernel, by decide +kernel⟩, List.mem_of_getElem? (i := 662) (by decide +kernel), List.mem_of_getElem? (i := 837) (by decide +kernel), List.mem_of_getElem? (i := 838) (by decide +kernel)⟩
theorem lw_p27 : lw_okq (⟨"GlenGamesModel", "keep", "(I)V"⟩, 42) := ⟨⟨by decide +kernel, by decide +kernel⟩, List.mem_of_getElem? (i := 662) (by decide +kernel), List.mem_of_getElem? (i := 841) (by decide +kernel), List.mem_of_getElem? (i := 842) (by decide +kernel)⟩
theorem lw_p28 : lw_okq (⟨"GlenGamesModel", "countsUp", "(I)Z"⟩, 42) := ⟨⟨by decide +kernel, by decide +kernel⟩, List.mem_of_getElem? (i := 662) (by decide +kernel), List.mem_of_getElem? (i := 845) (by decide +kernel), List.mem_of_getElem? (i := 846) (by decide +kernel)⟩
theorem lw_p29 : lw_okq (⟨"GlenGamesModel", "isGood", "(IIII)Z"⟩, 42) := ⟨⟨by decide +kernel, by decide +kernel⟩, List.mem_of_getElem? (i := 662) (by decide +kernel), List.mem_of_getElem? (i := 877) (by decide +kernel), List.mem_of_getElem? (i := 878) (by decide +kernel)⟩
theorem lw_p30 : lw_okq (⟨"GlenGamesModel", "put", "(IIII)V"⟩, 42) := ⟨⟨by decide +kernel, by decide +kernel⟩, List.mem_of_getElem? (i := 662) (by decide +kernel), List.mem_of_getElem? (i := 881) (by decide +kernel), List.mem_of_getElem? (i := 882) (by decide +kernel)⟩
theorem lw_p31 : lw_okq (⟨"GlenGamesModel", "markAll", "(II)V"⟩, 42) := ⟨⟨by decide +kernel, by decide +kernel⟩, List.mem_of_getElem? (i := 662) (by decide +kernel), List.mem_of_getElem? (i := 908) (by decide +kernel), List.mem_of_getElem? (i := 909) (by decide +kernel)⟩
def lw_privs_2 : List (MethodName × Nat) := [(⟨"GlenGames$Board", "arePlacesAsLast", "()Z"⟩, 5), (⟨"GlenGames$Tape", "behindBlanks", "(I)I"⟩, 3), (⟨"GlenGames$Tape", "behindDigits", "(I)I"⟩, 3), (⟨"GlenGames$Tape", "numberOf", "(II)I"⟩, 3), (⟨"GlenGames", "winnings", "(LGlenGames$Event;I)I"⟩, 7), (⟨"GlenGames", "moveYards", "()I"⟩, 7), (⟨"GlenGames", "toldOf", "(LGlenGames$Event;I)I"⟩, 7), (⟨"GlenGamesModel", "isEvent", "(I)Z"⟩, 42), (⟨"GlenGamesModel", "layRow", "(I)I"⟩, 42), (⟨"GlenGamesModel", "goes", "(III)Z"⟩, 42), (⟨"GlenGamesModel", "isCalled", "(II)Z"⟩, 42), (⟨"GlenGamesModel", "keep", "(I)V"⟩, 42), (⟨"GlenGamesModel", "countsUp", "(I)Z"⟩, 42), (⟨"GlenGamesModel", "isGood", "(IIII)Z"⟩, 42), (⟨"GlenGamesModel", "put", "(IIII)V"⟩, 42), (⟨"GlenGamesModel", "markAll", "(II)V"⟩, 42)]
theorem lw_r2 : ∀ q ∈ lw_privs_2, lw_okq q := List.forall_mem_cons.mpr ⟨lw_p16, List.forall_mem_cons.mpr ⟨lw_p17, List.forall_mem_cons.mpr ⟨lw_p18, List.forall_mem_cons.mpr ⟨lw_p19, List.forall_mem_cons.mpr ⟨lw_p20, List.forall_mem_cons.mpr ⟨lw_p21, List.forall_mem_cons.mpr ⟨lw_p22, List.forall_mem_cons.mpr ⟨lw_p23, List.forall_mem_cons.mpr ⟨lw_p24, List.forall_mem_cons.mpr ⟨lw_p25, List.forall_mem_cons.mpr ⟨lw_p26, List.forall_mem_cons.mpr ⟨lw_p27, List.forall_mem_cons.mpr ⟨lw_p28, List.forall_mem_cons.mpr ⟨lw_p29, List.forall_mem_cons.mpr ⟨lw_p30, List.forall_mem_cons.mpr ⟨lw_p31, fun _ h => absurd h List.not_mem_nil⟩⟩⟩⟩⟩⟩⟩⟩⟩⟩⟩⟩⟩⟩⟩⟩
theorem lw_p32 : lw_okq (⟨"GlenGamesModel", "markThrow", "(III)V"⟩, 42) := ⟨⟨by decide +kernel, by decide +kernel⟩, List.mem_of_getElem? (i := 662) (by decide +kernel), List.mem_of_getElem? (i := 912) (by decide +kernel), List.mem_of_getElem? (i := 913) (by decide +kernel)⟩
theorem lw_p33 : lw_okq (⟨"GlenGamesModel", "fairMark", "(II)I"⟩, 42) := ⟨⟨by decide +kernel, by decide +kernel⟩, List.mem_of_getElem? (i := 662) (by decide +kernel), List.mem_of_getElem? (i := 916) (by decide +kernel), List.mem_of_getElem? (i := 917) (by decide +kernel)⟩
theorem lw_p34 : lw_okq (⟨"GlenGamesModel", "markRace", "(III)V"⟩, 42) := ⟨⟨by decide +kernel, by decide +kernel⟩, List.mem_of_getElem? (i := 662) (by decide +kernel), List.mem_of_getElem? (i := 921) (by decide +kernel), List.mem_of_getElem? (i := 922) (by decide +kernel)⟩
theorem lw_p35 : lw_okq (⟨"GlenGamesModel", "markDance", "(III)V"⟩, 42) := ⟨⟨by decide +kernel, by decide +kernel⟩, List.mem_of_getElem? (i := 662) (by decide +kernel), List.mem_of_getElem? (i := 925) (by decide +kernel), List.mem_of_getElem? (i := 926) (by decide +kernel)⟩
theorem lw_p36 : lw_okq (⟨"GlenGamesModel", "placeAll", "(II)I"⟩, 42) := ⟨⟨by decide +kernel, by decide +kernel⟩, List.mem_of_getElem? (i := 662) (by decide +kernel), List.mem_of_getElem? (i := 933) (by decide +kernel), List.mem_of_getElem? (i := 934) (by decide +kernel)⟩
theorem lw_p37 : lw_okq (⟨"GlenGamesModel", "isAhead", "(III)Z"⟩, 42) := ⟨⟨by decide +kernel, by decide +kernel⟩, List.mem_of_getElem? (i := 662) (by decide +kernel), List.mem_of_getElem? (i := 937) (by decide +kernel), List.mem_of_getElem? (i := 938) (by decide +kernel)⟩
theorem lw_p38 : lw_okq (⟨"GlenGamesModel", "beats", "(II)Z"⟩, 42) := ⟨⟨by decide +kernel, by decide +kernel⟩, List.mem_of_getElem? (i := 662) (by decide +kernel), List.mem_of_getElem? (i := 949) (by decide +kernel), List.mem_of_getElem? (i := 950) (by decide +kernel)⟩
theorem lw_p39 : lw_okq (⟨"GlenGamesModel", "reads", "()I"⟩, 42) := ⟨⟨by decide +kernel, by decide +kernel⟩, List.mem_of_getElem? (i := 662) (by decide +kernel), List.mem_of_getElem? (i := 966) (by decide +kernel), List.mem_of_getElem? (i := 967) (by decide +kernel)⟩
theorem lw_p40 : lw_okq (⟨"GlenGamesModel", "number", "(I)I"⟩, 42) := ⟨⟨by decide +kernel, by decide +kernel⟩, List.mem_of_getElem? (i := 662) (by decide +kernel), List.mem_of_getElem? (i := 970) (by decide +kernel), List.mem_of_getElem? (i := 971) (by decide +kernel)⟩
theorem lw_p41 : lw_okq (⟨"GlenGamesModel", "next", "()I"⟩, 42) := ⟨⟨by decide +kernel, by decide +kernel⟩, List.mem_of_getElem? (i := 662) (by decide +kernel), List.mem_of_getElem? (i := 974) (by decide +kernel), List.mem_of_getElem? (i := 975) (by decide +kernel)⟩
theorem lw_p42 : lw_okq (⟨"GlenGamesModel", "wonOf", "(II)I"⟩, 42) := ⟨⟨by decide +kernel, by decide +kernel⟩, List.mem_of_getElem? (i := 662) (by decide +kernel), List.mem_of_getElem? (i := 987) (by decide +kernel), List.mem_of_getElem? (i := 988) (by decide +kernel)⟩
theorem lw_p43 : lw_okq (⟨"GlenGamesModel", "first", "(II)I"⟩, 42) := ⟨⟨by decide +kernel, by decide +kernel⟩, List.mem_of_getElem? (i := 662) (by decide +kernel), List.mem_of_getElem? (i := 991) (by decide +kernel), List.mem_of_getElem? (i := 992) (by decide +kernel)⟩
def lw_privs_3 : List (MethodName × Nat) := [(⟨"GlenGamesModel", "markThrow", "(III)V"⟩, 42), (⟨"GlenGamesModel", "fairMark", "(II)I"⟩, 42), (⟨"GlenGamesModel", "markRace", "(III)V"⟩, 42), (⟨"GlenGamesModel", "markDance", "(III)V"⟩, 42), (⟨"GlenGamesModel", "placeAll", "(II)I"⟩, 42), (⟨"GlenGamesModel", "isAhead", "(III)Z"⟩, 42), (⟨"GlenGamesModel", "beats", "(II)Z"⟩, 42), (⟨"GlenGamesModel", "reads", "()I"⟩, 42), (⟨"GlenGamesModel", "number", "(I)I"⟩, 42), (⟨"GlenGamesModel", "next", "()I"⟩, 42), (⟨"GlenGamesModel", "wonOf", "(II)I"⟩, 42), (⟨"GlenGamesModel", "first", "(II)I"⟩, 42)]
theorem lw_r3 : ∀ q ∈ lw_privs_3, lw_okq q := List.forall_mem_cons.mpr ⟨lw_p32, List.forall_mem_cons.mpr ⟨lw_p33, List.forall_mem_cons.mpr ⟨lw_p34, List.forall_mem_cons.mpr ⟨lw_p35, List.forall_mem_cons.mpr ⟨lw_p36, List.forall_mem_cons.mpr ⟨lw_p37, List.forall_mem_cons.mpr ⟨lw_p38, List.forall_mem_cons.mpr ⟨lw_p39, List.forall_mem_cons.mpr ⟨lw_p40, List.forall_mem_cons.mpr ⟨lw_p41, List.forall_mem_cons.mpr ⟨lw_p42, List.forall_mem_cons.mpr ⟨lw_p43, fun _ h => absurd h List.not_mem_nil⟩⟩⟩⟩⟩⟩⟩⟩⟩⟩⟩⟩
def lw_privs : List (MethodName × Nat) := lw_privs_1 ++ (lw_privs_2 ++ (lw_privs_3))
def lw_tbl : List Cond := k2_sels lw_privs ++ tables_1
theorem lw_privs_ok : ∀ q ∈ lw_privs, lw_okq q := by
  show ∀ q ∈ lw_privs_1 ++ (lw_privs_2 ++ (lw_privs_3)), lw_okq q
  exact List.forall_mem_append.mpr ⟨lw_r1, List.forall_mem_append.mpr ⟨lw_r2, lw_r3⟩⟩
end
section
theorem goodIn_r {big : List Cond} (ws : List Cond) (ps : List Nat) (hp : ws = ps.filterMap (fun i => big[i]?)) (h : ws.all goodWord = true) : GoodIn big ws := by
  intro w hw
  have h1 := List.all_eq_true.mp h w hw
  rw [hp] at hw
  obtain ⟨i, -, hi⟩ := List.mem_filterMap.mp hw
  have hm : w ∈ big := by first | exact List.mem_of_getElem? hi | exact List.getElem?_mem hi
  exact ⟨hm, good_of_word h1⟩
theorem goodIn_app {big a b : List Cond} (ha : GoodIn big a) (hb : GoodIn big b) : GoodIn big (a ++ b) := fun w h => (List.mem_append.mp h).elim (ha w) (hb w)
theorem goodIn_ca {big a b : List Cond} {c : Cond} (ha : GoodIn big (c :: a)) (hb : GoodIn big b) : GoodIn big (c :: (a ++ b)) := fun w h => (List.mem_cons.mp h).elim (fun e => ha w (List.mem_cons.mpr (Or.inl e))) (fun h => (List.mem_append.mp h).elim (fun h => ha w (List.mem_cons.mpr (Or.inr h))) (hb w))
theorem goodIn_sub {big ws : List Cond} (hm : ∀ w ∈ ws, w ∈ big) (h : ws.all goodWord = true) : GoodIn big ws := fun w hw => ⟨hm w hw, good_of_word (List.all_eq_true.mp h w hw)⟩

def RX0 : String := "GlenGames$Board"
def TX0 : u_T := fun k => match k with
  | 0 => ("GlenGames$Board", "places", "[I", true)
  | 1 => ("GlenGames$Board", "marks", "[I", true)
  | 2 => ("GlenGames$Board", "counted", "[I", true)
  | 3 => ("GlenGames$Board", "judged", "[I", true)
  | _ => ("GlenGames$Board", "lastPlaces", "[I", true)
def tyX0 : Nat → FieldType := fun k => match k with
  | 0 => .array .int
  | 1 => .array .int
  | 2 => .array .int
  | 3 => .array .int
  | _ => .array .int
abbrev wsX00 : List Cond := u_ws RX0 TX0 5
theorem nmX0 : ∀ a, a < 5 → ∀ b, b < 5 → a ≠ b → (TX0 a).2.1 ≠ (TX0 b).2.1 := by decide +kernel
theorem tyX0_ok : ∀ k, k < 5 → parseFieldDescriptor (TX0 k).2.2.1 = some (tyX0 k) := by decide +kernel
abbrev cX0_init : ByteArray := prog_2_method_1_code
def yX0_init : MethodName := ⟨RX0, "<init>", "()V"⟩
abbrev cX0_read : ByteArray := prog_2_method_2_code
def yX0_read : MethodName := ⟨RX0, "read", "(LGlenGames$Ledger;LGlenGames$Event;I)V"⟩
abbrev cX0_take : ByteArray := prog_2_method_3_code
def yX0_take : MethodName := ⟨RX0, "take", "(LGlenGames$Ledger;LGlenGames$Event;I)V"⟩
abbrev cX0_insert : ByteArray := prog_2_method_4_code
def yX0_insert : MethodName := ⟨RX0, "insert", "(II)V"⟩
abbrev cX0_joinJudges : ByteArray := prog_2_method_5_code
def yX0_joinJudges : MethodName := ⟨RX0, "joinJudges", "()V"⟩
abbrev cX0_rank : ByteArray := prog_2_method_6_code
def yX0_rank : MethodName := ⟨RX0, "rank", "(LGlenGames$Event;)V"⟩
abbrev cX0_howManyAheadOf : ByteArray := prog_2_method_7_code
def yX0_howManyAheadOf : MethodName := ⟨RX0, "howManyAheadOf", "(ILGlenGames$Event;)I"⟩
abbrev cX0_isAhead : ByteArray := prog_2_method_8_code
def yX0_isAhead : MethodName := ⟨RX0, "isAhead", "(IILGlenGames$Event;)Z"⟩
abbrev cX0_hasMark : ByteArray := prog_2_method_9_code
def yX0_hasMark : MethodName := ⟨RX0, "hasMark", "(I)Z"⟩
abbrev cX0_markOf : ByteArray := prog_2_method_10_code
def yX0_markOf : MethodName := ⟨RX0, "markOf", "(II)I"⟩
abbrev cX0_isTold : ByteArray := prog_2_method_11_code
def yX0_isTold : MethodName := ⟨RX0, "isTold", "(I)Z"⟩
abbrev cX0_howManyTold : ByteArray := prog_2_method_12_code
def yX0_howManyTold : MethodName := ⟨RX0, "howManyTold", "()I"⟩
abbrev cX0_howManyAt : ByteArray := prog_2_method_13_code
def yX0_howManyAt : MethodName := ⟨RX0, "howManyAt", "(II)I"⟩
abbrev cX0_leastParadox : ByteArray := prog_2_method_14_code
def yX0_leastParadox : MethodName := ⟨RX0, "leastParadox", "()I"⟩
abbrev cX0_beatsAll : ByteArray := prog_2_method_15_code
def yX0_beatsAll : MethodName := ⟨RX0, "beatsAll", "(I)Z"⟩
abbrev cX0_judgesFor : ByteArray := prog_2_method_16_code
def yX0_judgesFor : MethodName := ⟨RX0, "judgesFor", "(II)I"⟩
abbrev cX0_settledFrom : ByteArray := prog_2_method_17_code
def yX0_settledFrom : MethodName := ⟨RX0, "settledFrom", "(LGlenGames$Ledger;LGlenGames$Event;)I"⟩
abbrev cX0_arePlacesAsLast : ByteArray := prog_2_method_18_code
def yX0_arePlacesAsLast : MethodName := ⟨RX0, "arePlacesAsLast", "()Z"⟩
def RX1 : String := "GlenGames$Event"
def TX1 : u_T := fun k => match k with
  | 0 => ("GlenGames$Event", "number", "I", true)
  | 1 => ("GlenGames$Event", "kind", "I", false)
  | 2 => ("GlenGames$Event", "parts", "I", false)
  | 3 => ("GlenGames$Event", "spells", "I", false)
  | 4 => ("GlenGames$Event", "men", "I", false)
  | 5 => ("GlenGames$Event", "purse", "I", false)
  | 6 => ("GlenGames$Event", "isVoid", "Z", false)
  | 7 => ("GlenGames$Event", "grams", "I", false)
  | 8 => ("GlenGames$Event", "slope", "I", false)
  | _ => ("GlenGames$Event", "way", "I", false)
def tyX1 : Nat → FieldType := fun k => match k with
  | 0 => .int
  | 1 => .int
  | 2 => .int
  | 3 => .int
  | 4 => .int
  | 5 => .int
  | 6 => .boolean
  | 7 => .int
  | 8 => .int
  | _ => .int
abbrev wsX10 : List Cond := u_ws RX1 TX1 10
theorem nmX1 : ∀ a, a < 10 → ∀ b, b < 10 → a ≠ b → (TX1 a).2.1 ≠ (TX1 b).2.1 := by decide +kernel
theorem tyX1_ok : ∀ k, k < 10 → parseFieldDescriptor (TX1 k).2.2.1 = some (tyX1 k) := by decide +kernel
abbrev cX1_init : ByteArray := prog_3_method_1_code
def yX1_init : MethodName := ⟨RX1, "<init>", "(I)V"⟩
abbrev cX1_put : ByteArray := prog_3_method_2_code
def yX1_put : MethodName := ⟨RX1, "put", "(IZ)I"⟩
abbrev cX1_hasMan : ByteArray := prog_3_method_3_code
def yX1_hasMan : MethodName := ⟨RX1, "hasMan", "(I)Z"⟩
abbrev cX1_takes : ByteArray := prog_3_method_4_code
def yX1_takes : MethodName := ⟨RX1, "takes", "(III)Z"⟩
abbrev cX1_width : ByteArray := prog_3_method_5_code
def yX1_width : MethodName := ⟨RX1, "width", "()I"⟩
abbrev cX1_secondOf : ByteArray := prog_3_method_6_code
def yX1_secondOf : MethodName := ⟨RX1, "secondOf", "(LGlenGames$Sheet;I)I"⟩
abbrev cX1_fairMark : ByteArray := prog_3_method_7_code
def yX1_fairMark : MethodName := ⟨RX1, "fairMark", "(II)I"⟩
abbrev cX1_raceMark : ByteArray := prog_3_method_8_code
def yX1_raceMark : MethodName := ⟨RX1, "raceMark", "(II)I"⟩
def RX2 : String := "GlenGames$Ledger"
def TX2 : u_T := fun k => match k with
  | 0 => ("GlenGames$Ledger", "events", "[I", true)
  | 1 => ("GlenGames$Ledger", "men", "[I", true)
  | 2 => ("GlenGames$Ledger", "firsts", "[I", true)
  | 3 => ("GlenGames$Ledger", "seconds", "[I", true)
  | 4 => ("GlenGames$Ledger", "yards", "[I", true)
  | _ => ("GlenGames$Ledger", "count", "I", false)
def tyX2 : Nat → FieldType := fun k => match k with
  | 0 => .array .int
  | 1 => .array .int
  | 2 => .array .int
  | 3 => .array .int
  | 4 => .array .int
  | _ => .int
abbrev wsX20 : List Cond := u_ws RX2 TX2 6
theorem nmX2 : ∀ a, a < 6 → ∀ b, b < 6 → a ≠ b → (TX2 a).2.1 ≠ (TX2 b).2.1 := by decide +kernel
theorem tyX2_ok : ∀ k, k < 6 → parseFieldDescriptor (TX2 k).2.2.1 = some (tyX2 k) := by decide +kernel
abbrev cX2_init : ByteArray := prog_4_method_1_code
def yX2_init : MethodName := ⟨RX2, "<init>", "()V"⟩
abbrev cX2_isFullFor : ByteArray := prog_4_method_2_code
def yX2_isFullFor : MethodName := ⟨RX2, "isFullFor", "(I)Z"⟩
abbrev cX2_add : ByteArray := prog_4_method_3_code
def yX2_add : MethodName := ⟨RX2, "add", "(IIIII)I"⟩
abbrev cX2_tellsOf : ByteArray := prog_4_method_4_code
def yX2_tellsOf : MethodName := ⟨RX2, "tellsOf", "(II)Z"⟩
def RX3 : String := "GlenGames$Programme"
def TX3 : u_T := fun k => match k with
  | 0 => ("GlenGames$Programme", "events", "[LGlenGames$Event;", true)
  | 1 => ("GlenGames$Programme", "count", "I", false)
  | 2 => ("GlenGames$Programme", "length", "I", false)
  | 3 => ("GlenGames$Programme", "rest", "I", false)
  | 4 => ("GlenGames$Programme", "pairs", "I", false)
  | 5 => ("GlenGames$Programme", "order", "[I", true)
  | 6 => ("GlenGames$Programme", "begins", "[I", true)
  | 7 => ("GlenGames$Programme", "laid", "I", false)
  | 8 => ("GlenGames$Programme", "laidBits", "I", false)
  | 9 => ("GlenGames$Programme", "bestEnd", "I", false)
  | 10 => ("GlenGames$Programme", "calledAhead", "[I", true)
  | 11 => ("GlenGames$Programme", "triedOrder", "[I", true)
  | _ => ("GlenGames$Programme", "triedBegins", "[I", true)
def tyX3 : Nat → FieldType := fun k => match k with
  | 0 => .array (.object "GlenGames$Event")
  | 1 => .int
  | 2 => .int
  | 3 => .int
  | 4 => .int
  | 5 => .array .int
  | 6 => .array .int
  | 7 => .int
  | 8 => .int
  | 9 => .int
  | 10 => .array .int
  | 11 => .array .int
  | _ => .array .int
abbrev wsX30 : List Cond := u_ws RX3 TX3 13
theorem nmX3 : ∀ a, a < 13 → ∀ b, b < 13 → a ≠ b → (TX3 a).2.1 ≠ (TX3 b).2.1 := by decide +kernel
theorem tyX3_ok : ∀ k, k < 13 → parseFieldDescriptor (TX3 k).2.2.1 = some (tyX3 k) := by decide +kernel
abbrev cX3_init : ByteArray := prog_5_method_1_code
def yX3_init : MethodName := ⟨RX3, "<init>", "()V"⟩
abbrev cX3_has : ByteArray := prog_5_method_2_code
def yX3_has : MethodName := ⟨RX3, "has", "(I)Z"⟩
abbrev cX3_isFull : ByteArray := prog_5_method_3_code
def yX3_isFull : MethodName := ⟨RX3, "isFull", "()Z"⟩
abbrev cX3_add : ByteArray := prog_5_method_4_code
def yX3_add : MethodName := ⟨RX3, "add", "(III)I"⟩
abbrev cX3_pair : ByteArray := prog_5_method_5_code
def yX3_pair : MethodName := ⟨RX3, "pair", "(II)I"⟩
abbrev cX3_isLaid : ByteArray := prog_5_method_6_code
def yX3_isLaid : MethodName := ⟨RX3, "isLaid", "(I)Z"⟩
abbrev cX3_layBest : ByteArray := prog_5_method_7_code
def yX3_layBest : MethodName := ⟨RX3, "layBest", "(I)I"⟩
abbrev cX3_search : ByteArray := prog_5_method_8_code
def yX3_search : MethodName := ⟨RX3, "search", "(III)V"⟩
abbrev cX3_searchBehind : ByteArray := prog_5_method_9_code
def yX3_searchBehind : MethodName := ⟨RX3, "searchBehind", "(IIII)V"⟩
abbrev cX3_keep : ByteArray := prog_5_method_10_code
def yX3_keep : MethodName := ⟨RX3, "keep", "(II)V"⟩
abbrev cX3_firstFit : ByteArray := prog_5_method_11_code
def yX3_firstFit : MethodName := ⟨RX3, "firstFit", "(II)I"⟩
abbrev cX3_pushedBy : ByteArray := prog_5_method_12_code
def yX3_pushedBy : MethodName := ⟨RX3, "pushedBy", "(III)I"⟩
abbrev cX3_idleOf : ByteArray := prog_5_method_13_code
def yX3_idleOf : MethodName := ⟨RX3, "idleOf", "(I)I"⟩
def RX4 : String := "GlenGames$Shares"
def TX4 : u_T := fun k => match k with
  | 0 => ("GlenGames$Shares", "hundredths", "[I", true)
  | _ => ("GlenGames$Shares", "count", "I", false)
def tyX4 : Nat → FieldType := fun k => match k with
  | 0 => .array .int
  | _ => .int
abbrev wsX40 : List Cond := u_ws RX4 TX4 2
theorem nmX4 : ∀ a, a < 2 → ∀ b, b < 2 → a ≠ b → (TX4 a).2.1 ≠ (TX4 b).2.1 := by decide +kernel
theorem tyX4_ok : ∀ k, k < 2 → parseFieldDescriptor (TX4 k).2.2.1 = some (tyX4 k) := by decide +kernel
abbrev cX4_init : ByteArray := prog_6_method_1_code
def yX4_init : MethodName := ⟨RX4, "<init>", "()V"⟩
abbrev cX4_become : ByteArray := prog_6_method_2_code
def yX4_become : MethodName := ⟨RX4, "become", "([II)V"⟩
abbrev cX4_of : ByteArray := prog_6_method_3_code
def yX4_of : MethodName := ⟨RX4, "of", "(II)I"⟩
def RX5 : String := "GlenGames$Sheet"
def TX5 : u_T := fun k => match k with
  | 0 => ("GlenGames$Sheet", "items", "[I", true)
  | 1 => ("GlenGames$Sheet", "isHolding", "Z", false)
  | 2 => ("GlenGames$Sheet", "lane", "I", false)
  | _ => ("GlenGames$Sheet", "size", "I", false)
def tyX5 : Nat → FieldType := fun k => match k with
  | 0 => .array .int
  | 1 => .boolean
  | 2 => .int
  | _ => .int
abbrev wsX50 : List Cond := u_ws RX5 TX5 4
theorem nmX5 : ∀ a, a < 4 → ∀ b, b < 4 → a ≠ b → (TX5 a).2.1 ≠ (TX5 b).2.1 := by decide +kernel
theorem tyX5_ok : ∀ k, k < 4 → parseFieldDescriptor (TX5 k).2.2.1 = some (tyX5 k) := by decide +kernel
abbrev cX5_init : ByteArray := prog_7_method_1_code
def yX5_init : MethodName := ⟨RX5, "<init>", "()V"⟩
abbrev cX5_hold : ByteArray := prog_7_method_2_code
def yX5_hold : MethodName := ⟨RX5, "hold", "(II)I"⟩
abbrev cX5_let : ByteArray := prog_7_method_3_code
def yX5_let : MethodName := ⟨RX5, "let", "()I"⟩
abbrev cX5_foundIn : ByteArray := prog_7_method_4_code
def yX5_foundIn : MethodName := ⟨RX5, "foundIn", "(III)I"⟩
abbrev cX5_put : ByteArray := prog_7_method_5_code
def yX5_put : MethodName := ⟨RX5, "put", "(II)V"⟩
def RX6 : String := "GlenGames$Tape"
def TX6 : u_T := fun k => match k with
  | 0 => ("GlenGames$Tape", "numbers", "[I", true)
  | 1 => ("GlenGames$Tape", "length", "I", false)
  | _ => ("GlenGames$Tape", "signs", "[I", true)
def tyX6 : Nat → FieldType := fun k => match k with
  | 0 => .array .int
  | 1 => .int
  | _ => .array .int
abbrev wsX60 : List Cond := u_ws RX6 TX6 3
theorem nmX6 : ∀ a, a < 3 → ∀ b, b < 3 → a ≠ b → (TX6 a).2.1 ≠ (TX6 b).2.1 := by decide +kernel
theorem tyX6_ok : ∀ k, k < 3 → parseFieldDescriptor (TX6 k).2.2.1 = some (tyX6 k) := by decide +kernel
abbrev cX6_init : ByteArray := prog_8_method_1_code
def yX6_init : MethodName := ⟨RX6, "<init>", "()V"⟩
abbrev cX6_isTypable : ByteArray := prog_8_method_2_code
def yX6_isTypable : MethodName := ⟨RX6, "isTypable", "(JI)Z"⟩
abbrev cX6_byteOf : ByteArray := prog_8_method_3_code
def yX6_byteOf : MethodName := ⟨RX6, "byteOf", "(JI)I"⟩
abbrev cX6_isFullFor : ByteArray := prog_8_method_4_code
def yX6_isFullFor : MethodName := ⟨RX6, "isFullFor", "(I)Z"⟩
abbrev cX6_add : ByteArray := prog_8_method_5_code
def yX6_add : MethodName := ⟨RX6, "add", "(JI)I"⟩
abbrev cX6_read : ByteArray := prog_8_method_6_code
def yX6_read : MethodName := ⟨RX6, "read", "()I"⟩
abbrev cX6_behindBlanks : ByteArray := prog_8_method_7_code
def yX6_behindBlanks : MethodName := ⟨RX6, "behindBlanks", "(I)I"⟩
abbrev cX6_behindDigits : ByteArray := prog_8_method_8_code
def yX6_behindDigits : MethodName := ⟨RX6, "behindDigits", "(I)I"⟩
abbrev cX6_numberOf : ByteArray := prog_8_method_9_code
def yX6_numberOf : MethodName := ⟨RX6, "numberOf", "(II)I"⟩
def RX7 : String := "GlenGames"
def TX7 : u_T := fun k => match k with
  | 0 => ("GlenGames", "programme", "LGlenGames$Programme;", true)
  | 1 => ("GlenGames", "ledger", "LGlenGames$Ledger;", true)
  | 2 => ("GlenGames", "board", "LGlenGames$Board;", true)
  | 3 => ("GlenGames", "tape", "LGlenGames$Tape;", true)
  | 4 => ("GlenGames", "parted", "LGlenGames$Shares;", true)
  | 5 => ("GlenGames", "rows", "[LGlenGames$Sheet;", true)
  | _ => ("GlenGames", "given", "[I", true)
def tyX7 : Nat → FieldType := fun k => match k with
  | 0 => .object "GlenGames$Programme"
  | 1 => .object "GlenGames$Ledger"
  | 2 => .object "GlenGames$Board"
  | 3 => .object "GlenGames$Tape"
  | 4 => .object "GlenGames$Shares"
  | 5 => .array (.object "GlenGames$Sheet")
  | _ => .array .int
abbrev wsX70 : List Cond := u_ws RX7 TX7 7
theorem nmX7 : ∀ a, a < 7 → ∀ b, b < 7 → a ≠ b → (TX7 a).2.1 ≠ (TX7 b).2.1 := by decide +kernel
theorem tyX7_ok : ∀ k, k < 7 → parseFieldDescriptor (TX7 k).2.2.1 = some (tyX7 k) := by decide +kernel
abbrev cX7_init : ByteArray := prog_1_method_1_code
def yX7_init : MethodName := ⟨RX7, "<init>", "()V"⟩
abbrev cX7_event : ByteArray := prog_1_method_2_code
def yX7_event : MethodName := ⟨RX7, "event", "(III)I"⟩
abbrev cX7_enter : ByteArray := prog_1_method_3_code
def yX7_enter : MethodName := ⟨RX7, "enter", "(IIZ)I"⟩
abbrev cX7_day : ByteArray := prog_1_method_4_code
def yX7_day : MethodName := ⟨RX7, "day", "(II)I"⟩
abbrev cX7_call : ByteArray := prog_1_method_5_code
def yX7_call : MethodName := ⟨RX7, "call", "(II)I"⟩
abbrev cX7_lay : ByteArray := prog_1_method_6_code
def yX7_lay : MethodName := ⟨RX7, "lay", "(I)I"⟩
abbrev cX7_begins : ByteArray := prog_1_method_7_code
def yX7_begins : MethodName := ⟨RX7, "begins", "(I)I"⟩
abbrev cX7_order : ByteArray := prog_1_method_8_code
def yX7_order : MethodName := ⟨RX7, "order", "(I)I"⟩
abbrev cX7_idle : ByteArray := prog_1_method_9_code
def yX7_idle : MethodName := ⟨RX7, "idle", "(I)I"⟩
abbrev cX7_stone : ByteArray := prog_1_method_10_code
def yX7_stone : MethodName := ⟨RX7, "stone", "(III)I"⟩
abbrev cX7_way : ByteArray := prog_1_method_11_code
def yX7_way : MethodName := ⟨RX7, "way", "(II)I"⟩
abbrev cX7_yards : ByteArray := prog_1_method_12_code
def yX7_yards : MethodName := ⟨RX7, "yards", "(II)I"⟩
abbrev cX7_entry : ByteArray := prog_1_method_13_code
def yX7_entry : MethodName := ⟨RX7, "entry", "(IIII)I"⟩
abbrev cX7_entries : ByteArray := prog_1_method_14_code
def yX7_entries : MethodName := ⟨RX7, "entries", "(IIIII)I"⟩
abbrev cX7_mark : ByteArray := prog_1_method_15_code
def yX7_mark : MethodName := ⟨RX7, "mark", "(IIII)I"⟩
abbrev cX7_place : ByteArray := prog_1_method_16_code
def yX7_place : MethodName := ⟨RX7, "place", "(III)I"⟩
abbrev cX7_fail : ByteArray := prog_1_method_17_code
def yX7_fail : MethodName := ⟨RX7, "fail", "(IZ)I"⟩
abbrev cX7_paradox : ByteArray := prog_1_method_18_code
def yX7_paradox : MethodName := ⟨RX7, "paradox", "(II)I"⟩
abbrev cX7_settled : ByteArray := prog_1_method_19_code
def yX7_settled : MethodName := ⟨RX7, "settled", "(I)I"⟩
abbrev cX7_type : ByteArray := prog_1_method_20_code
def yX7_type : MethodName := ⟨RX7, "type", "(JI)I"⟩
abbrev cX7_shares : ByteArray := prog_1_method_21_code
def yX7_shares : MethodName := ⟨RX7, "shares", "()I"⟩
abbrev cX7_purse : ByteArray := prog_1_method_22_code
def yX7_purse : MethodName := ⟨RX7, "purse", "(II)I"⟩
abbrev cX7_won : ByteArray := prog_1_method_23_code
def yX7_won : MethodName := ⟨RX7, "won", "(II)I"⟩
abbrev cX7_all : ByteArray := prog_1_method_24_code
def yX7_all : MethodName := ⟨RX7, "all", "(I)I"⟩
abbrev cX7_move : ByteArray := prog_1_method_25_code
def yX7_move : MethodName := ⟨RX7, "move", "(II)I"⟩
abbrev cX7_sheet : ByteArray := prog_1_method_26_code
def yX7_sheet : MethodName := ⟨RX7, "sheet", "(III)I"⟩
abbrev cX7_drop : ByteArray := prog_1_method_27_code
def yX7_drop : MethodName := ⟨RX7, "drop", "(I)I"⟩
abbrev cX7_item : ByteArray := prog_1_method_28_code
def yX7_item : MethodName := ⟨RX7, "item", "(IIII)I"⟩
abbrev cX7_told : ByteArray := prog_1_method_29_code
def yX7_told : MethodName := ⟨RX7, "told", "(II)I"⟩
abbrev cX7_within : ByteArray := prog_1_method_30_code
def yX7_within : MethodName := ⟨RX7, "within", "(III)Z"⟩
abbrev cX7_isMan : ByteArray := prog_1_method_31_code
def yX7_isMan : MethodName := ⟨RX7, "isMan", "(I)Z"⟩
abbrev cX7_isSheet : ByteArray := prog_1_method_32_code
def yX7_isSheet : MethodName := ⟨RX7, "isSheet", "(I)Z"⟩
abbrev cX7_isLane : ByteArray := prog_1_method_33_code
def yX7_isLane : MethodName := ⟨RX7, "isLane", "(I)Z"⟩
abbrev cX7_isAsOf : ByteArray := prog_1_method_34_code
def yX7_isAsOf : MethodName := ⟨RX7, "isAsOf", "(I)Z"⟩
abbrev cX7_areTaken : ByteArray := prog_1_method_35_code
def yX7_areTaken : MethodName := ⟨RX7, "areTaken", "(LGlenGames$Event;LGlenGames$Sheet;II)Z"⟩
abbrev cX7_addAll : ByteArray := prog_1_method_36_code
def yX7_addAll : MethodName := ⟨RX7, "addAll", "(LGlenGames$Event;LGlenGames$Sheet;II)V"⟩
abbrev cX7_winnings : ByteArray := prog_1_method_37_code
def yX7_winnings : MethodName := ⟨RX7, "winnings", "(LGlenGames$Event;I)I"⟩
abbrev cX7_moveYards : ByteArray := prog_1_method_38_code
def yX7_moveYards : MethodName := ⟨RX7, "moveYards", "()I"⟩
abbrev cX7_toldOf : ByteArray := prog_1_method_39_code
def yX7_toldOf : MethodName := ⟨RX7, "toldOf", "(LGlenGames$Event;I)I"⟩
def RX8 : String := "GlenGamesModel"
def TX8 : u_T := fun k => match k with
  | 0 => ("GlenGamesModel", "events", "I", false)
  | 1 => ("GlenGamesModel", "kinds", "[I", true)
  | 2 => ("GlenGamesModel", "parts", "[I", true)
  | 3 => ("GlenGamesModel", "spells", "[I", true)
  | 4 => ("GlenGamesModel", "men", "[I", true)
  | 5 => ("GlenGamesModel", "purses", "[I", true)
  | 6 => ("GlenGamesModel", "isVoid", "[Z", true)
  | 7 => ("GlenGamesModel", "grams", "[I", true)
  | 8 => ("GlenGamesModel", "slopes", "[I", true)
  | 9 => ("GlenGamesModel", "ways", "[I", true)
  | 10 => ("GlenGamesModel", "yards", "[I", true)
  | 11 => ("GlenGamesModel", "dayLong", "I", false)
  | 12 => ("GlenGamesModel", "rest", "I", false)
  | 13 => ("GlenGamesModel", "calls", "I", false)
  | 14 => ("GlenGamesModel", "callFirst", "[I", true)
  | 15 => ("GlenGamesModel", "callOther", "[I", true)
  | 16 => ("GlenGamesModel", "row", "[I", true)
  | 17 => ("GlenGamesModel", "start", "[I", true)
  | 18 => ("GlenGamesModel", "hasDay", "Z", false)
  | 19 => ("GlenGamesModel", "dayMany", "I", false)
  | 20 => ("GlenGamesModel", "dayRow", "[I", true)
  | 21 => ("GlenGamesModel", "dayStart", "[I", true)
  | 22 => ("GlenGamesModel", "entries", "I", false)
  | 23 => ("GlenGamesModel", "entryEvent", "[I", true)
  | 24 => ("GlenGamesModel", "entryMan", "[I", true)
  | 25 => ("GlenGamesModel", "entryA", "[I", true)
  | 26 => ("GlenGamesModel", "entryB", "[I", true)
  | 27 => ("GlenGamesModel", "lanes", "[I", true)
  | 28 => ("GlenGamesModel", "sizes", "[I", true)
  | 29 => ("GlenGamesModel", "items", "[I", true)
  | 30 => ("GlenGamesModel", "marks", "[I", true)
  | 31 => ("GlenGamesModel", "hasMark", "[Z", true)
  | 32 => ("GlenGamesModel", "judged", "[I", true)
  | 33 => ("GlenGamesModel", "places", "[I", true)
  | 34 => ("GlenGamesModel", "last", "[I", true)
  | 35 => ("GlenGamesModel", "shareMany", "I", false)
  | 36 => ("GlenGamesModel", "share", "[I", true)
  | 37 => ("GlenGamesModel", "readShare", "[I", true)
  | 38 => ("GlenGamesModel", "tape", "[I", true)
  | 39 => ("GlenGamesModel", "taped", "I", false)
  | 40 => ("GlenGamesModel", "at", "I", false)
  | _ => ("GlenGamesModel", "wrong", "I", false)
def tyX8 : Nat → FieldType := fun k => match k with
  | 0 => .int
  | 1 => .array .int
  | 2 => .array .int
  | 3 => .array .int
  | 4 => .array .int
  | 5 => .array .int
  | 6 => .array .boolean
  | 7 => .array .int
  | 8 => .array .int
  | 9 => .array .int
  | 10 => .array .int
  | 11 => .int
  | 12 => .int
  | 13 => .int
  | 14 => .array .int
  | 15 => .array .int
  | 16 => .array .int
  | 17 => .array .int
  | 18 => .boolean
  | 19 => .int
  | 20 => .array .int
  | 21 => .array .int
  | 22 => .int
  | 23 => .array .int
  | 24 => .array .int
  | 25 => .array .int
  | 26 => .array .int
  | 27 => .array .int
  | 28 => .array .int
  | 29 => .array .int
  | 30 => .array .int
  | 31 => .array .boolean
  | 32 => .array .int
  | 33 => .array .int
  | 34 => .array .int
  | 35 => .int
  | 36 => .array .int
  | 37 => .array .int
  | 38 => .array .int
  | 39 => .int
  | 40 => .int
  | _ => .int
abbrev wsX80 : List Cond := u_ws RX8 TX8 42
theorem nmX8 : ∀ a, a < 42 → ∀ b, b < 42 → a ≠ b → (TX8 a).2.1 ≠ (TX8 b).2.1 := by decide +kernel
theorem tyX8_ok : ∀ k, k < 42 → parseFieldDescriptor (TX8 k).2.2.1 = some (tyX8 k) := by decide +kernel
abbrev cX8_in : ByteArray := prog_10_method_2_code
def yX8_in : MethodName := ⟨RX8, "in", "(III)Z"⟩
abbrev cX8_isMan : ByteArray := prog_10_method_3_code
def yX8_isMan : MethodName := ⟨RX8, "isMan", "(I)Z"⟩
abbrev cX8_init : ByteArray := prog_10_method_4_code
def yX8_init : MethodName := ⟨RX8, "<init>", "()V"⟩
abbrev cX8_isEvent : ByteArray := prog_10_method_5_code
def yX8_isEvent : MethodName := ⟨RX8, "isEvent", "(I)Z"⟩
abbrev cX8_event : ByteArray := prog_10_method_6_code
def yX8_event : MethodName := ⟨RX8, "event", "(III)I"⟩
abbrev cX8_bits : ByteArray := prog_10_method_7_code
def yX8_bits : MethodName := ⟨RX8, "bits", "(I)I"⟩
abbrev cX8_enter : ByteArray := prog_10_method_8_code
def yX8_enter : MethodName := ⟨RX8, "enter", "(IIZ)I"⟩
abbrev cX8_day : ByteArray := prog_10_method_9_code
def yX8_day : MethodName := ⟨RX8, "day", "(II)I"⟩
abbrev cX8_call : ByteArray := prog_10_method_10_code
def yX8_call : MethodName := ⟨RX8, "call", "(II)I"⟩
abbrev cX8_isCalled : ByteArray := prog_10_method_11_code
def yX8_isCalled : MethodName := ⟨RX8, "isCalled", "(II)Z"⟩
abbrev cX8_goes : ByteArray := prog_10_method_12_code
def yX8_goes : MethodName := ⟨RX8, "goes", "(III)Z"⟩
abbrev cX8_layRow : ByteArray := prog_10_method_13_code
def yX8_layRow : MethodName := ⟨RX8, "layRow", "(I)I"⟩
abbrev cX8_countsUp : ByteArray := prog_10_method_14_code
def yX8_countsUp : MethodName := ⟨RX8, "countsUp", "(I)Z"⟩
abbrev cX8_lay : ByteArray := prog_10_method_15_code
def yX8_lay : MethodName := ⟨RX8, "lay", "(I)I"⟩
abbrev cX8_keep : ByteArray := prog_10_method_16_code
def yX8_keep : MethodName := ⟨RX8, "keep", "(I)V"⟩
abbrev cX8_begins : ByteArray := prog_10_method_17_code
def yX8_begins : MethodName := ⟨RX8, "begins", "(I)I"⟩
abbrev cX8_order : ByteArray := prog_10_method_18_code
def yX8_order : MethodName := ⟨RX8, "order", "(I)I"⟩
abbrev cX8_idle : ByteArray := prog_10_method_19_code
def yX8_idle : MethodName := ⟨RX8, "idle", "(I)I"⟩
abbrev cX8_stone : ByteArray := prog_10_method_20_code
def yX8_stone : MethodName := ⟨RX8, "stone", "(III)I"⟩
abbrev cX8_way : ByteArray := prog_10_method_21_code
def yX8_way : MethodName := ⟨RX8, "way", "(II)I"⟩
abbrev cX8_yards : ByteArray := prog_10_method_22_code
def yX8_yards : MethodName := ⟨RX8, "yards", "(II)I"⟩
abbrev cX8_isGood : ByteArray := prog_10_method_23_code
def yX8_isGood : MethodName := ⟨RX8, "isGood", "(IIII)Z"⟩
abbrev cX8_put : ByteArray := prog_10_method_24_code
def yX8_put : MethodName := ⟨RX8, "put", "(IIII)V"⟩
abbrev cX8_entry : ByteArray := prog_10_method_25_code
def yX8_entry : MethodName := ⟨RX8, "entry", "(IIII)I"⟩
abbrev cX8_isSheet : ByteArray := prog_10_method_26_code
def yX8_isSheet : MethodName := ⟨RX8, "isSheet", "(I)Z"⟩
abbrev cX8_sheet : ByteArray := prog_10_method_27_code
def yX8_sheet : MethodName := ⟨RX8, "sheet", "(III)I"⟩
abbrev cX8_drop : ByteArray := prog_10_method_28_code
def yX8_drop : MethodName := ⟨RX8, "drop", "(I)I"⟩
abbrev cX8_item : ByteArray := prog_10_method_29_code
def yX8_item : MethodName := ⟨RX8, "item", "(IIII)I"⟩
abbrev cX8_entries : ByteArray := prog_10_method_30_code
def yX8_entries : MethodName := ⟨RX8, "entries", "(IIIII)I"⟩
abbrev cX8_fairMark : ByteArray := prog_10_method_31_code
def yX8_fairMark : MethodName := ⟨RX8, "fairMark", "(II)I"⟩
abbrev cX8_markThrow : ByteArray := prog_10_method_32_code
def yX8_markThrow : MethodName := ⟨RX8, "markThrow", "(III)V"⟩
abbrev cX8_markRace : ByteArray := prog_10_method_33_code
def yX8_markRace : MethodName := ⟨RX8, "markRace", "(III)V"⟩
abbrev cX8_markDance : ByteArray := prog_10_method_34_code
def yX8_markDance : MethodName := ⟨RX8, "markDance", "(III)V"⟩
abbrev cX8_markAll : ByteArray := prog_10_method_35_code
def yX8_markAll : MethodName := ⟨RX8, "markAll", "(II)V"⟩
abbrev cX8_mark : ByteArray := prog_10_method_36_code
def yX8_mark : MethodName := ⟨RX8, "mark", "(IIII)I"⟩
abbrev cX8_isAhead : ByteArray := prog_10_method_37_code
def yX8_isAhead : MethodName := ⟨RX8, "isAhead", "(III)Z"⟩
abbrev cX8_placeAll : ByteArray := prog_10_method_38_code
def yX8_placeAll : MethodName := ⟨RX8, "placeAll", "(II)I"⟩
abbrev cX8_place : ByteArray := prog_10_method_39_code
def yX8_place : MethodName := ⟨RX8, "place", "(III)I"⟩
abbrev cX8_fail : ByteArray := prog_10_method_40_code
def yX8_fail : MethodName := ⟨RX8, "fail", "(IZ)I"⟩
abbrev cX8_beats : ByteArray := prog_10_method_41_code
def yX8_beats : MethodName := ⟨RX8, "beats", "(II)Z"⟩
abbrev cX8_paradox : ByteArray := prog_10_method_42_code
def yX8_paradox : MethodName := ⟨RX8, "paradox", "(II)I"⟩
abbrev cX8_settled : ByteArray := prog_10_method_43_code
def yX8_settled : MethodName := ⟨RX8, "settled", "(I)I"⟩
abbrev cX8_type : ByteArray := prog_10_method_44_code
def yX8_type : MethodName := ⟨RX8, "type", "(JI)I"⟩
abbrev cX8_next : ByteArray := prog_10_method_45_code
def yX8_next : MethodName := ⟨RX8, "next", "()I"⟩
abbrev cX8_number : ByteArray := prog_10_method_46_code
def yX8_number : MethodName := ⟨RX8, "number", "(I)I"⟩
abbrev cX8_reads : ByteArray := prog_10_method_47_code
def yX8_reads : MethodName := ⟨RX8, "reads", "()I"⟩
abbrev cX8_shares : ByteArray := prog_10_method_48_code
def yX8_shares : MethodName := ⟨RX8, "shares", "()I"⟩
abbrev cX8_purse : ByteArray := prog_10_method_49_code
def yX8_purse : MethodName := ⟨RX8, "purse", "(II)I"⟩
abbrev cX8_first : ByteArray := prog_10_method_50_code
def yX8_first : MethodName := ⟨RX8, "first", "(II)I"⟩
abbrev cX8_wonOf : ByteArray := prog_10_method_51_code
def yX8_wonOf : MethodName := ⟨RX8, "wonOf", "(II)I"⟩
abbrev cX8_won : ByteArray := prog_10_method_52_code
def yX8_won : MethodName := ⟨RX8, "won", "(II)I"⟩
abbrev cX8_all : ByteArray := prog_10_method_53_code
def yX8_all : MethodName := ⟨RX8, "all", "(I)I"⟩
abbrev cX8_move : ByteArray := prog_10_method_54_code
def yX8_move : MethodName := ⟨RX8, "move", "(II)I"⟩
abbrev cX8_told : ByteArray := prog_10_method_55_code
def yX8_told : MethodName := ⟨RX8, "told", "(II)I"⟩
def RJ6 : String := "java/lang/Integer"
def TJ6 : u_T := fun k => match k with
  | _ => ("", "", "", false)
def tyJ6 : Nat → FieldType := fun k => match k with
  | _ => .int
abbrev wsJ60 : List Cond := u_ws RJ6 TJ6 0
theorem nmJ6 : ∀ a, a < 0 → ∀ b, b < 0 → a ≠ b → (TJ6 a).2.1 ≠ (TJ6 b).2.1 := by decide +kernel
theorem tyJ6_ok : ∀ k, k < 0 → parseFieldDescriptor (TJ6 k).2.2.1 = some (tyJ6 k) := by decide +kernel
abbrev cJ6_bitCount_0f7a4 : ByteArray := prog_11_method_49_code
def yJ6_bitCount_0f7a4 : MethodName := ⟨RJ6, "bitCount", "(I)I"⟩
def RJ13 : String := "java/lang/Long"
def TJ13 : u_T := fun k => match k with
  | _ => ("", "", "", false)
def tyJ13 : Nat → FieldType := fun k => match k with
  | _ => .int
abbrev wsJ130 : List Cond := u_ws RJ13 TJ13 0
theorem nmJ13 : ∀ a, a < 0 → ∀ b, b < 0 → a ≠ b → (TJ13 a).2.1 ≠ (TJ13 b).2.1 := by decide +kernel
theorem tyJ13_ok : ∀ k, k < 0 → parseFieldDescriptor (TJ13 k).2.2.1 = some (tyJ13 k) := by decide +kernel
abbrev cJ13_bitCount_95d88 : ByteArray := prog_12_method_50_code
def yJ13_bitCount_95d88 : MethodName := ⟨RJ13, "bitCount", "(J)I"⟩
def RJ9 : String := "java/lang/Math"
def TJ9 : u_T := fun k => match k with
  | _ => ("", "", "", false)
def tyJ9 : Nat → FieldType := fun k => match k with
  | _ => .int
abbrev wsJ90 : List Cond := u_ws RJ9 TJ9 0
theorem nmJ9 : ∀ a, a < 0 → ∀ b, b < 0 → a ≠ b → (TJ9 a).2.1 ≠ (TJ9 b).2.1 := by decide +kernel
theorem tyJ9_ok : ∀ k, k < 0 → parseFieldDescriptor (TJ9 k).2.2.1 = some (tyJ9 k) := by decide +kernel
abbrev cJ9_max_7cf53 : ByteArray := prog_13_method_65_code
def yJ9_max_7cf53 : MethodName := ⟨RJ9, "max", "(II)I"⟩
abbrev cJ9_min_7cf53 : ByteArray := prog_13_method_69_code
def yJ9_min_7cf53 : MethodName := ⟨RJ9, "min", "(II)I"⟩
def RJ10 : String := "java/lang/System"
def TJ10 : u_T := fun k => match k with
  | _ => ("", "", "", false)
def tyJ10 : Nat → FieldType := fun k => match k with
  | _ => .int
abbrev wsJ100 : List Cond := u_ws RJ10 TJ10 0
theorem nmJ10 : ∀ a, a < 0 → ∀ b, b < 0 → a ≠ b → (TJ10 a).2.1 ≠ (TJ10 b).2.1 := by decide +kernel
theorem tyJ10_ok : ∀ k, k < 0 → parseFieldDescriptor (TJ10 k).2.2.1 = some (tyJ10 k) := by decide +kernel
def RJ7 : String := "java/util/Arrays"
def TJ7 : u_T := fun k => match k with
  | _ => ("", "", "", false)
def tyJ7 : Nat → FieldType := fun k => match k with
  | _ => .int
abbrev wsJ70 : List Cond := u_ws RJ7 TJ7 0
theorem nmJ7 : ∀ a, a < 0 → ∀ b, b < 0 → a ≠ b → (TJ7 a).2.1 ≠ (TJ7 b).2.1 := by decide +kernel
theorem tyJ7_ok : ∀ k, k < 0 → parseFieldDescriptor (TJ7 k).2.2.1 = some (tyJ7 k) := by decide +kernel
abbrev cJ7_fill_53178 : ByteArray := prog_15_method_103_code
def yJ7_fill_53178 : MethodName := ⟨RJ7, "fill", "([II)V"⟩
def RL : String := "GlenGamesLaw"
abbrev cL_law : ByteArray := code
def yL_law : MethodName := ⟨RL, "law", "([I)Z"⟩
abbrev vwCl : List vw_C := [(RX0, TX0, 5), (RX1, TX1, 10), (RX2, TX2, 6), (RX3, TX3, 13), (RX4, TX4, 2), (RX5, TX5, 4), (RX6, TX6, 3), (RX7, TX7, 7), (RX8, TX8, 42)]
end
section
def w_C : Nat → String := fun k => match k with
  | 0 => RX0
  | 1 => RX1
  | 2 => RX2
  | 3 => RX3
  | 4 => RX4
  | 5 => RX5
  | 6 => RX6
  | 7 => RX7
  | 8 => RX8
  | 9 => RJ6
  | 10 => RJ13
  | 11 => RJ9
  | 12 => RJ7
  | _ => ""
def w_T : Nat → u_T := fun k => match k with
  | 0 => TX0
  | 1 => TX1
  | 2 => TX2
  | 3 => TX3
  | 4 => TX4
  | 5 => TX5
  | 6 => TX6
  | 7 => TX7
  | _ => TX8
def w_ty : Nat → Nat → FieldType := fun k => match k with
  | 0 => tyX0
  | 1 => tyX1
  | 2 => tyX2
  | 3 => tyX3
  | 4 => tyX4
  | 5 => tyX5
  | 6 => tyX6
  | 7 => tyX7
  | _ => tyX8
def w_nf : Nat → Nat := fun k => match k with
  | 0 => 5
  | 1 => 10
  | 2 => 6
  | 3 => 13
  | 4 => 2
  | 5 => 4
  | 6 => 3
  | 7 => 7
  | 8 => 42
  | _ => 0
def w_fk0 : Nat → Bool := fun _ => true
def w_fk1 : Nat → Bool := fun _ => false
def w_fk2 : Nat → Bool := fun k => match k with
  | 5 => false
  | _ => true
def w_fk3 : Nat → Bool := fun k => match k with
  | 0 => true
  | 5 => true
  | 6 => true
  | 10 => true
  | 11 => true
  | 12 => true
  | _ => false
def w_fk4 : Nat → Bool := fun k => match k with
  | 0 => true
  | _ => false
def w_fk5 : Nat → Bool := fun k => match k with
  | 0 => true
  | _ => false
def w_fk6 : Nat → Bool := fun k => match k with
  | 1 => false
  | _ => true
def w_fk7 : Nat → Bool := fun _ => true
def w_fk8 : Nat → Bool := fun k => match k with
  | 0 => false
  | 11 => false
  | 12 => false
  | 13 => false
  | 18 => false
  | 19 => false
  | 22 => false
  | 35 => false
  | 39 => false
  | 40 => false
  | 41 => false
  | _ => true
def w_fk : Nat → Nat → Bool := fun k => match k with
  | 0 => w_fk0
  | 1 => w_fk1
  | 2 => w_fk2
  | 3 => w_fk3
  | 4 => w_fk4
  | 5 => w_fk5
  | 6 => w_fk6
  | 7 => w_fk7
  | _ => w_fk8
def w_fl0 : List (Nat × Nat × Nat) := [(9, 0, 0), (15, 0, 1), (18, 0, 2), (21, 0, 3), (24, 0, 4), (33, 2, 5), (45, 2, 0), (48, 1, 0), (57, 1, 1), (67, 2, 1), (70, 2, 2), (73, 2, 3), (83, 2, 4), (92, 1, 6)]
def w_fl1 : List (Nat × Nat × Nat) := [(9, 1, 7), (15, 1, 9), (18, 1, 0), (21, 1, 4), (38, 1, 1), (41, 5, 0), (47, 1, 8)]
def w_fl2 : List (Nat × Nat × Nat) := [(9, 2, 0), (15, 2, 1), (18, 2, 2), (21, 2, 3), (24, 2, 4), (27, 2, 5)]
def w_fl3 : List (Nat × Nat × Nat) := [(11, 3, 0), (17, 3, 2), (21, 3, 3), (24, 3, 5), (28, 3, 6), (31, 3, 10), (34, 3, 11), (37, 3, 12), (43, 3, 1), (46, 1, 1), (49, 1, 2), (52, 1, 3), (55, 1, 0), (58, 3, 4), (61, 3, 8), (64, 3, 9), (88, 3, 7), (101, 1, 4)]
def w_fl4 : List (Nat × Nat × Nat) := [(9, 4, 0), (15, 4, 1)]
def w_fl5 : List (Nat × Nat × Nat) := [(9, 5, 0), (15, 5, 1), (19, 5, 2), (23, 5, 3)]
def w_fl6 : List (Nat × Nat × Nat) := [(9, 6, 0), (15, 6, 2), (28, 6, 1)]
def w_fl7 : List (Nat × Nat × Nat) := [(10, 7, 0), (19, 7, 1), (26, 7, 2), (33, 7, 3), (40, 7, 4), (46, 7, 5), (50, 7, 6), (78, 3, 0), (88, 3, 2), (92, 3, 3), (95, 3, 4), (102, 3, 1), (114, 3, 7), (120, 3, 6), (123, 3, 5), (129, 1, 1), (132, 1, 7), (135, 1, 8), (138, 1, 9), (171, 2, 5), (188, 0, 0), (191, 1, 6), (212, 6, 0), (219, 6, 1), (221, 1, 5), (234, 5, 1), (246, 5, 0), (253, 1, 0), (273, 1, 2), (276, 1, 3), (279, 1, 4)]
def w_fl8 : List (Nat × Nat × Nat) := [(13, 8, 1), (17, 8, 2), (20, 8, 3), (23, 8, 4), (26, 8, 5), (29, 8, 6), (33, 8, 7), (36, 8, 8), (39, 8, 9), (42, 8, 10), (45, 8, 11), (49, 8, 12), (52, 8, 14), (55, 8, 15), (58, 8, 16), (61, 8, 17), (64, 8, 20), (67, 8, 21), (70, 8, 23), (73, 8, 24), (76, 8, 25), (79, 8, 26), (82, 8, 27), (85, 8, 28), (88, 8, 29), (91, 8, 30), (94, 8, 31), (97, 8, 32), (100, 8, 33), (103, 8, 34), (106, 8, 35), (109, 8, 36), (112, 8, 37), (115, 8, 38), (118, 8, 0), (128, 8, 22), (135, 8, 13), (155, 8, 18), (159, 8, 19), (204, 8, 39), (207, 8, 40), (214, 8, 41)]
def w_fl : Nat → List (Nat × Nat × Nat) := fun k => match k with
  | 0 => w_fl0
  | 1 => w_fl1
  | 2 => w_fl2
  | 3 => w_fl3
  | 4 => w_fl4
  | 5 => w_fl5
  | 6 => w_fl6
  | 7 => w_fl7
  | 8 => w_fl8
  | _ => []
def w_k32 : Nat → List (Nat × Int32) := fun k => match k with
  | 7 => [(220, 100000)]
  | 8 => [(223, 100000)]
  | 9 => [(265, 1431655765), (266, 858993459), (267, 252645135)]
  | _ => []
def w_k64 : Nat → List (Nat × Int64) := fun k => match k with
  | 1 => [(50, 10000000)]
  | 6 => [(26, 255)]
  | 8 => [(173, 10000000), (202, 255)]
  | 10 => [(314, 6148914691236517205), (316, 3689348814741910323), (318, 1085102592571150095)]
  | _ => []
noncomputable def w_lk {α : Type} (l : List (Nat × α)) (k : Nat) : Option α := List.rec none (fun a _ ih => match Nat.beq a.1 k with
  | true => some a.2
  | false => ih) l
theorem w_lk_mem {α : Type} {l : List (Nat × α)} {k : Nat} {v : α} (h : w_lk l k = some v) : (k, v) ∈ l := by
  induction l with
  | nil => cases h
  | cons a l ih =>
    have h' : (match Nat.beq a.1 k with
      | true => some a.2
      | false => w_lk l k) = some v := h
    cases hb : Nat.beq a.1 k with
    | true =>
      rw [hb] at h'
      have e := Nat.eq_of_beq_eq_true hb
      have e2 := Option.some.inj h'
      rw [← e, ← e2]
      exact List.mem_cons_self
    | false =>
      rw [hb] at h'
      exact List.mem_cons_of_mem _ (ih h')
def w_tbl : List Cond := lw_tbl.filter goodWord
set_option maxRecDepth 100000 in
theorem w_us0 : ∀ w ∈ u_ws RX0 TX0 5, w ∈ w_tbl := by decide +kernel
set_option maxRecDepth 100000 in
theorem w_us1 : ∀ w ∈ u_ws RX1 TX1 10, w ∈ w_tbl := by decide +kernel
set_option maxRecDepth 100000 in
theorem w_us2 : ∀ w ∈ u_ws RX2 TX2 6, w ∈ w_tbl := by decide +kernel
set_option maxRecDepth 100000 in
theorem w_us3 : ∀ w ∈ u_ws RX3 TX3 13, w ∈ w_tbl := by decide +kernel
set_option maxRecDepth 100000 in
theorem w_us4 : ∀ w ∈ u_ws RX4 TX4 2, w ∈ w_tbl := by decide +kernel
set_option maxRecDepth 100000 in
theorem w_us5 : ∀ w ∈ u_ws RX5 TX5 4, w ∈ w_tbl := by decide +kernel
set_option maxRecDepth 100000 in
theorem w_us6 : ∀ w ∈ u_ws RX6 TX6 3, w ∈ w_tbl := by decide +kernel
set_option maxRecDepth 100000 in
theorem w_us7 : ∀ w ∈ u_ws RX7 TX7 7, w ∈ w_tbl := by decide +kernel
set_option maxRecDepth 100000 in
theorem w_us8 : ∀ w ∈ u_ws RX8 TX8 42, w ∈ w_tbl := by decide +kernel
set_option maxRecDepth 100000 in
theorem w_flok0 : ∀ e ∈ w_fl0, e.2.1 < 9 ∧ e.2.2 < w_nf e.2.1 ∧ Cond.fieldLink RX0 e.1 (w_C e.2.1) (w_T e.2.1 e.2.2).2.1 (w_T e.2.1 e.2.2).2.2.1 ∈ w_tbl := by decide +kernel
set_option maxRecDepth 100000 in
theorem w_flok1 : ∀ e ∈ w_fl1, e.2.1 < 9 ∧ e.2.2 < w_nf e.2.1 ∧ Cond.fieldLink RX1 e.1 (w_C e.2.1) (w_T e.2.1 e.2.2).2.1 (w_T e.2.1 e.2.2).2.2.1 ∈ w_tbl := by decide +kernel
set_option maxRecDepth 100000 in
theorem w_flok2 : ∀ e ∈ w_fl2, e.2.1 < 9 ∧ e.2.2 < w_nf e.2.1 ∧ Cond.fieldLink RX2 e.1 (w_C e.2.1) (w_T e.2.1 e.2.2).2.1 (w_T e.2.1 e.2.2).2.2.1 ∈ w_tbl := by decide +kernel
set_option maxRecDepth 100000 in
theorem w_flok3 : ∀ e ∈ w_fl3, e.2.1 < 9 ∧ e.2.2 < w_nf e.2.1 ∧ Cond.fieldLink RX3 e.1 (w_C e.2.1) (w_T e.2.1 e.2.2).2.1 (w_T e.2.1 e.2.2).2.2.1 ∈ w_tbl := by decide +kernel
set_option maxRecDepth 100000 in
theorem w_flok4 : ∀ e ∈ w_fl4, e.2.1 < 9 ∧ e.2.2 < w_nf e.2.1 ∧ Cond.fieldLink RX4 e.1 (w_C e.2.1) (w_T e.2.1 e.2.2).2.1 (w_T e.2.1 e.2.2).2.2.1 ∈ w_tbl := by decide +kernel
set_option maxRecDepth 100000 in
theorem w_flok5 : ∀ e ∈ w_fl5, e.2.1 < 9 ∧ e.2.2 < w_nf e.2.1 ∧ Cond.fieldLink RX5 e.1 (w_C e.2.1) (w_T e.2.1 e.2.2).2.1 (w_T e.2.1 e.2.2).2.2.1 ∈ w_tbl := by decide +kernel
set_option maxRecDepth 100000 in
theorem w_flok6 : ∀ e ∈ w_fl6, e.2.1 < 9 ∧ e.2.2 < w_nf e.2.1 ∧ Cond.fieldLink RX6 e.1 (w_C e.2.1) (w_T e.2.1 e.2.2).2.1 (w_T e.2.1 e.2.2).2.2.1 ∈ w_tbl := by decide +kernel
set_option maxRecDepth 100000 in
theorem w_flok7 : ∀ e ∈ w_fl7, e.2.1 < 9 ∧ e.2.2 < w_nf e.2.1 ∧ Cond.fieldLink RX7 e.1 (w_C e.2.1) (w_T e.2.1 e.2.2).2.1 (w_T e.2.1 e.2.2).2.2.1 ∈ w_tbl := by decide +kernel
set_option maxRecDepth 100000 in
theorem w_flok8 : ∀ e ∈ w_fl8, e.2.1 < 9 ∧ e.2.2 < w_nf e.2.1 ∧ Cond.fieldLink RX8 e.1 (w_C e.2.1) (w_T e.2.1 e.2.2).2.1 (w_T e.2.1 e.2.2).2.2.1 ∈ w_tbl := by decide +kernel
set_option maxRecDepth 100000 in
theorem w_k32ok7 : ∀ e ∈ w_k32 7, Cond.constant (w_C 7) e.1 e.2 ∈ w_tbl := by decide +kernel
set_option maxRecDepth 100000 in
theorem w_k32ok8 : ∀ e ∈ w_k32 8, Cond.constant (w_C 8) e.1 e.2 ∈ w_tbl := by decide +kernel
set_option maxRecDepth 100000 in
theorem w_k32ok9 : ∀ e ∈ w_k32 9, Cond.constant (w_C 9) e.1 e.2 ∈ w_tbl := by decide +kernel
set_option maxRecDepth 100000 in
theorem w_k64ok1 : ∀ e ∈ w_k64 1, Cond.constantLong (w_C 1) e.1 e.2 ∈ w_tbl := by decide +kernel
set_option maxRecDepth 100000 in
theorem w_k64ok6 : ∀ e ∈ w_k64 6, Cond.constantLong (w_C 6) e.1 e.2 ∈ w_tbl := by decide +kernel
set_option maxRecDepth 100000 in
theorem w_k64ok8 : ∀ e ∈ w_k64 8, Cond.constantLong (w_C 8) e.1 e.2 ∈ w_tbl := by decide +kernel
set_option maxRecDepth 100000 in
theorem w_k64ok10 : ∀ e ∈ w_k64 10, Cond.constantLong (w_C 10) e.1 e.2 ∈ w_tbl := by decide +kernel
end
section
/-! pure states: a reference is a place of the world; the memory is place → slot → int; references among places don't change -/
abbrev wL : Type := List (Option Value)
abbrev wM : Type := Nat → Nat → Int32
abbrev wSh : Type := Nat → Nat ⊕ (Nat × Nat)
abbrev wK : Type := Nat → wL → List Value → wM → Prop
/-- a call's words: static?, void?, how many values, what must hold ahead, what holds behind (a void method's answer is 0) -/
abbrev wS : Type := Bool × Bool × Nat × (List Value → wM → Prop) × (List Value → wM → Int32 → wM → Prop)
abbrev wT : Type := List (Instr × Nat × List Nat)
def w_tr (ad : Nat → Nat) : Value → Value
  | .ref q => .ref (ad q)
  | v => v
def w_up (μ : wM) (q j : Nat) (x : Int32) : wM := fun a b => if a = q ∧ b = j then x else μ a b
theorem w_up_o {μ : wM} {q j : Nat} {x : Int32} {a : Nat} (h : a ≠ q) : w_up μ q j x a = μ a := by
  funext b
  simp [w_up, h]
theorem w_up_s {μ : wM} {q j : Nat} {x : Int32} : w_up μ q j x q = upd (μ q) j x := by
  funext b
  simp [w_up, upd]
def w_fv (rf : Nat → Nat → Nat) (ad : Nat → Nat) (μ : wM) (ci q j : Nat) : Value := match w_fk ci j with
  | true => .ref (ad (rf q j))
  | false => .int (μ q j)
def w_e (kc : Nat → ClassId) (sh : wSh) (rf : Nat → Nat → Nat) (ad : Nat → Nat) (μ : wM) (q : Nat) : va_E := match sh q with
  | .inl ci => .inr (ci, (List.range (w_nf ci)).map (w_fv rf ad μ ci q))
  | .inr (0, len) => .inl (kc 0, len, .inl (μ q))
  | .inr (1, len) => .inl (kc 1, len, .inl (μ q))
  | .inr (k + 2, len) => .inl (kc (k + 2), len, .inr (.inr (.inr (.inr (fun j => some (ad (rf q j)))))))
def w_w (kc : Nat → ClassId) (sh : wSh) (rf : Nat → Nat → Nat) (n : Nat) (ad : Nat → Nat) (μ : wM) : va_W := (List.range n).map (fun q => (ad q, w_e kc sh rf ad μ q))
theorem w_get {α : Type} {n : Nat} {f : Nat → α} {q : Nat} (h : q < n) : ((List.range n).map f)[q]? = some (f q) := by simp [h]
theorem w_set {α : Type} {n : Nat} {f g : Nat → α} {q : Nat} {v : α} (hq : q < n) (h1 : g q = v) (h2 : ∀ i, i ≠ q → g i = f i) : ((List.range n).map f).set q v = (List.range n).map g := by
  apply List.ext_getElem?
  intro i
  rw [List.getElem?_set]
  by_cases h : q = i
  · subst h
    simp [hq, h1]
  · rw [if_neg h]
    by_cases hi : i < n
    · rw [w_get hi, w_get hi, h2 i (fun e => h e.symm)]
    · simp [hi]
theorem w_e_o {kc : Nat → ClassId} {sh : wSh} {rf : Nat → Nat → Nat} {ad : Nat → Nat} {μ μ' : wM} {q : Nat} (h : μ' q = μ q) : w_e kc sh rf ad μ' q = w_e kc sh rf ad μ q := by
  unfold w_e w_fv
  rw [h]
def w_A (n : Nat) (ad : Nat → Nat) (sz : Nat) : Nat → Prop := fun q => (∃ k, k < n ∧ ad k = q) ∨ sz ≤ q
theorem w_A_eq {kc : Nat → ClassId} {sh : wSh} {rf : Nat → Nat → Nat} {n : Nat} {ad : Nat → Nat} {μ : wM} {sz : Nat} : va_A (w_w kc sh rf n ad μ) sz = w_A n ad sz := by
  funext q
  apply propext
  constructor
  · rintro (⟨k, e, h⟩ | h)
    · refine Or.inl ⟨k, ?_⟩
      unfold w_w at h
      by_cases hk : k < n
      · rw [w_get hk] at h
        exact ⟨hk, congrArg Prod.fst (Option.some.inj h)⟩
      · simp [hk] at h
    · exact Or.inr h
  · rintro (⟨k, hk, h⟩ | h)
    · exact Or.inl ⟨k, w_e kc sh rf ad μ k, by unfold w_w; rw [w_get hk, h]⟩
    · exact Or.inr h
/-- the places' addresses are apart, and of a kind -/
def w_ap (n : Nat) (ad : Nat → Nat) (A : Nat → Prop) : Prop := (∀ i j, i < n → j < n → ad i = ad j → i = j) ∧ ∀ i, i < n → A (ad i)
theorem w_D {kc : Nat → ClassId} {sh : wSh} {rf : Nat → Nat → Nat} {n : Nat} {ad : Nat → Nat} {A : Nat → Prop} (h : w_ap n ad A) (μ : wM) : va_D A (w_w kc sh rf n ad μ) := by
  have key : ∀ (k : Nat) (q : Nat × va_E), (w_w kc sh rf n ad μ)[k]? = some q → k < n ∧ q.1 = ad k := by
    intro k q hq
    unfold w_w at hq
    by_cases hk : k < n
    · rw [w_get hk] at hq
      exact ⟨hk, (congrArg Prod.fst (Option.some.inj hq)).symm⟩
    · simp [hk] at hq
  refine ⟨fun i j p q h1 h2 e => ?_, fun k q h1 => ?_⟩
  · obtain ⟨a1, a2⟩ := key i p h1
    obtain ⟨b1, b2⟩ := key j q h2
    exact h.1 i j a1 b1 (by rw [← a2, ← b2]; exact e)
  · obtain ⟨a1, a2⟩ := key k q h1
    rw [a2]
    exact h.2 k a1
theorem w_D' {kc : Nat → ClassId} {sh : wSh} {rf : Nat → Nat → Nat} {n : Nat} {ad : Nat → Nat} {A : Nat → Prop} {μ : wM} (h : va_D A (w_w kc sh rf n ad μ)) : w_ap n ad A := by
  refine ⟨fun i j hi hj e => ?_, fun i hi => ?_⟩
  · exact h.1 i j (ad i, w_e kc sh rf ad μ i) (ad j, w_e kc sh rf ad μ j) (by unfold w_w; rw [w_get hi]) (by unfold w_w; rw [w_get hj]) e
  · exact h.2 i (ad i, w_e kc sh rf ad μ i) (by unfold w_w; rw [w_get hi])
/-! locals -/
def w_pics (ad : Nat → Nat) (ls : wL) : List (Nat × Value) := (List.range ls.length).filterMap (fun i => match ls[i]? with
  | some (some v) => some (i, w_tr ad v)
  | _ => none)
theorem w_pics_mem {ad : Nat → Nat} {ls : wL} {i : Nat} {w : Value} : (i, w) ∈ w_pics ad ls ↔ ∃ v, ls[i]? = some (some v) ∧ w = w_tr ad v := by
  unfold w_pics
  rw [List.mem_filterMap]
  constructor
  · rintro ⟨j, hj, h⟩
    split at h
    · next v hv =>
      cases h
      exact ⟨v, hv, rfl⟩
    · cases h
  · rintro ⟨v, hv, rfl⟩
    refine ⟨i, List.mem_range.mpr (List.getElem?_eq_some_iff.mp hv).1, ?_⟩
    rw [hv]
def w_lok (ad : Nat → Nat) (nL : Nat) (ls : wL) (la : Array Slot) : Prop := ls.length = nL ∧ lv_has la nL (w_pics ad ls)
theorem w_lok.at {ad : Nat → Nat} {nL : Nat} {ls : wL} {la : Array Slot} (h : w_lok ad nL ls la) {i : Nat} {v : Value} (hv : ls[i]? = some (some v)) : la[i]? = some (.val (w_tr ad v)) := h.2.2.2 _ (w_pics_mem.mpr ⟨v, hv, rfl⟩)
theorem w_lok.forg {ad : Nat → Nat} {nL : Nat} {ls : wL} {la : Array Slot} (h : w_lok ad nL ls la) (k : Nat) : w_lok ad nL (ls.set k none) la := by
  refine ⟨by rw [List.length_set]; exact h.1, h.2.1, h.2.2.1, fun q hq => ?_⟩
  obtain ⟨i, w⟩ := q
  obtain ⟨u, hu, rfl⟩ := w_pics_mem.mp hq
  rw [List.getElem?_set] at hu
  by_cases e : k = i
  · subst e
    rw [if_pos rfl] at hu
    by_cases hl : k < ls.length
    · rw [if_pos hl] at hu
      cases hu
    · rw [if_neg hl] at hu
      cases hu
  · rw [if_neg e] at hu
    exact h.2.2.2 _ (w_pics_mem.mpr ⟨u, hu, rfl⟩)
/-- the local ahead of k is no long -/
def w_nl (ls : wL) (k : Nat) : Bool := match k with
  | 0 => true
  | j + 1 => match ls[j]? with
    | some (some (.long _)) => false
    | some (some (.double _)) => false
    | _ => true
theorem w_tr_cat (ad : Nat → Nat) (v : Value) : (w_tr ad v).category = v.category := by cases v <;> rfl
theorem w_nl_e {ls : wL} {i : Nat} (h : w_nl ls (i + 1) = true) {v : Value} (hv : ls[i]? = some (some v)) : ¬ v.category = 2 := by
  unfold w_nl at h
  simp only [hv] at h
  cases v <;> simp_all [Value.category]
theorem w_lok.set1 {ad : Nat → Nat} {nL : Nat} {ls : wL} {la la' : Array Slot} {k : Nat} {v : Value} (h : w_lok ad nL ls la) (hk : k < ls.length) (hn : w_nl ls k = true) (h2 : lv_has la' nL ((k, w_tr ad v) :: (w_pics ad ls).filter (fun q => !(q.1 == k) && !(q.1 + 1 == k && q.2.category == 2)))) : w_lok ad nL (ls.set k (some v)) la' := by
  refine ⟨by rw [List.length_set]; exact h.1, h2.1, h2.2.1, fun q hq => ?_⟩
  obtain ⟨i, w⟩ := q
  obtain ⟨u, hu, rfl⟩ := w_pics_mem.mp hq
  rw [List.getElem?_set] at hu
  by_cases e : k = i
  · subst e
    rw [if_pos rfl, if_pos hk] at hu
    cases hu
    exact h2.2.2 _ List.mem_cons_self
  · rw [if_neg e] at hu
    refine h2.2.2 _ (List.mem_cons_of_mem _ (List.mem_filter.mpr ⟨w_pics_mem.mpr ⟨u, hu, rfl⟩, ?_⟩))
    have e2 : ¬ i = k := fun z => e z.symm
    by_cases e3 : i + 1 = k
    · subst e3
      have := w_nl_e hn hu
      simp [w_tr_cat, this]
    · simp [e2, e3]
theorem w_lok.set2 {ad : Nat → Nat} {nL : Nat} {ls : wL} {la la' : Array Slot} {k : Nat} {v : Value} (h : w_lok ad nL ls la) (hk : k + 1 < ls.length) (hn : w_nl ls k = true) (h2 : lv_has la' nL ((k, w_tr ad v) :: (w_pics ad ls).filter (fun q => !(q.1 == k) && (!(q.1 == k + 1) && !(q.1 + 1 == k && q.2.category == 2))))) : w_lok ad nL ((ls.set k (some v)).set (k + 1) none) la' := by
  refine ⟨by rw [List.length_set, List.length_set]; exact h.1, h2.1, h2.2.1, fun q hq => ?_⟩
  obtain ⟨i, w⟩ := q
  obtain ⟨u, hu, rfl⟩ := w_pics_mem.mp hq
  rw [List.getElem?_set] at hu
  by_cases e0 : k + 1 = i
  · subst e0
    rw [if_pos rfl, List.length_set, if_pos hk] at hu
    cases hu
  rw [if_neg e0, List.getElem?_set] at hu
  by_cases e : k = i
  · subst e
    rw [if_pos rfl, if_pos (by omega)] at hu
    cases hu
    exact h2.2.2 _ List.mem_cons_self
  · rw [if_neg e] at hu
    refine h2.2.2 _ (List.mem_cons_of_mem _ (List.mem_filter.mpr ⟨w_pics_mem.mpr ⟨u, hu, rfl⟩, ?_⟩))
    have e2 : ¬ i = k := fun z => e z.symm
    have e4 : ¬ i = k + 1 := fun z => e0 z.symm
    by_cases e3 : i + 1 = k
    · subst e3
      have := w_nl_e hn hu
      simp [w_tr_cat, this]
      omega
    · simp [e2, e3, e4]
/-! the pure step: what must hold ahead of an instruction, so that K holds behind it -/
def w_i (st : List Value) (f : Int32 → List Value → Prop) : Prop := match st with
  | .int x :: r => f x r
  | _ => False
def w_ii (st : List Value) (f : Int32 → Int32 → List Value → Prop) : Prop := match st with
  | .int y :: .int x :: r => f x y r
  | _ => False
def w_l (st : List Value) (f : Int64 → List Value → Prop) : Prop := match st with
  | .long x :: r => f x r
  | _ => False
def w_ll (st : List Value) (f : Int64 → Int64 → List Value → Prop) : Prop := match st with
  | .long y :: .long x :: r => f x y r
  | _ => False
def w_li (st : List Value) (f : Int64 → Int32 → List Value → Prop) : Prop := match st with
  | .int y :: .long x :: r => f x y r
  | _ => False
def w_r (st : List Value) (f : Nat → List Value → Prop) : Prop := match st with
  | .ref q :: r => f q r
  | _ => False
def w_ir (st : List Value) (f : Nat → Int32 → List Value → Prop) : Prop := match st with
  | .int i :: .ref q :: r => f q i r
  | _ => False
def w_iir (st : List Value) (f : Nat → Int32 → Int32 → List Value → Prop) : Prop := match st with
  | .int x :: .int i :: .ref q :: r => f q i x r
  | _ => False
def w_lv (ls : wL) (k : Nat) (f : Value → Prop) : Prop := match ls[k]? with
  | some (some v) => f v
  | _ => False
def w_st1 (ls : wL) (k : Nat) (v : Value) (f : wL → Prop) : Prop := match Nat.blt k ls.length && w_nl ls k with
  | true => f (ls.set k (some v))
  | false => False
def w_st2 (ls : wL) (k : Nat) (v : Value) (f : wL → Prop) : Prop := match Nat.blt (k + 1) ls.length && w_nl ls k with
  | true => f ((ls.set k (some v)).set (k + 1) none)
  | false => False
def w_sw (x : Int32) (f : Nat → Prop) : Int → List Nat → Prop
  | _, [] => True
  | a, t :: ts => (x.toInt = a → f t) ∧ w_sw x f (a + 1) ts
def w_inA (sh : wSh) (n k q : Nat) (i : Int32) : Prop := q < n ∧ ∃ len, sh q = .inr (k, len) ∧ vp_in i len
def w_al (sh : wSh) (q : Nat) : Nat := match sh q with
  | .inr (_, len) => len
  | _ => 0
def w_pv (rf : Nat → Nat → Nat) (μ : wM) (ci q j : Nat) : Value := match w_fk ci j with
  | true => .ref (rf q j)
  | false => .int (μ q j)
def w_bit (x : Int32) : Prop := x = 0 ∨ x = 1
def w_rok (rty : Option FieldType) (x : Int32) : Prop := match rty with
  | some .int => True
  | some .boolean => w_bit x
  | _ => False
def w_fok (ty : FieldType) (x : Int32) : Prop := match ty with
  | .int => True
  | .boolean => w_bit x
  | _ => False
def w_pr (vd : Bool) (r : Int32) (st : List Value) : List Value := match vd with
  | true => st
  | false => .int r :: st
def w_call (static : Bool) (S : Option wS) (st : List Value) (μ : wM) (f : List Value → wM → Prop) : Prop := match S with
  | none => False
  | some S => match S.1 == static && Nat.ble S.2.2.1 st.length && Nat.ble (st.drop S.2.2.1).length 4 with
    | true => S.2.2.2.1 (st.take S.2.2.1).reverse μ ∧ ∀ r μ', S.2.2.2.2 (st.take S.2.2.1).reverse μ r μ' → f (w_pr S.2.1 r (st.drop S.2.2.1)) μ'
    | false => False
def w_b (c : Jvm.ClassFile.Cond) (x y : Int32) (T F : Prop) : Prop := match c with
  | .eq => (x = y → T) ∧ (¬ x = y → F)
  | .ne => (x = y → F) ∧ (¬ x = y → T)
  | .lt => (x < y → T) ∧ (¬ x < y → F)
  | .ge => (y ≤ x → T) ∧ (¬ y ≤ x → F)
  | .gt => (y < x → T) ∧ (¬ y < x → F)
  | .le => (x ≤ y → T) ∧ (¬ x ≤ y → F)
def w_1 (o : Nat) (Γ : Nat → Option wS) (sh : wSh) (rf : Nat → Nat → Nat) (n : Nat) (rty : Option FieldType) (ret : Int32 → wM → Prop) (ins : Instr) (tg : List Nat) (K : wK) (i : Nat) (ls : wL) (st : List Value) (μ : wM) : Prop :=
  match ins with
  | .aload_n k => w_lv ls k fun v => (match v with
    | .ref q => K (i + 1) ls (.ref q :: st) μ
    | _ => False)
  | .aload k => w_lv ls k fun v => (match v with
    | .ref q => K (i + 1) ls (.ref q :: st) μ
    | _ => False)
  | .iload_n k => w_lv ls k fun v => (match v with
    | .int q => K (i + 1) ls (.int q :: st) μ
    | _ => False)
  | .iload k => w_lv ls k fun v => (match v with
    | .int q => K (i + 1) ls (.int q :: st) μ
    | _ => False)
  | .lload_n k => w_lv ls k fun v => (match v with
    | .long q => K (i + 1) ls (.long q :: st) μ
    | _ => False)
  | .istore_n k => w_i st fun x r => w_st1 ls k (.int x) fun ls' => K (i + 1) ls' r μ
  | .istore k => w_i st fun x r => w_st1 ls k (.int x) fun ls' => K (i + 1) ls' r μ
  | .astore_n k => w_r st fun x r => w_st1 ls k (.ref x) fun ls' => K (i + 1) ls' r μ
  | .astore k => w_r st fun x r => w_st1 ls k (.ref x) fun ls' => K (i + 1) ls' r μ
  | .lstore_n k => w_l st fun x r => w_st2 ls k (.long x) fun ls' => K (i + 1) ls' r μ
  | .iinc k d => w_lv ls k fun v => (match v with
    | .int x => w_st1 ls k (.int (x + Int32.ofInt d)) fun ls' => K (i + 1) ls' st μ
    | _ => False)
  | .iconst v => K (i + 1) ls (.int (Int32.ofInt v) :: st) μ
  | .bipush v => K (i + 1) ls (.int (Int8.ofInt v).toInt32 :: st) μ
  | .sipush v => K (i + 1) ls (.int (Int16.ofInt v).toInt32 :: st) μ
  | .lconst v => K (i + 1) ls (.long (Int64.ofNat (v : Nat)) :: st) μ
  | .ldc k => (match w_lk (w_k32 o) k with
    | some v => K (i + 1) ls (.int v :: st) μ
    | none => False)
  | .ldc_w k => (match w_lk (w_k32 o) k with
    | some v => K (i + 1) ls (.int v :: st) μ
    | none => False)
  | .ldc2_w k => (match w_lk (w_k64 o) k with
    | some v => K (i + 1) ls (.long v :: st) μ
    | none => False)
  | .iadd => w_ii st fun x y r => K (i + 1) ls (.int (x + y) :: r) μ
  | .isub => w_ii st fun x y r => K (i + 1) ls (.int (x - y) :: r) μ
  | .imul => w_ii st fun x y r => K (i + 1) ls (.int (x * y) :: r) μ
  | .iand => w_ii st fun x y r => K (i + 1) ls (.int (x &&& y) :: r) μ
  | .ior => w_ii st fun x y r => K (i + 1) ls (.int (x ||| y) :: r) μ
  | .ixor => w_ii st fun x y r => K (i + 1) ls (.int (x ^^^ y) :: r) μ
  | .idiv => w_ii st fun x y r => y ≠ 0 ∧ K (i + 1) ls (.int (x / y) :: r) μ
  | .irem => w_ii st fun x y r => y ≠ 0 ∧ K (i + 1) ls (.int (x - x / y * y) :: r) μ
  | .ishl => w_ii st fun x y r => K (i + 1) ls (.int (x <<< (y &&& 31)) :: r) μ
  | .ishr => w_ii st fun x y r => K (i + 1) ls (.int (x >>> (y &&& 31)) :: r) μ
  | .iushr => w_ii st fun x y r => K (i + 1) ls (.int ((x.toUInt32 >>> (y.toUInt32 &&& Int32.toUInt32 31)).toInt32) :: r) μ
  | .ladd => w_ll st fun x y r => K (i + 1) ls (.long (x + y) :: r) μ
  | .lsub => w_ll st fun x y r => K (i + 1) ls (.long (x - y) :: r) μ
  | .lmul => w_ll st fun x y r => K (i + 1) ls (.long (x * y) :: r) μ
  | .land => w_ll st fun x y r => K (i + 1) ls (.long (x &&& y) :: r) μ
  | .lor => w_ll st fun x y r => K (i + 1) ls (.long (x ||| y) :: r) μ
  | .ldiv => w_ll st fun x y r => y ≠ 0 ∧ K (i + 1) ls (.long (x / y) :: r) μ
  | .lcmp => w_ll st fun x y r => K (i + 1) ls (.int (lg_cmp x y) :: r) μ
  | .lshl => w_li st fun x y r => K (i + 1) ls (.long (x <<< (y.toInt64 &&& 63)) :: r) μ
  | .lshr => w_li st fun x y r => K (i + 1) ls (.long (x >>> (y.toInt64 &&& 63)) :: r) μ
  | .lushr => w_li st fun x y r => K (i + 1) ls (.long ((x.toUInt64 >>> (y.toInt64.toUInt64 &&& Int64.toUInt64 63)).toInt64) :: r) μ
  | .i2l => w_i st fun x r => K (i + 1) ls (.long x.toInt64 :: r) μ
  | .l2i => w_l st fun x r => K (i + 1) ls (.int x.toInt32 :: r) μ
  | .i2b => w_i st fun x r => K (i + 1) ls (.int x.toInt8.toInt32 :: r) μ
  | .i2s => w_i st fun x r => K (i + 1) ls (.int x.toInt16.toInt32 :: r) μ
  | .dup => (match st with
    | .int x :: r => K (i + 1) ls (.int x :: .int x :: r) μ
    | .ref x :: r => K (i + 1) ls (.ref x :: .ref x :: r) μ
    | _ => False)
  | .dup2 => (match st with
    | .int x :: .ref y :: r => K (i + 1) ls (.int x :: .ref y :: .int x :: .ref y :: r) μ
    | _ => False)
  | .pop => w_i st fun _ r => K (i + 1) ls r μ
  | .goto _ => (match tg with
    | [t] => K t ls st μ
    | _ => False)
  | .ifCond c _ => (match tg with
    | [t] => w_i st fun x r => w_b c x 0 (K t ls r μ) (K (i + 1) ls r μ)
    | _ => False)
  | .if_icmp c _ => (match tg with
    | [t] => w_ii st fun x y r => w_b c x y (K t ls r μ) (K (i + 1) ls r μ)
    | _ => False)
  | .tableswitch _ lo hi _ => (match tg with
    | d :: ts => w_i st fun x r => w_sw x (fun t => K t ls r μ) lo ts ∧ (x.toInt < lo ∨ hi < x.toInt → K d ls r μ)
    | _ => False)
  | .getfield k => (match w_lk (w_fl o) k with
    | some e => w_r st fun q r => (q < n ∧ sh q = .inl e.1) ∧ K (i + 1) ls (w_pv rf μ e.1 q e.2 :: r) μ
    | none => False)
  | .putfield k => (match w_lk (w_fl o) k with
    | some e => (match (w_T e.1 e.2).2.2.2 || w_fk e.1 e.2 with
      | false => w_ir st fun q x r => (q < n ∧ sh q = .inl e.1 ∧ w_fok (w_ty e.1 e.2) x) ∧ K (i + 1) ls r (w_up μ q e.2 x)
      | true => False)
    | none => False)
  | .iaload => w_ir st fun q j r => w_inA sh n 0 q j ∧ K (i + 1) ls (.int (μ q j.toNatClampNeg) :: r) μ
  | .baload => w_ir st fun q j r => w_inA sh n 1 q j ∧ K (i + 1) ls (.int (μ q j.toNatClampNeg) :: r) μ
  | .aaload => w_ir st fun q j r => (w_inA sh n 2 q j ∨ w_inA sh n 3 q j) ∧ K (i + 1) ls (.ref (rf q j.toNatClampNeg) :: r) μ
  | .iastore => w_iir st fun q j x r => w_inA sh n 0 q j ∧ K (i + 1) ls r (w_up μ q j.toNatClampNeg x)
  | .bastore => w_iir st fun q j x r => (w_inA sh n 1 q j ∧ w_bit x) ∧ K (i + 1) ls r (w_up μ q j.toNatClampNeg x)
  | .arraylength => w_r st fun q r => (q < n ∧ sh q = .inr (0, w_al sh q)) ∧ K (i + 1) ls (.int (nI (w_al sh q)) :: r) μ
  | .invokevirtual k => w_call false (Γ k) st μ fun st' μ' => K (i + 1) ls st' μ'
  | .invokestatic k => w_call true (Γ k) st μ fun st' μ' => K (i + 1) ls st' μ'
  | .ireturn => (match st with
    | [.int x] => w_rok rty x ∧ ret x μ
    | _ => False)
  | .return_ => (match st, rty with
    | [], none => ret 0 μ
    | _, _ => False)
  | _ => False
noncomputable def w_at {α : Type} (l : List α) : Nat → Option α := List.rec (fun _ => none) (fun a _ ih i => Nat.rec (some a) (fun j _ => ih j) i) l
/-- locals forgotten at a cut -/
def w_fg (ks : List Nat) (ls : wL) : wL := match ks with
  | [] => ls
  | k :: ks => w_fg ks (ls.set k none)
noncomputable def w_n (o : Nat) (Γ : Nat → Option wS) (sh : wSh) (rf : Nat → Nat → Nat) (n : Nat) (rty : Option FieldType) (ret : Int32 → wM → Prop) (tb : wT) (cut : Nat → Option (List Nat)) (K : wK) (fuel : Nat) : wK :=
  Nat.rec K (fun _ ih i ls st μ => match w_at tb i with
    | none => False
    | some t => w_1 o Γ sh rf n rty ret t.1 t.2.2 (fun j ls' st' μ' => match cut j with
      | some ks => K j (w_fg ks ls') st' μ'
      | none => ih j ls' st' μ') i ls st μ) fuel
/-- closed under all walks -/
def w_cl (o : Nat) (Γ : Nat → Option wS) (sh : wSh) (rf : Nat → Nat → Nat) (n : Nat) (rty : Option FieldType) (ret : Int32 → wM → Prop) (tb : wT) (K : wK) : Prop :=
  ∀ (cut : Nat → Option (List Nat)) (fuel i : Nat) (ls : wL) (st : List Value) (μ : wM), w_n o Γ sh rf n rty ret tb cut K fuel i ls st μ → K i ls st μ
end
section
/-! an instruction table against the bytes -/
def w_isw : Instr → Bool
  | .tableswitch .. => true
  | _ => false
def w_end : Instr → Bool
  | .tableswitch .. => true
  | .goto _ => true
  | .ireturn => true
  | .return_ => true
  | _ => false
def w_len : Instr → Nat
  | .bipush _ => 2
  | .iload _ => 2
  | .istore _ => 2
  | .aload _ => 2
  | .astore _ => 2
  | .ldc _ => 2
  | .sipush _ => 3
  | .goto _ => 3
  | .ifCond .. => 3
  | .if_icmp .. => 3
  | .getfield _ => 3
  | .putfield _ => 3
  | .invokevirtual _ => 3
  | .invokestatic _ => 3
  | .iinc .. => 3
  | .ldc_w _ => 3
  | .ldc2_w _ => 3
  | _ => 1
noncomputable def w_pc (tb : wT) (i : Nat) : Nat := match w_at tb i with
  | some t => t.2.1
  | none => 0
noncomputable def w_tgB (tb : wT) (pc : Nat) (ins : Instr) (tg : List Nat) : Bool := match ins with
  | .goto off => (match tg with
    | [t] => decide ((pc : Int) + off = (w_pc tb t : Int))
    | _ => false)
  | .ifCond _ off => (match tg with
    | [t] => decide ((pc : Int) + off = (w_pc tb t : Int))
    | _ => false)
  | .if_icmp _ off => (match tg with
    | [t] => decide ((pc : Int) + off = (w_pc tb t : Int))
    | _ => false)
  | .tableswitch d lo hi offs => (match tg with
    | t :: ts => decide ((pc : Int) + d = (w_pc tb t : Int)) && decide (hi - lo + 1 = (ts.length : Int)) && decide (offs.toList.map (fun x => (pc : Int) + x) = ts.map (fun t => (w_pc tb t : Int)))
    | _ => false)
  | _ => true
noncomputable def w_okE (cc : ByteArray) (tb : wT) (i : Nat) (t : Instr × Nat × List Nat) : Bool :=
  (match decode cc t.2.1 with
    | .ok r => decide (r.1 = t.1) && (w_isw t.1 || decide (r.2 = w_len t.1))
    | .error _ => false) && (w_end t.1 || decide (w_pc tb (i + 1) = t.2.1 + w_len t.1)) && w_tgB tb t.2.1 t.1 t.2.2
noncomputable def w_okFrom (cc : ByteArray) (tb : wT) : Nat → wT → Bool
  | _, [] => true
  | i, t :: ts => w_okE cc tb i t && w_okFrom cc tb (i + 1) ts
noncomputable def w_ok (cc : ByteArray) (tb : wT) : Bool := w_okFrom cc tb 0 tb
theorem w_at_nil {α : Type} (i : Nat) : w_at ([] : List α) i = none := rfl
theorem w_at_0 {α : Type} (a : α) (l : List α) : w_at (a :: l) 0 = some a := rfl
theorem w_at_s {α : Type} (a : α) (l : List α) (i : Nat) : w_at (a :: l) (i + 1) = w_at l i := rfl
theorem w_okFrom_at {cc : ByteArray} {tb : wT} : ∀ (l : wT) (j i : Nat) (t : Instr × Nat × List Nat), w_okFrom cc tb j l = true → w_at l i = some t → w_okE cc tb (j + i) t = true := by
  intro l
  induction l with
  | nil => intro j i t _ h; cases h
  | cons a l ih =>
    intro j i t h h2
    have h : (w_okE cc tb j a && w_okFrom cc tb (j + 1) l) = true := h
    rw [Bool.and_eq_true] at h
    cases i with
    | zero =>
      cases h2
      exact h.1
    | succ i =>
      have := ih (j + 1) i t h.2 h2
      rw [show j + (i + 1) = j + 1 + i by omega]
      exact this
theorem w_ok_at {cc : ByteArray} {tb : wT} (h : w_ok cc tb = true) {i : Nat} {t : Instr × Nat × List Nat} (ht : w_at tb i = some t) : w_okE cc tb i t = true := by
  have := w_okFrom_at tb 0 i t h ht
  rwa [Nat.zero_add] at this
theorem w_okE_e {cc : ByteArray} {tb : wT} {i : Nat} {t : Instr × Nat × List Nat} (h : w_okE cc tb i t = true) :
    (∃ L, decode cc t.2.1 = .ok (t.1, L) ∧ (w_isw t.1 = false → L = w_len t.1)) ∧ (w_end t.1 = false → w_pc tb (i + 1) = t.2.1 + w_len t.1) ∧ w_tgB tb t.2.1 t.1 t.2.2 = true := by
  unfold w_okE at h
  rw [Bool.and_eq_true, Bool.and_eq_true] at h
  obtain ⟨⟨h1, h2⟩, h3⟩ := h
  refine ⟨?_, ?_, h3⟩
  · split at h1
    · next r hr =>
      rw [Bool.and_eq_true, Bool.or_eq_true] at h1
      refine ⟨r.2, ?_, fun z => ?_⟩
      · rw [hr, ← of_decide_eq_true h1.1]
      · rcases h1.2 with q | q
        · rw [z] at q; cases q
        · exact of_decide_eq_true q
    · cases h1
  · intro z
    rw [z, Bool.false_or] at h2
    exact of_decide_eq_true h2
/-! the machine's side -/
abbrev w_tys (kc : Nat → ClassId) : List (ClassId × FieldType) := [(kc 0, .int), (kc 1, .boolean), (kc 2, .object RX1), (kc 3, .object RX5)]
def w_NL (U : State) : Prop := va_Nw (.methodLinkNest RX1 30 yX7_within RX7) U ∧ va_Nw (.methodLinkNest RX6 22 yX7_within RX7) U
def w_ov (rty : Option FieldType) (r : Int32) : Option Value := match rty with
  | none => none
  | some _ => some (.int r)
def w_rm (d : Nat) : Room := { frames := d, cells := 0, slots := 0, locals := 40 * d }
section WSTEP
variable {p : Program} {l : Launch} {e : Env} {R : Room} {s : State} {m : MethodId} {args : Array Value} {below : List Frame} {meth : Method} {c : Code}
variable {D : va_G} {kc : Nat → ClassId} {sh : wSh} {rf : Nat → Nat → Nat} {n : Nat} {ad : Nat → Nat} {A : Nat → Prop} {H0 : Heap} {cc : ByteArray} {nL o : Nat} {rty : Option FieldType} {Q : State → Prop}
def w_env (p : Program) (s : State) (m : MethodId) (args : Array Value) (meth : Method) (c : Code) (D : va_G) (kc : Nat → ClassId) (n : Nat) (ad : Nat → Nat) (A : Nat → Prop) (H0 : Heap) (cc : ByteArray) (nL o : Nat) (rty : Option FieldType) : Prop :=
  p.tables.exec = Jvm.exec ∧ c.code = cc ∧ c.maxLocals = nL ∧ s.vm.findClass (w_C o) = some m.cls ∧ (∀ w ∈ w_tbl, w.before args s = true) ∧ va_K D vwCl (w_tys kc) s ∧ w_NL s ∧ (∀ q, H0.size ≤ q → A q) ∧ w_ap n ad A ∧ meth.locks = false ∧ meth.sig.returnType = rty
def w_sim (p : Program) (l : Launch) (e : Env) (R : Room) (s : State) (m : MethodId) (args : Array Value) (below : List Frame) (meth : Method) (c : Code) (D : va_G) (kc : Nat → ClassId) (sh : wSh) (rf : Nat → Nat → Nat) (n : Nat) (ad : Nat → Nat) (A : Nat → Prop) (H0 : Heap) (nL : Nat) (Q : State → Prop) (tb : wT) : wK := fun i ls st μ =>
  ∀ (H : Heap) (locs : List Loc) (la : Array Slot), va_P D vwCl (w_w kc sh rf n ad μ) H → va_S A H0 H locs → w_lok ad nL ls la → W p l e R s m args below meth c H locs 0 0 Q (F0 m (w_pc tb i) la (st.map (w_tr ad)))
/-- a call that may be made -/
def w_Call (l : Launch) (o idx : Nat) (S : wS) (d : Nat) (sh : wSh) (rf : Nat → Nat → Nat) (n : Nat) : Prop :=
  ∀ (p : Program) (e : Env) (s : State) (m : MethodId) (args : Array Value) (below : List Frame) (meth : Method) (c : Code) (D : va_G) (kc : Nat → ClassId) (ad : Nat → Nat) (A : Nat → Prop) (H0 : Heap) (cc : ByteArray) (nL : Nat) (rty : Option FieldType) (Q : State → Prop),
    w_env p s m args meth c D kc n ad A H0 cc nL o rty → ∀ (pc : Nat) (la : Array Slot) (as rest : List Value) (μ : wM) (H : Heap) (locs : List Loc), la.size = nL →
    decode cc pc = .ok ((match S.1 with | true => Instr.invokestatic idx | false => Instr.invokevirtual idx), 3) → as.length = S.2.2.1 → rest.length ≤ 4 → S.2.2.2.1 as μ → va_P D vwCl (w_w kc sh rf n ad μ) H → va_S A H0 H locs →
    (∀ (r : Int32) (μ' : wM) (H1 : Heap) (locs1 : List Loc), S.2.2.2.2 as μ r μ' → va_P D vwCl (w_w kc sh rf n ad μ') H1 → va_S A H0 H1 locs1 → W p l e (w_rm d) s m args below meth c H1 locs1 0 0 Q (F0 m (pc + 3) la ((w_pr S.2.1 r rest).map (w_tr ad)))) →
    W p l e (w_rm d) s m args below meth c H locs 0 0 Q (F0 m pc la ((as.reverse ++ rest).map (w_tr ad)))
theorem w_i_e {st : List Value} {f : Int32 → List Value → Prop} (h : w_i st f) : ∃ x r, st = .int x :: r ∧ f x r := by
  unfold w_i at h
  split at h
  · exact ⟨_, _, rfl, h⟩
  · exact h.elim
theorem w_ii_e {st : List Value} {f : Int32 → Int32 → List Value → Prop} (h : w_ii st f) : ∃ x y r, st = .int y :: .int x :: r ∧ f x y r := by
  unfold w_ii at h
  split at h
  · exact ⟨_, _, _, rfl, h⟩
  · exact h.elim
theorem w_l_e {st : List Value} {f : Int64 → List Value → Prop} (h : w_l st f) : ∃ x r, st = .long x :: r ∧ f x r := by
  unfold w_l at h
  split at h
  · exact ⟨_, _, rfl, h⟩
  · exact h.elim
theorem w_ll_e {st : List Value} {f : Int64 → Int64 → List Value → Prop} (h : w_ll st f) : ∃ x y r, st = .long y :: .long x :: r ∧ f x y r := by
  unfold w_ll at h
  split at h
  · exact ⟨_, _, _, rfl, h⟩
  · exact h.elim
theorem w_li_e {st : List Value} {f : Int64 → Int32 → List Value → Prop} (h : w_li st f) : ∃ x y r, st = .int y :: .long x :: r ∧ f x y r := by
  unfold w_li at h
  split at h
  · exact ⟨_, _, _, rfl, h⟩
  · exact h.elim
theorem w_r_e {st : List Value} {f : Nat → List Value → Prop} (h : w_r st f) : ∃ q r, st = .ref q :: r ∧ f q r := by
  unfold w_r at h
  split at h
  · exact ⟨_, _, rfl, h⟩
  · exact h.elim
theorem w_ir_e {st : List Value} {f : Nat → Int32 → List Value → Prop} (h : w_ir st f) : ∃ q i r, st = .int i :: .ref q :: r ∧ f q i r := by
  unfold w_ir at h
  split at h
  · exact ⟨_, _, _, rfl, h⟩
  · exact h.elim
theorem w_iir_e {st : List Value} {f : Nat → Int32 → Int32 → List Value → Prop} (h : w_iir st f) : ∃ q i x r, st = .int x :: .int i :: .ref q :: r ∧ f q i x r := by
  unfold w_iir at h
  split at h
  · exact ⟨_, _, _, _, rfl, h⟩
  · exact h.elim
theorem w_lv_e {ls : wL} {k : Nat} {f : Value → Prop} (h : w_lv ls k f) : ∃ v, ls[k]? = some (some v) ∧ f v := by
  unfold w_lv at h
  split at h
  · next v hv => exact ⟨v, hv, h⟩
  · exact h.elim
theorem w_st1_e {ls : wL} {k : Nat} {v : Value} {f : wL → Prop} (h : w_st1 ls k v f) : k < ls.length ∧ w_nl ls k = true ∧ f (ls.set k (some v)) := by
  unfold w_st1 at h
  split at h
  · next hb =>
    rw [Bool.and_eq_true] at hb
    exact ⟨Nat.lt_of_lt_of_le (Nat.lt_succ_self k) (Nat.le_of_ble_eq_true hb.1), hb.2, h⟩
  · exact h.elim
theorem w_st2_e {ls : wL} {k : Nat} {v : Value} {f : wL → Prop} (h : w_st2 ls k v f) : k + 1 < ls.length ∧ w_nl ls k = true ∧ f ((ls.set k (some v)).set (k + 1) none) := by
  unfold w_st2 at h
  split at h
  · next hb =>
    rw [Bool.and_eq_true] at hb
    exact ⟨Nat.lt_of_lt_of_le (Nat.lt_succ_self (k + 1)) (Nat.le_of_ble_eq_true hb.1), hb.2, h⟩
  · exact h.elim
theorem w_e_obj {μ : wM} {q ci : Nat} (h : sh q = .inl ci) : w_e kc sh rf ad μ q = .inr (ci, (List.range (w_nf ci)).map (w_fv rf ad μ ci q)) := by
  unfold w_e
  rw [h]
theorem w_e_int {μ : wM} {q len : Nat} (h : sh q = .inr (0, len)) : w_e kc sh rf ad μ q = .inl (kc 0, len, .inl (μ q)) := by
  unfold w_e
  rw [h]
theorem w_e_bool {μ : wM} {q len : Nat} (h : sh q = .inr (1, len)) : w_e kc sh rf ad μ q = .inl (kc 1, len, .inl (μ q)) := by
  unfold w_e
  rw [h]
theorem w_e_ref {μ : wM} {q k len : Nat} (h : sh q = .inr (k + 2, len)) : w_e kc sh rf ad μ q = .inl (kc (k + 2), len, .inr (.inr (.inr (.inr (fun j => some (ad (rf q j))))))) := by
  unfold w_e
  rw [h]
theorem w_w_at {μ : wM} {q : Nat} (h : q < n) : (w_w kc sh rf n ad μ)[q]? = some (ad q, w_e kc sh rf ad μ q) := by
  unfold w_w
  rw [w_get h]
theorem w_w_set {μ : wM} {q j : Nat} {x : Int32} {E : va_E} (h : q < n) (hE : w_e kc sh rf ad (w_up μ q j x) q = E) : (w_w kc sh rf n ad μ).set q (ad q, E) = w_w kc sh rf n ad (w_up μ q j x) := by
  unfold w_w
  refine w_set h ?_ ?_
  · rw [hE]
  · intro i hi
    rw [w_e_o (w_up_o hi)]
theorem w_pv_tr (μ : wM) (ci q j : Nat) : w_tr ad (w_pv rf μ ci q j) = w_fv rf ad μ ci q j := by
  unfold w_pv w_fv
  split <;> rfl
theorem w_cls (ci : Nat) (h : ci < 9) : vwCl[ci]? = some (w_C ci, w_T ci, w_nf ci) ∧ (∀ w ∈ u_ws (w_C ci) (w_T ci) (w_nf ci), w ∈ w_tbl) ∧ (∀ k, k < w_nf ci → parseFieldDescriptor (w_T ci k).2.2.1 = some (w_ty ci k)) ∧ (∀ a, a < w_nf ci → ∀ b, b < w_nf ci → a ≠ b → (w_T ci a).2.1 ≠ (w_T ci b).2.1) ∧ (∀ k, k < w_nf ci → (w_T ci k).1 = w_C ci) := by
  match ci, h with
  | 0, _ => exact ⟨rfl, w_us0, tyX0_ok, nmX0, by decide +kernel⟩
  | 1, _ => exact ⟨rfl, w_us1, tyX1_ok, nmX1, by decide +kernel⟩
  | 2, _ => exact ⟨rfl, w_us2, tyX2_ok, nmX2, by decide +kernel⟩
  | 3, _ => exact ⟨rfl, w_us3, tyX3_ok, nmX3, by decide +kernel⟩
  | 4, _ => exact ⟨rfl, w_us4, tyX4_ok, nmX4, by decide +kernel⟩
  | 5, _ => exact ⟨rfl, w_us5, tyX5_ok, nmX5, by decide +kernel⟩
  | 6, _ => exact ⟨rfl, w_us6, tyX6_ok, nmX6, by decide +kernel⟩
  | 7, _ => exact ⟨rfl, w_us7, tyX7_ok, nmX7, by decide +kernel⟩
  | 8, _ => exact ⟨rfl, w_us8, tyX8_ok, nmX8, by decide +kernel⟩
theorem w_flok (o : Nat) {k ci j : Nat} (h : w_lk (w_fl o) k = some (ci, j)) : ci < 9 ∧ j < w_nf ci ∧ Cond.fieldLink (w_C o) k (w_C ci) (w_T ci j).2.1 (w_T ci j).2.2.1 ∈ w_tbl := by
  have hm := w_lk_mem h
  match o, hm with
  | 0, hm => exact w_flok0 _ hm
  | 1, hm => exact w_flok1 _ hm
  | 2, hm => exact w_flok2 _ hm
  | 3, hm => exact w_flok3 _ hm
  | 4, hm => exact w_flok4 _ hm
  | 5, hm => exact w_flok5 _ hm
  | 6, hm => exact w_flok6 _ hm
  | 7, hm => exact w_flok7 _ hm
  | 8, hm => exact w_flok8 _ hm
  | _ + 9, hm => exact absurd hm List.not_mem_nil
theorem w_k32ok (o : Nat) {k : Nat} {v : Int32} (h : w_lk (w_k32 o) k = some v) : Cond.constant (w_C o) k v ∈ w_tbl := by
  have hm := w_lk_mem h
  match o, hm with
  | 7, hm => exact w_k32ok7 _ hm
  | 8, hm => exact w_k32ok8 _ hm
  | 9, hm => exact w_k32ok9 _ hm
  | 0, hm => exact absurd hm List.not_mem_nil
  | 1, hm => exact absurd hm List.not_mem_nil
  | 2, hm => exact absurd hm List.not_mem_nil
  | 3, hm => exact absurd hm List.not_mem_nil
  | 4, hm => exact absurd hm List.not_mem_nil
  | 5, hm => exact absurd hm List.not_mem_nil
  | 6, hm => exact absurd hm List.not_mem_nil
  | _ + 10, hm => exact absurd hm List.not_mem_nil
theorem w_k64ok (o : Nat) {k : Nat} {v : Int64} (h : w_lk (w_k64 o) k = some v) : Cond.constantLong (w_C o) k v ∈ w_tbl := by
  have hm := w_lk_mem h
  match o, hm with
  | 1, hm => exact w_k64ok1 _ hm
  | 6, hm => exact w_k64ok6 _ hm
  | 8, hm => exact w_k64ok8 _ hm
  | 10, hm => exact w_k64ok10 _ hm
  | 0, hm => exact absurd hm List.not_mem_nil
  | 2, hm => exact absurd hm List.not_mem_nil
  | 3, hm => exact absurd hm List.not_mem_nil
  | 4, hm => exact absurd hm List.not_mem_nil
  | 5, hm => exact absurd hm List.not_mem_nil
  | 7, hm => exact absurd hm List.not_mem_nil
  | 9, hm => exact absurd hm List.not_mem_nil
  | _ + 11, hm => exact absurd hm List.not_mem_nil
end WSTEP
end
section
theorem w_sw_e {x : Int32} {f : Nat → Prop} : ∀ (ts : List Nat) (a : Int) (j : Nat) (hj : j < ts.length), w_sw x f a ts → x.toInt = a + j → f ts[j] := by
  intro ts
  induction ts with
  | nil => intro a j hj; exact absurd hj (Nat.not_lt_zero _)
  | cons t ts ih =>
    intro a j hj h hx
    cases j with
    | zero => exact h.1 (by rw [hx]; simp)
    | succ j => exact ih (a + 1) j (by simpa using hj) h.2 (by rw [hx]; push_cast; omega)
section WSOUND
variable {p : Program} {l : Launch} {e : Env} {R : Room} {s : State} {m : MethodId} {args : Array Value} {below : List Frame} {meth : Method} {c : Code}
variable {D : va_G} {kc : Nat → ClassId} {sh : wSh} {rf : Nat → Nat → Nat} {n : Nat} {ad : Nat → Nat} {A : Nat → Prop} {H0 : Heap} {cc : ByteArray} {nL o d : Nat} {rty : Option FieldType} {Qc : Array Value → State → Outcome → State → Prop} {free : Addr → Prop}
set_option maxHeartbeats 4000000 in
set_option maxRecDepth 100000 in
/-- one instruction: the pure step is the machine's -/
theorem w_step {Γ : Nat → Option wS} {tb : wT} {ret : Int32 → wM → Prop} {K : wK} (E : w_env p s m args meth c D kc n ad A H0 cc nL o rty) (hok : w_ok cc tb = true)
    (hΓ : ∀ (idx : Nat) (S : wS), Γ idx = some S → w_Call l o idx S d sh rf n)
    (hret : ∀ (r : Int32) (μ : wM) (H : Heap) (locs : List Loc), (rty = none → r = 0) → ret r μ → va_P D vwCl (w_w kc sh rf n ad μ) H → va_S A H0 H locs → (∀ t : State, t.heap = H → s.WarmedH t.vm → Qc args s (.returned (w_ov rty r)) t) ∧ ∀ q ∈ locs, free q.base)
    (hK : ∀ i ls st μ, K i ls st μ → w_sim p l e (w_rm d) s m args below meth c D kc sh rf n ad A H0 nL (MQ below Qc args s 0 0 free) tb i ls st μ)
    {i : Nat} {t : Instr × Nat × List Nat} (ht : w_at tb i = some t) {ls : wL} {st : List Value} {μ : wM} (h : w_1 o Γ sh rf n rty ret t.1 t.2.2 K i ls st μ) :
    w_sim p l e (w_rm d) s m args below meth c D kc sh rf n ad A H0 nL (MQ below Qc args s 0 0 free) tb i ls st μ := by
  obtain ⟨⟨L, hdec, hlen⟩, hnx, htg⟩ := w_okE_e (w_ok_at hok ht)
  have hpc : w_pc tb i = t.2.1 := by unfold w_pc; rw [ht]
  obtain ⟨hx, hb, hml, hown, hts, hK0, hNL, hA, hap, hlocks, hr⟩ := id E
  obtain ⟨ins, pc, tg⟩ := t
  dsimp only at hdec hlen hnx htg h hpc
  intro H locs la hP hS hl
  rw [hpc]
  cases ins with

  | aload_n k =>
    obtain rfl := hlen rfl
    have hn := hnx rfl
    obtain ⟨v, hv, h⟩ := w_lv_e h
    cases v with
    | ref x =>
      exact lv_aload_n hx hb hdec rfl (hl.at hv) (by have z := hK _ _ _ _ h H locs la hP hS hl; rw [hn] at z; exact z)
    | _ => exact h.elim
  | iload_n k =>
    obtain rfl := hlen rfl
    have hn := hnx rfl
    obtain ⟨v, hv, h⟩ := w_lv_e h
    cases v with
    | int x =>
      exact lv_iload_n hx hb hdec rfl (hl.at hv) (by have z := hK _ _ _ _ h H locs la hP hS hl; rw [hn] at z; exact z)
    | _ => exact h.elim
  | lload_n k =>
    obtain rfl := hlen rfl
    have hn := hnx rfl
    obtain ⟨v, hv, h⟩ := w_lv_e h
    cases v with
    | long x =>
      exact lv_lload_n hx hb hdec rfl (hl.at hv) (by have z := hK _ _ _ _ h H locs la hP hS hl; rw [hn] at z; exact z)
    | _ => exact h.elim
  | aload k =>
    obtain rfl := hlen rfl
    have hn := hnx rfl
    obtain ⟨v, hv, h⟩ := w_lv_e h
    cases v with
    | ref x =>
      exact lv_aload hx hb hdec (hl.at hv) (by have z := hK _ _ _ _ h H locs la hP hS hl; rw [hn] at z; exact z)
    | _ => exact h.elim
  | iload k =>
    obtain rfl := hlen rfl
    have hn := hnx rfl
    obtain ⟨v, hv, h⟩ := w_lv_e h
    cases v with
    | int x =>
      exact lv_iload hx hb hdec (hl.at hv) (by have z := hK _ _ _ _ h H locs la hP hS hl; rw [hn] at z; exact z)
    | _ => exact h.elim
  | istore_n k =>
    obtain rfl := hlen rfl
    have hn := hnx rfl
    obtain ⟨x, r, rfl, h⟩ := w_i_e h
    have h : w_st1 ls k (.int x) (fun ls' => K (i + 1) ls' r μ) := h
    obtain ⟨h1, h2, h⟩ := w_st1_e h
    exact lv_istore_n hx hb hdec rfl hl.2 (by rw [← hl.1]; exact h1) rfl (fun la' hl' => by have z := hK _ _ _ _ h H locs la' hP hS (w_lok.set1 (v := .int x) hl h1 h2 hl'); rw [hn] at z; exact z)
  | istore k =>
    obtain rfl := hlen rfl
    have hn := hnx rfl
    obtain ⟨x, r, rfl, h⟩ := w_i_e h
    have h : w_st1 ls k (.int x) (fun ls' => K (i + 1) ls' r μ) := h
    obtain ⟨h1, h2, h⟩ := w_st1_e h
    exact lv_istore hx hb hdec hl.2 (by rw [← hl.1]; exact h1) rfl (fun la' hl' => by have z := hK _ _ _ _ h H locs la' hP hS (w_lok.set1 (v := .int x) hl h1 h2 hl'); rw [hn] at z; exact z)
  | astore_n k =>
    obtain rfl := hlen rfl
    have hn := hnx rfl
    obtain ⟨x, r, rfl, h⟩ := w_r_e h
    have h : w_st1 ls k (.ref x) (fun ls' => K (i + 1) ls' r μ) := h
    obtain ⟨h1, h2, h⟩ := w_st1_e h
    exact lv_astore_n hx hb hdec rfl hl.2 (by rw [← hl.1]; exact h1) rfl (fun la' hl' => by have z := hK _ _ _ _ h H locs la' hP hS (w_lok.set1 (v := .ref x) hl h1 h2 hl'); rw [hn] at z; exact z)
  | astore k =>
    obtain rfl := hlen rfl
    have hn := hnx rfl
    obtain ⟨x, r, rfl, h⟩ := w_r_e h
    have h : w_st1 ls k (.ref x) (fun ls' => K (i + 1) ls' r μ) := h
    obtain ⟨h1, h2, h⟩ := w_st1_e h
    exact lv_astore hx hb hdec hl.2 (by rw [← hl.1]; exact h1) rfl (fun la' hl' => by have z := hK _ _ _ _ h H locs la' hP hS (w_lok.set1 (v := .ref x) hl h1 h2 hl'); rw [hn] at z; exact z)
  | lstore_n k =>
    obtain rfl := hlen rfl
    have hn := hnx rfl
    obtain ⟨x, r, rfl, h⟩ := w_l_e h
    have h : w_st2 ls k (.long x) (fun ls' => K (i + 1) ls' r μ) := h
    obtain ⟨h1, h2, h⟩ := w_st2_e h
    exact lv_lstore_n hx hb hdec rfl hl.2 (by rw [← hl.1]; exact h1) rfl (fun la' hl' => by have z := hK _ _ _ _ h H locs la' hP hS (w_lok.set2 (v := .long x) hl h1 h2 hl'); rw [hn] at z; exact z)
  | iinc k dd =>
    obtain rfl := hlen rfl
    have hn := hnx rfl
    obtain ⟨v, hv, h⟩ := w_lv_e h
    cases v with
    | int x =>
      obtain ⟨h1, h2, h⟩ := w_st1_e h
      obtain ⟨kk, hkk⟩ := List.getElem?_of_mem (w_pics_mem.mpr ⟨_, hv, rfl⟩ : (k, w_tr ad (.int x)) ∈ w_pics ad ls)
      exact lv_iinc hx hb hdec hl.2 hkk rfl (by rw [← hl.1]; exact h1) rfl (fun la' hl' => by have z := hK _ _ _ _ h H locs la' hP hS (w_lok.set1 (v := .int (x + Int32.ofInt dd)) hl h1 h2 hl'); rw [hn] at z; exact z)
    | _ => exact h.elim
  | iconst v =>
    obtain rfl := hlen rfl
    have hn := hnx rfl
    exact lv_iconst hx hb hdec rfl (by have z := hK _ _ _ _ h H locs la hP hS hl; rw [hn] at z; exact z)
  | bipush v =>
    obtain rfl := hlen rfl
    have hn := hnx rfl
    exact lv_bipush hx hb hdec rfl (by have z := hK _ _ _ _ h H locs la hP hS hl; rw [hn] at z; exact z)
  | sipush v =>
    obtain rfl := hlen rfl
    have hn := hnx rfl
    exact lv_sipush hx hb hdec rfl (by have z := hK _ _ _ _ h H locs la hP hS hl; rw [hn] at z; exact z)
  | lconst v =>
    obtain rfl := hlen rfl
    have hn := hnx rfl
    exact lv_lconst hx hb hdec rfl (by have z := hK _ _ _ _ h H locs la hP hS hl; rw [hn] at z; exact z)
  | ldc k =>
    obtain rfl := hlen rfl
    have hn := hnx rfl
    have h : (match w_lk (w_k32 o) k with
      | some v => K (i + 1) ls (.int v :: st) μ
      | none => False) := h
    cases hk : w_lk (w_k32 o) k with
    | none => rw [hk] at h; exact h.elim
    | some v =>
      rw [hk] at h
      exact lv_ldc hx hb hown (hts _ (w_k32ok o hk)) hdec (by have z := hK _ _ _ _ h H locs la hP hS hl; rw [hn] at z; exact z)
  | ldc_w k =>
    obtain rfl := hlen rfl
    have hn := hnx rfl
    have h : (match w_lk (w_k32 o) k with
      | some v => K (i + 1) ls (.int v :: st) μ
      | none => False) := h
    cases hk : w_lk (w_k32 o) k with
    | none => rw [hk] at h; exact h.elim
    | some v =>
      rw [hk] at h
      exact lv_ldcw hx hb hown (hts _ (w_k32ok o hk)) hdec (by have z := hK _ _ _ _ h H locs la hP hS hl; rw [hn] at z; exact z)
  | ldc2_w k =>
    obtain rfl := hlen rfl
    have hn := hnx rfl
    have h : (match w_lk (w_k64 o) k with
      | some v => K (i + 1) ls (.long v :: st) μ
      | none => False) := h
    cases hk : w_lk (w_k64 o) k with
    | none => rw [hk] at h; exact h.elim
    | some v =>
      rw [hk] at h
      exact lv_ldc2 hx hb hown (hts _ (w_k64ok o hk)) hdec (by have z := hK _ _ _ _ h H locs la hP hS hl; rw [hn] at z; exact z)
  | iadd =>
    obtain rfl := hlen rfl
    have hn := hnx rfl
    obtain ⟨x, y, r, rfl, h⟩ := w_ii_e h
    exact lv_iadd hx hb hdec (by have z := hK _ _ _ _ h H locs la hP hS hl; rw [hn] at z; exact z)
  | isub =>
    obtain rfl := hlen rfl
    have hn := hnx rfl
    obtain ⟨x, y, r, rfl, h⟩ := w_ii_e h
    exact lv_isub hx hb hdec (by have z := hK _ _ _ _ h H locs la hP hS hl; rw [hn] at z; exact z)
  | imul =>
    obtain rfl := hlen rfl
    have hn := hnx rfl
    obtain ⟨x, y, r, rfl, h⟩ := w_ii_e h
    exact lv_imul hx hb hdec (by have z := hK _ _ _ _ h H locs la hP hS hl; rw [hn] at z; exact z)
  | iand =>
    obtain rfl := hlen rfl
    have hn := hnx rfl
    obtain ⟨x, y, r, rfl, h⟩ := w_ii_e h
    exact lv_iand hx hb hdec (by have z := hK _ _ _ _ h H locs la hP hS hl; rw [hn] at z; exact z)
  | ior =>
    obtain rfl := hlen rfl
    have hn := hnx rfl
    obtain ⟨x, y, r, rfl, h⟩ := w_ii_e h
    exact lv_ior hx hb hdec (by have z := hK _ _ _ _ h H locs la hP hS hl; rw [hn] at z; exact z)
  | ixor =>
    obtain rfl := hlen rfl
    have hn := hnx rfl
    obtain ⟨x, y, r, rfl, h⟩ := w_ii_e h
    exact lv_ixor hx hb hdec (by have z := hK _ _ _ _ h H locs la hP hS hl; rw [hn] at z; exact z)
  | ishl =>
    obtain rfl := hlen rfl
    have hn := hnx rfl
    obtain ⟨x, y, r, rfl, h⟩ := w_ii_e h
    exact lv_ishl hx hb hdec (by have z := hK _ _ _ _ h H locs la hP hS hl; rw [hn] at z; exact z)
  | ishr =>
    obtain rfl := hlen rfl
    have hn := hnx rfl
    obtain ⟨x, y, r, rfl, h⟩ := w_ii_e h
    exact lv_ishr hx hb hdec (by have z := hK _ _ _ _ h H locs la hP hS hl; rw [hn] at z; exact z)
  | idiv =>
    obtain rfl := hlen rfl
    have hn := hnx rfl
    obtain ⟨x, y, r, rfl, h⟩ := w_ii_e h
    exact lv_idiv hx hb hdec h.1 (by have z := hK _ _ _ _ h.2 H locs la hP hS hl; rw [hn] at z; exact z)
  | irem =>
    obtain rfl := hlen rfl
    have hn := hnx rfl
    obtain ⟨x, y, r, rfl, h⟩ := w_ii_e h
    exact lv_irem hx hb hdec h.1 (by have z := hK _ _ _ _ h.2 H locs la hP hS hl; rw [hn] at z; exact z)
  | iushr =>
    obtain rfl := hlen rfl
    have hn := hnx rfl
    obtain ⟨x, y, r, rfl, h⟩ := w_ii_e h
    exact lv_iushr hx hb hdec rfl (by have z := hK _ _ _ _ h H locs la hP hS hl; rw [hn] at z; exact z)
  | ladd =>
    obtain rfl := hlen rfl
    have hn := hnx rfl
    obtain ⟨x, y, r, rfl, h⟩ := w_ll_e h
    exact lv_ladd hx hb hdec (by have z := hK _ _ _ _ h H locs la hP hS hl; rw [hn] at z; exact z)
  | lsub =>
    obtain rfl := hlen rfl
    have hn := hnx rfl
    obtain ⟨x, y, r, rfl, h⟩ := w_ll_e h
    exact lv_lsub hx hb hdec (by have z := hK _ _ _ _ h H locs la hP hS hl; rw [hn] at z; exact z)
  | lmul =>
    obtain rfl := hlen rfl
    have hn := hnx rfl
    obtain ⟨x, y, r, rfl, h⟩ := w_ll_e h
    exact lv_lmul hx hb hdec (by have z := hK _ _ _ _ h H locs la hP hS hl; rw [hn] at z; exact z)
  | land =>
    obtain rfl := hlen rfl
    have hn := hnx rfl
    obtain ⟨x, y, r, rfl, h⟩ := w_ll_e h
    exact lv_land hx hb hdec (by have z := hK _ _ _ _ h H locs la hP hS hl; rw [hn] at z; exact z)
  | lor =>
    obtain rfl := hlen rfl
    have hn := hnx rfl
    obtain ⟨x, y, r, rfl, h⟩ := w_ll_e h
    exact lv_lor hx hb hdec (by have z := hK _ _ _ _ h H locs la hP hS hl; rw [hn] at z; exact z)
  | ldiv =>
    obtain rfl := hlen rfl
    have hn := hnx rfl
    obtain ⟨x, y, r, rfl, h⟩ := w_ll_e h
    exact lv_ldiv hx hb hdec h.1 (by have z := hK _ _ _ _ h.2 H locs la hP hS hl; rw [hn] at z; exact z)
  | lcmp =>
    obtain rfl := hlen rfl
    have hn := hnx rfl
    obtain ⟨x, y, r, rfl, h⟩ := w_ll_e h
    exact W.lcmp hx hb hdec (by have z := hK _ _ _ _ h H locs la hP hS hl; rw [hn] at z; exact z)
  | lshl =>
    obtain rfl := hlen rfl
    have hn := hnx rfl
    obtain ⟨x, y, r, rfl, h⟩ := w_li_e h
    exact lv_lshl hx hb hdec rfl (by have z := hK _ _ _ _ h H locs la hP hS hl; rw [hn] at z; exact z)
  | lshr =>
    obtain rfl := hlen rfl
    have hn := hnx rfl
    obtain ⟨x, y, r, rfl, h⟩ := w_li_e h
    exact lv_lshr hx hb hdec rfl (by have z := hK _ _ _ _ h H locs la hP hS hl; rw [hn] at z; exact z)
  | lushr =>
    obtain rfl := hlen rfl
    have hn := hnx rfl
    obtain ⟨x, y, r, rfl, h⟩ := w_li_e h
    exact lv_lushr hx hb hdec rfl (by have z := hK _ _ _ _ h H locs la hP hS hl; rw [hn] at z; exact z)
  | i2l =>
    obtain rfl := hlen rfl
    have hn := hnx rfl
    obtain ⟨x, r, rfl, h⟩ := w_i_e h
    exact lv_i2l hx hb hdec rfl (by have z := hK _ _ _ _ h H locs la hP hS hl; rw [hn] at z; exact z)
  | l2i =>
    obtain rfl := hlen rfl
    have hn := hnx rfl
    obtain ⟨x, r, rfl, h⟩ := w_l_e h
    exact lv_l2i hx hb hdec rfl (by have z := hK _ _ _ _ h H locs la hP hS hl; rw [hn] at z; exact z)
  | i2b =>
    obtain rfl := hlen rfl
    have hn := hnx rfl
    obtain ⟨x, r, rfl, h⟩ := w_i_e h
    exact lv_i2b hx hb hdec rfl (by have z := hK _ _ _ _ h H locs la hP hS hl; rw [hn] at z; exact z)
  | i2s =>
    obtain rfl := hlen rfl
    have hn := hnx rfl
    obtain ⟨x, r, rfl, h⟩ := w_i_e h
    exact lv_i2s hx hb hdec rfl (by have z := hK _ _ _ _ h H locs la hP hS hl; rw [hn] at z; exact z)
  | dup =>
    obtain rfl := hlen rfl
    have hn := hnx rfl
    unfold w_1 at h
    dsimp only at h
    split at h
    · exact lv_dup hx hb hdec rfl (by have z := hK _ _ _ _ h H locs la hP hS hl; rw [hn] at z; exact z)
    · exact lv_dup hx hb hdec rfl (by have z := hK _ _ _ _ h H locs la hP hS hl; rw [hn] at z; exact z)
    · exact h.elim
  | dup2 =>
    obtain rfl := hlen rfl
    have hn := hnx rfl
    unfold w_1 at h
    dsimp only at h
    split at h
    · exact lv_dup2_11 hx hb hdec rfl rfl (by have z := hK _ _ _ _ h H locs la hP hS hl; rw [hn] at z; exact z)
    · exact h.elim
  | pop =>
    obtain rfl := hlen rfl
    have hn := hnx rfl
    obtain ⟨x, r, rfl, h⟩ := w_i_e h
    exact lv_pop hx hb hdec rfl (by have z := hK _ _ _ _ h H locs la hP hS hl; rw [hn] at z; exact z)
  | goto off =>
    obtain rfl := hlen rfl
    unfold w_1 at h
    unfold w_tgB at htg
    dsimp only at h htg
    split at h
    · exact lv_goto hx hb hdec (of_decide_eq_true htg) (hK _ _ _ _ h H locs la hP hS hl)
    · exact h.elim
  | ifCond cd off =>
    obtain rfl := hlen rfl
    have hn := hnx rfl
    unfold w_1 at h
    unfold w_tgB at htg
    dsimp only at h htg
    split at h
    · obtain ⟨x, r, rfl, h⟩ := w_i_e h
      have ht2 := of_decide_eq_true htg
      cases cd with
      | eq => exact lv_if_eq hx hb hdec ht2 (fun z => hK _ _ _ _ (h.1 z) H locs la hP hS hl) (fun z => by have z := hK _ _ _ _ (h.2 z) H locs la hP hS hl; rw [hn] at z; exact z)
      | ne => exact lv_if_ne hx hb hdec ht2 (fun z => hK _ _ _ _ (h.2 z) H locs la hP hS hl) (fun z => by have z := hK _ _ _ _ (h.1 z) H locs la hP hS hl; rw [hn] at z; exact z)
      | lt => exact lv_if_lt hx hb hdec ht2 (fun z => hK _ _ _ _ (h.1 z) H locs la hP hS hl) (fun z => by have z := hK _ _ _ _ (h.2 z) H locs la hP hS hl; rw [hn] at z; exact z)
      | ge => exact lv_if_ge hx hb hdec ht2 (fun z => hK _ _ _ _ (h.1 z) H locs la hP hS hl) (fun z => by have z := hK _ _ _ _ (h.2 z) H locs la hP hS hl; rw [hn] at z; exact z)
      | gt => exact lv_if_gt hx hb hdec ht2 (fun z => hK _ _ _ _ (h.1 z) H locs la hP hS hl) (fun z => by have z := hK _ _ _ _ (h.2 z) H locs la hP hS hl; rw [hn] at z; exact z)
      | le => exact lv_if_le hx hb hdec ht2 (fun z => hK _ _ _ _ (h.1 z) H locs la hP hS hl) (fun z => by have z := hK _ _ _ _ (h.2 z) H locs la hP hS hl; rw [hn] at z; exact z)
    · exact h.elim
  | if_icmp cd off =>
    obtain rfl := hlen rfl
    have hn := hnx rfl
    unfold w_1 at h
    unfold w_tgB at htg
    dsimp only at h htg
    split at h
    · obtain ⟨x, y, r, rfl, h⟩ := w_ii_e h
      have ht2 := of_decide_eq_true htg
      cases cd with
      | eq => exact lv_icmp_eq hx hb hdec ht2 (fun z => hK _ _ _ _ (h.1 z) H locs la hP hS hl) (fun z => by have z := hK _ _ _ _ (h.2 z) H locs la hP hS hl; rw [hn] at z; exact z)
      | ne => exact lv_icmp_ne hx hb hdec ht2 (fun z => hK _ _ _ _ (h.2 z) H locs la hP hS hl) (fun z => by have z := hK _ _ _ _ (h.1 z) H locs la hP hS hl; rw [hn] at z; exact z)
      | lt => exact lv_icmp_lt hx hb hdec ht2 (fun z => hK _ _ _ _ (h.1 z) H locs la hP hS hl) (fun z => by have z := hK _ _ _ _ (h.2 z) H locs la hP hS hl; rw [hn] at z; exact z)
      | ge => exact lv_icmp_ge hx hb hdec ht2 (fun z => hK _ _ _ _ (h.1 z) H locs la hP hS hl) (fun z => by have z := hK _ _ _ _ (h.2 z) H locs la hP hS hl; rw [hn] at z; exact z)
      | gt => exact lv_icmp_gt hx hb hdec ht2 (fun z => hK _ _ _ _ (h.1 z) H locs la hP hS hl) (fun z => by have z := hK _ _ _ _ (h.2 z) H locs la hP hS hl; rw [hn] at z; exact z)
      | le => exact lv_icmp_le hx hb hdec ht2 (fun z => hK _ _ _ _ (h.1 z) H locs la hP hS hl) (fun z => by have z := hK _ _ _ _ (h.2 z) H locs la hP hS hl; rw [hn] at z; exact z)
    · exact h.elim
  | tableswitch df lo hi offs =>
    unfold w_1 at h
    unfold w_tgB at htg
    dsimp only at h htg
    split at h
    · next d0 ts =>
      dsimp only at htg
      rw [Bool.and_eq_true, Bool.and_eq_true] at htg
      obtain ⟨⟨g1, g2⟩, g3⟩ := htg
      have g1 := of_decide_eq_true g1
      have g2 := of_decide_eq_true g2
      have g3 := of_decide_eq_true g3
      obtain ⟨x, r, rfl, h⟩ := w_i_e h
      by_cases hout : x.toInt < lo ∨ hi < x.toInt
      · exact lv_tableOut hx hb hdec hout g1 (hK _ _ _ _ (h.2 hout) H locs la hP hS hl)
      · have h1 : ¬ x.toInt < lo := fun z => hout (Or.inl z)
        have h2 : ¬ hi < x.toInt := fun z => hout (Or.inr z)
        obtain ⟨j, hj⟩ : ∃ j : Nat, x.toInt = lo + j := ⟨(x.toInt - lo).toNat, by omega⟩
        have hjl : j < ts.length := by omega
        have hKt := w_sw_e ts lo j hjl h.1 hj
        have hol : (offs.toList.map (fun x => (pc : Int) + x))[j]? = (ts.map (fun t => (w_pc tb t : Int)))[j]? := by rw [g3]
        rw [List.getElem?_map, List.getElem?_map, List.getElem?_eq_getElem hjl] at hol
        cases ho : offs.toList[j]? with
        | none => rw [ho] at hol; cases hol
        | some of0 =>
          rw [ho] at hol
          have hoe := Option.some.inj hol
          refine lv_tableIn (off := of0) hx hb hdec h1 h2 ?_ hoe (hK _ _ _ _ hKt H locs la hP hS hl)
          rw [show (x.toInt - lo).toNat = j by omega, ← Array.getElem?_toList]
          exact ho
    · exact h.elim
  | getfield k =>
    obtain rfl := hlen rfl
    have hn := hnx rfl
    have h : (match w_lk (w_fl o) k with
      | some e => w_r st fun q r => (q < n ∧ sh q = .inl e.1) ∧ K (i + 1) ls (w_pv rf μ e.1 q e.2 :: r) μ
      | none => False) := h
    cases hk : w_lk (w_fl o) k with
    | none => rw [hk] at h; exact h.elim
    | some ee =>
      rw [hk] at h
      obtain ⟨ci, j⟩ := ee
      obtain ⟨q, r, rfl, ⟨hq, hsh⟩, h⟩ := w_r_e h
      obtain ⟨f1, f2, f3⟩ := w_flok o hk
      obtain ⟨c1, c2, c3, c4, c5⟩ := w_cls ci f1
      refine va_get (D := D) (ci := ci) (v := w_fv rf ad μ ci q j) (C := w_C ci) (T := w_T ci) (N := w_nf ci) hx hb hts c2 hown hK0 hP q ((w_w_at hq).trans (by rw [w_e_obj hsh])) c1 j f2 (hts _ f3) (fun x h9 => by rw [c5 j f2] at h9; exact h9) (w_get f2) hdec ?_
      have z := hK _ _ _ _ h H locs la hP hS hl
      rw [hn] at z
      rw [← w_pv_tr]
      exact z
  | putfield k =>
    obtain rfl := hlen rfl
    have hn := hnx rfl
    have h : (match w_lk (w_fl o) k with
      | some e => (match (w_T e.1 e.2).2.2.2 || w_fk e.1 e.2 with
        | false => w_ir st fun q x r => (q < n ∧ sh q = .inl e.1 ∧ w_fok (w_ty e.1 e.2) x) ∧ K (i + 1) ls r (w_up μ q e.2 x)
        | true => False)
      | none => False) := h
    cases hk : w_lk (w_fl o) k with
    | none => rw [hk] at h; exact h.elim
    | some ee =>
      rw [hk] at h
      obtain ⟨ci, j⟩ := ee
      dsimp only at h
      cases hfin : ((w_T ci j).2.2.2 || w_fk ci j) with
      | true => rw [hfin] at h; exact h.elim
      | false =>
        rw [hfin] at h
        rw [Bool.or_eq_false_iff] at hfin
        obtain ⟨q, x, r, rfl, ⟨hq, hsh, hfo⟩, h⟩ := w_ir_e h
        obtain ⟨f1, f2, f3⟩ := w_flok o hk
        obtain ⟨c1, c2, c3, c4, c5⟩ := w_cls ci f1
        have hnf : narrow (w_ty ci j) (.int x) = .int x ∧ fits (w_ty ci j) (.int x) = true := by
          unfold w_fok at hfo
          split at hfo
          · next hty => rw [hty]; exact ⟨rfl, rfl⟩
          · next hty =>
            rw [hty]
            rcases hfo with rfl | rfl <;> exact ⟨rfl, rfl⟩
          · exact hfo.elim
        refine va_put (D := D) (ci := ci) (v := .int x) (ty := w_ty ci j) (C := w_C ci) (T := w_T ci) (N := w_nf ci) hx hb hts c2 (w_ty ci) c3 c4 hown hK0 hP (w_D hap μ) hS q ((w_w_at hq).trans (by rw [w_e_obj hsh])) c1 j f2 (hts _ f3) (fun x h9 => by rw [c5 j f2] at h9; exact h9) hfin.1 (c3 j f2) hnf.1 hnf.2 (by simp [f2]) hdec (fun H1 locs1 hP1 hD1 hS1 => ?_)
        have z := hK _ _ _ _ h H1 locs1 la (by
          rw [← w_w_set (E := .inr (ci, ((List.range (w_nf ci)).map (w_fv rf ad μ ci q)).set j (.int x))) hq]
          · exact hP1
          · rw [w_e_obj hsh]
            congr 2
            refine (w_set f2 ?_ ?_).symm
            · unfold w_fv
              rw [hfin.2]
              simp [w_up]
            · intro a ha
              unfold w_fv
              simp [w_up, ha]) hS1 hl
        rw [hn] at z
        exact z
  | iaload =>
    obtain rfl := hlen rfl
    have hn := hnx rfl
    obtain ⟨q, j, r, rfl, ⟨hq, len, hsh, hin⟩, h⟩ := w_ir_e h
    exact va_iald hx hb hK0 hP q 0 ((w_w_at hq).trans (by rw [w_e_int hsh])) rfl hin hdec (by have z := hK _ _ _ _ h H locs la hP hS hl; rw [hn] at z; exact z)
  | baload =>
    obtain rfl := hlen rfl
    have hn := hnx rfl
    obtain ⟨q, j, r, rfl, ⟨hq, len, hsh, hin⟩, h⟩ := w_ir_e h
    exact va_zald hx hb hK0 hP q 1 ((w_w_at hq).trans (by rw [w_e_bool hsh])) rfl hin hdec (by have z := hK _ _ _ _ h H locs la hP hS hl; rw [hn] at z; exact z)
  | aaload =>
    obtain rfl := hlen rfl
    have hn := hnx rfl
    obtain ⟨q, j, r, rfl, hor, h⟩ := w_ir_e h
    rcases hor with ⟨hq, len, hsh, hin⟩ | ⟨hq, len, hsh, hin⟩
    · refine va_aldq hx hb hK0 hP q 2 ((w_w_at hq).trans (by rw [w_e_ref hsh])) rfl hin hdec ?_
      have z := hK _ _ _ _ h H locs la hP hS hl
      rw [hn] at z
      exact z
    · refine va_aldq hx hb hK0 hP q 3 ((w_w_at hq).trans (by rw [w_e_ref hsh])) rfl hin hdec ?_
      have z := hK _ _ _ _ h H locs la hP hS hl
      rw [hn] at z
      exact z
  | iastore =>
    obtain rfl := hlen rfl
    have hn := hnx rfl
    obtain ⟨q, j, x, r, rfl, ⟨hq, len, hsh, hin⟩, h⟩ := w_iir_e h
    refine va_iast hx hb hK0 hP (w_D hap μ) hS q 0 ((w_w_at hq).trans (by rw [w_e_int hsh])) rfl hin hdec (fun H1 locs1 hP1 hD1 hS1 => ?_)
    have z := hK _ _ _ _ h H1 locs1 la (by
      rw [← w_w_set (E := .inl (kc 0, len, .inl (upd (μ q) j.toNatClampNeg x))) hq]
      · exact hP1
      · rw [w_e_int hsh, w_up_s]) hS1 hl
    rw [hn] at z
    exact z
  | bastore =>
    obtain rfl := hlen rfl
    have hn := hnx rfl
    obtain ⟨q, j, x, r, rfl, ⟨⟨hq, len, hsh, hin⟩, hbit⟩, h⟩ := w_iir_e h
    refine va_zast hx hb hK0 hP (w_D hap μ) hS q 1 ((w_w_at hq).trans (by rw [w_e_bool hsh])) rfl hin hdec (fun H1 locs1 hP1 hD1 hS1 => ?_)
    have hx2 : vp_nar .boolean x = x := by rcases hbit with rfl | rfl <;> rfl
    rw [hx2] at hP1
    have z := hK _ _ _ _ h H1 locs1 la (by
      rw [← w_w_set (E := .inl (kc 1, len, .inl (upd (μ q) j.toNatClampNeg x))) hq]
      · exact hP1
      · rw [w_e_bool hsh, w_up_s]) hS1 hl
    rw [hn] at z
    exact z
  | arraylength =>
    obtain rfl := hlen rfl
    have hn := hnx rfl
    obtain ⟨q, r, rfl, ⟨hq, hsh⟩, h⟩ := w_r_e h
    exact va_alen hx hb hK0 hP q 0 ((w_w_at hq).trans (by rw [w_e_int hsh])) rfl rfl hdec (by have z := hK _ _ _ _ h H locs la hP hS hl; rw [hn] at z; exact z)
  | invokevirtual k =>
    obtain rfl := hlen rfl
    have hn := hnx rfl
    have h : w_call false (Γ k) st μ fun st' μ' => K (i + 1) ls st' μ' := h
    cases hg : Γ k with
    | none => rw [hg] at h; exact h.elim
    | some S =>
      rw [hg] at h
      unfold w_call at h
      dsimp only at h
      split at h
      · next hbb =>
        rw [Bool.and_eq_true, Bool.and_eq_true] at hbb
        obtain ⟨⟨b1, b2⟩, b3⟩ := hbb
        have b1 := eq_of_beq b1
        have e1 : (st.take S.2.2.1).reverse.reverse ++ st.drop S.2.2.1 = st := by rw [List.reverse_reverse, List.take_append_drop]
        have z := hΓ k S hg p e s m args below meth c D kc ad A H0 cc nL rty (MQ below Qc args s 0 0 free) E pc la (st.take S.2.2.1).reverse (st.drop S.2.2.1) μ H locs hl.2.1 (by rw [b1]; exact hdec) (by rw [List.length_reverse, List.length_take]; exact Nat.min_eq_left (Nat.le_of_ble_eq_true b2)) (Nat.le_of_ble_eq_true b3) h.1 hP hS (fun r μ' H1 locs1 hp hP1 hS1 => by
          have z := hK _ _ _ _ (h.2 r μ' hp) H1 locs1 la hP1 hS1 hl
          rw [hn] at z
          exact z)
        rw [e1] at z
        exact z
      · exact h.elim
  | invokestatic k =>
    obtain rfl := hlen rfl
    have hn := hnx rfl
    have h : w_call true (Γ k) st μ fun st' μ' => K (i + 1) ls st' μ' := h
    cases hg : Γ k with
    | none => rw [hg] at h; exact h.elim
    | some S =>
      rw [hg] at h
      unfold w_call at h
      dsimp only at h
      split at h
      · next hbb =>
        rw [Bool.and_eq_true, Bool.and_eq_true] at hbb
        obtain ⟨⟨b1, b2⟩, b3⟩ := hbb
        have b1 := eq_of_beq b1
        have e1 : (st.take S.2.2.1).reverse.reverse ++ st.drop S.2.2.1 = st := by rw [List.reverse_reverse, List.take_append_drop]
        have z := hΓ k S hg p e s m args below meth c D kc ad A H0 cc nL rty (MQ below Qc args s 0 0 free) E pc la (st.take S.2.2.1).reverse (st.drop S.2.2.1) μ H locs hl.2.1 (by rw [b1]; exact hdec) (by rw [List.length_reverse, List.length_take]; exact Nat.min_eq_left (Nat.le_of_ble_eq_true b2)) (Nat.le_of_ble_eq_true b3) h.1 hP hS (fun r μ' H1 locs1 hp hP1 hS1 => by
          have z := hK _ _ _ _ (h.2 r μ' hp) H1 locs1 la hP1 hS1 hl
          rw [hn] at z
          exact z)
        rw [e1] at z
        exact z
      · exact h.elim
  | ireturn =>
    obtain rfl := hlen rfl
    unfold w_1 at h
    dsimp only at h
    split at h
    · next x =>
      obtain ⟨hro, h⟩ := h
      unfold w_rok at hro
      split at hro
      · obtain ⟨q1, q2⟩ := hret _ _ H locs (fun z => by cases z) h hP hS
        exact W.zret (ty := .int) hx hb hr rfl q1 q2 hdec
      · obtain ⟨q1, q2⟩ := hret _ _ H locs (fun z => by cases z) h hP hS
        exact W.zret (ty := .boolean) hx hb hr (by rcases hro with rfl | rfl <;> rfl) q1 q2 hdec
      · exact hro.elim
    · exact h.elim
  | return_ =>
    obtain rfl := hlen rfl
    unfold w_1 at h
    dsimp only at h
    split at h
    · obtain ⟨q1, q2⟩ := hret _ _ H locs (fun _ => rfl) h hP hS
      exact W.vret hx hb hr q1 q2 hdec
    · exact h.elim
  | _ => exact h.elim
end WSOUND
end
section
/-! from the pure walk of a method to its contract; from contracts to calls -/
def w_B (D : va_G) (kc : Nat → ClassId) (sh : wSh) (rf : Nat → Nat → Nat) (n : Nat) (ad : Nat → Nat) (A : Nat → Prop) (μ : wM) (t : State) : Prop := va_P D vwCl (w_w kc sh rf n ad μ) t.heap ∧ va_K D vwCl (w_tys kc) t ∧ va_D A (w_w kc sh rf n ad μ)
def w_P (D : va_G) (kc : Nat → ClassId) (sh : wSh) (rf : Nat → Nat → Nat) (n : Nat) (ad : Nat → Nat) (sz : Nat) (μ : wM) (U : State) : Prop := U.heap.size = sz ∧ va_P D vwCl (w_w kc sh rf n ad μ) U.heap ∧ va_K D vwCl (w_tys kc) U ∧ va_D (fun _ => True) (w_w kc sh rf n ad μ) ∧ w_NL U
def w_Q (rty : Option FieldType) (post : Int32 → wM → Prop) (B : wM → State → Prop) (A : Nat → Prop) : Array Value → State → Outcome → State → Prop := match rty with
  | none => va_Qv (fun μ => post 0 μ) B A
  | some _ => va_Qi post B A
def w_Met (l : Launch) (y : MethodName) (bytes : ByteArray) (maxL : Nat) (rty : Option FieldType) (d : Nat) (sh : wSh) (rf : Nat → Nat → Nat) (n : Nat) (pre : List Value → wM → Prop) (post : List Value → wM → Int32 → wM → Prop) : Prop :=
  ∀ (D : va_G) (kc : Nat → ClassId) (ad : Nat → Nat) (sz : Nat) (as : List Value) (μ : wM), pre as μ →
    Met l y (.code y bytes maxL rty :: w_tbl) (w_rm d) (va_Pc (as.map (w_tr ad)) (w_P D kc sh rf n ad sz μ)) (w_Q rty (post as μ) (w_B D kc sh rf n ad (w_A n ad sz)) (w_A n ad sz)) 0 0 (w_A n ad sz)
def w_ent : List Value → wL
  | [] => []
  | v :: r => if v.category = 2 then some v :: none :: w_ent r else some v :: w_ent r
def w_entry (nL : Nat) (as : List Value) : wL := w_ent as ++ List.replicate (nL - (w_ent as).length) none
theorem w_ent_args (ad : Nat → Nat) : ∀ (as : List Value) (j i : Nat) (v : Value), (w_ent as)[i]? = some (some v) → (j + i, w_tr ad v) ∈ lv_args j (as.map (w_tr ad)) := by
  intro as
  induction as with
  | nil => intro j i v h; simp [w_ent] at h
  | cons a as ih =>
    intro j i v h
    unfold w_ent at h
    rw [List.map_cons]
    unfold lv_args
    rw [w_tr_cat]
    by_cases hc : a.category = 2
    · rw [if_pos hc] at h ⊢
      match i, h with
      | 0, h => cases h; exact List.mem_cons_self
      | 1, h => cases h
      | i + 2, h =>
        have := ih (j + 2) i v (by simpa using h)
        rw [show j + (i + 2) = j + 2 + i by omega]
        exact List.mem_cons_of_mem _ this
    · rw [if_neg hc] at h ⊢
      match i, h with
      | 0, h => cases h; exact List.mem_cons_self
      | i + 1, h =>
        have := ih (j + 1) i v (by simpa using h)
        rw [show j + (i + 1) = j + 1 + i by omega]
        exact List.mem_cons_of_mem _ this
theorem w_ent_len (ad : Nat → Nat) : ∀ (as : List Value), (lg_sl (as.map (w_tr ad))).length = (w_ent as).length := by
  intro as
  induction as with
  | nil => rfl
  | cons a as ih =>
    unfold w_ent
    rw [List.map_cons]
    unfold lg_sl at ih ⊢
    rw [List.flatMap_cons, List.length_append, ih, w_tr_cat]
    by_cases hc : a.category = 2
    · rw [if_pos hc, if_pos hc]
      simp
      omega
    · rw [if_neg hc, if_neg hc]
      simp
      omega
theorem w_lok_entry (ad : Nat → Nat) {nL : Nat} {as : List Value} (h : (w_ent as).length ≤ nL) : w_lok ad nL (w_entry nL as) ((lg_sl (as.map (w_tr ad)) ++ List.replicate (nL - (lg_sl (as.map (w_tr ad))).length) Slot.unset).toArray) := by
  have h1 := lv_entry (as.map (w_tr ad)) (n := nL) (by rw [w_ent_len]; exact h)
  refine ⟨by unfold w_entry; simp; omega, h1.1, h1.2.1, fun q hq => ?_⟩
  obtain ⟨i, w⟩ := q
  obtain ⟨v, hv, rfl⟩ := w_pics_mem.mp hq
  unfold w_entry at hv
  by_cases hi : i < (w_ent as).length
  · rw [List.getElem?_append_left hi] at hv
    have := w_ent_args ad as 0 i v hv
    rw [Nat.zero_add] at this
    exact h1.2.2 _ this
  · rw [List.getElem?_append_right (by omega)] at hv
    have := List.eq_of_mem_replicate (List.mem_of_getElem? hv)
    cases this
theorem w_NL.warm {s U : State} (hW : s.WarmedH U.vm) (h : w_NL s) : w_NL U := ⟨h.1.warmM hW, h.2.warmM hW⟩
theorem w_P.blind {D : va_G} {kc : Nat → ClassId} {sh : wSh} {rf : Nat → Nat → Nat} {n : Nat} {ad : Nat → Nat} {sz : Nat} {μ : wM} {av : List Value} : FrameBlind (va_Pc av (w_P D kc sh rf n ad sz μ)) := by
  intro a U g mk q
  obtain ⟨q0, q1, qP, qK, qD, qN⟩ := q
  exact ⟨q0, q1, qP, va_K.moved (u := U) (U := U.calling g mk a) (Vm.Alike.refl U.vm) qK, qD, ⟨va_Nw.same rfl rfl qN.1, va_Nw.same rfl rfl qN.2⟩⟩
section WMETH
variable {l : Launch} {sh : wSh} {rf : Nat → Nat → Nat} {n d d' o : Nat} {y : MethodName} {bytes : ByteArray} {maxL : Nat} {rty : Option FieldType} {pre : List Value → wM → Prop} {post : List Value → wM → Int32 → wM → Prop}
theorem w_lok.fg {ad : Nat → Nat} {nL : Nat} {la : Array Slot} : ∀ (ks : List Nat) (ls : wL), w_lok ad nL ls la → w_lok ad nL (w_fg ks ls) la := by
  intro ks
  induction ks with
  | nil => intro ls h; exact h
  | cons k ks ih => intro ls h; exact ih _ (h.forg k)
theorem w_sim_fg {p : Program} {l : Launch} {e : Env} {R : Room} {s : State} {m : MethodId} {args : Array Value} {below : List Frame} {meth : Method} {c : Code} {D : va_G} {kc : Nat → ClassId} {sh : wSh} {rf : Nat → Nat → Nat} {n : Nat} {ad : Nat → Nat} {A : Nat → Prop} {H0 : Heap} {nL : Nat} {Q : State → Prop} {tb : wT} {i : Nat} {ls : wL} {st : List Value} {μ : wM} (ks : List Nat) (h : w_sim p l e R s m args below meth c D kc sh rf n ad A H0 nL Q tb i (w_fg ks ls) st μ) : w_sim p l e R s m args below meth c D kc sh rf n ad A H0 nL Q tb i ls st μ :=
  fun H locs la hP hS hl => h H locs la hP hS (hl.fg ks ls)
theorem w_n_sim {p : Program} {e : Env} {s : State} {m : MethodId} {args : Array Value} {below : List Frame} {meth : Method} {c : Code} {D : va_G} {kc : Nat → ClassId} {ad : Nat → Nat} {A : Nat → Prop} {H0 : Heap} {cc : ByteArray} {nL : Nat} {Qc : Array Value → State → Outcome → State → Prop} {free : Addr → Prop}
    {Γ : Nat → Option wS} {tb : wT} {ret : Int32 → wM → Prop} (E : w_env p s m args meth c D kc n ad A H0 cc nL o rty) (hok : w_ok cc tb = true)
    (hΓ : ∀ (idx : Nat) (S : wS), Γ idx = some S → w_Call l o idx S d sh rf n)
    (hret : ∀ (r : Int32) (μ : wM) (H : Heap) (locs : List Loc), (rty = none → r = 0) → ret r μ → va_P D vwCl (w_w kc sh rf n ad μ) H → va_S A H0 H locs → (∀ t : State, t.heap = H → s.WarmedH t.vm → Qc args s (.returned (w_ov rty r)) t) ∧ ∀ q ∈ locs, free q.base) :
    w_cl o Γ sh rf n rty ret tb (w_sim p l e (w_rm d) s m args below meth c D kc sh rf n ad A H0 nL (MQ below Qc args s 0 0 free) tb) := by
  intro cut fuel
  induction fuel with
  | zero => intro i ls st μ h; exact h
  | succ f ih =>
    intro i ls st μ h
    have h : (match w_at tb i with
      | none => False
      | some t => w_1 o Γ sh rf n rty ret t.1 t.2.2 (fun j ls' st' μ' => match cut j with
        | some ks => w_sim p l e (w_rm d) s m args below meth c D kc sh rf n ad A H0 nL (MQ below Qc args s 0 0 free) tb j (w_fg ks ls') st' μ'
        | none => w_n o Γ sh rf n rty ret tb cut (w_sim p l e (w_rm d) s m args below meth c D kc sh rf n ad A H0 nL (MQ below Qc args s 0 0 free) tb) f j ls' st' μ') i ls st μ) := h
    cases ht : w_at tb i with
    | none => rw [ht] at h; exact h.elim
    | some t =>
      rw [ht] at h
      refine w_step E hok hΓ hret ?_ ht h
      intro j ls' st' μ' hj
      split at hj
      · next ks _ => exact w_sim_fg ks hj
      · exact ih _ _ _ _ hj
set_option maxHeartbeats 4000000 in
/-- a method's contract out of its pure walk -/
theorem w_meth {Γ : Nat → Option wS} {tb : wT} (hy : plainName y.cls = true) (hcls : y.cls = w_C o) (hok : w_ok bytes tb = true) (hpc : w_pc tb 0 = 0)
    (hΓ : ∀ (idx : Nat) (S : wS), Γ idx = some S → w_Call l o idx S d sh rf n)
    (hlen : ∀ as μ, pre as μ → (w_ent as).length ≤ maxL)
    (vc : ∀ (as : List Value) (μ : wM), pre as μ → ∀ K : wK, w_cl o Γ sh rf n rty (post as μ) tb K → K 0 (w_entry maxL as) [] μ) : w_Met l y bytes maxL rty d sh rf n pre post := by
  intro D kc ad sz as μ hpre
  refine Met.ofW (cc := bytes) (maxL := maxL) (ret := rty) hy rfl ?_
  intro p e s m args below meth c s₁ B hml hv
  obtain ⟨rfl, hsz, hP, hK, hD0, hNL⟩ := hv
  have hts := atoms_spec (ws := .code y bytes maxL rty :: w_tbl) B.pre
  have hown : s.vm.findClass (w_C o) = some m.cls := by rw [← hcls]; exact findClass_of_methodNamed B.named
  subst hsz
  have hap : w_ap n ad (w_A n ad s.heap.size) := ⟨(w_D' hD0).1, fun i hi => Or.inl ⟨i, hi, rfl⟩⟩
  have hA : ∀ q : Nat, s.heap.size ≤ q → w_A n ad s.heap.size q := fun q h => Or.inr h
  have E : w_env p s m (as.map (w_tr ad)).toArray meth c D kc n ad (w_A n ad s.heap.size) s.heap bytes maxL o rty := ⟨B.exec, B.bytes, hml, hown, fun w hw => hts w (List.mem_cons_of_mem _ hw), hK, hNL, hA, hap, B.notSynchronized, B.returns⟩
  rw [lg_entry_eq]
  have hcl := w_n_sim (l := l) (sh := sh) (rf := rf) (d := d) (e := e) (below := below) (Γ := Γ) (tb := tb) (ret := post as μ) (Qc := w_Q rty (post as μ) (w_B D kc sh rf n ad (w_A n ad s.heap.size)) (w_A n ad s.heap.size)) (free := w_A n ad s.heap.size) E hok hΓ (by
    intro r μ' H locs hr0 hp hP1 hS1
    refine ⟨fun t ht hW => ?_, hS1.2.2⟩
    have hB : w_B D kc sh rf n ad (w_A n ad s.heap.size) μ' t := ⟨by rw [ht]; exact hP1, va_K.moved hW.alike hK, w_D hap μ'⟩
    cases rty with
    | none => exact ⟨⟨μ', rfl, by rw [← hr0 rfl]; exact hp, hB⟩, hS1.F ht⟩
    | some ty => exact ⟨⟨r, μ', rfl, hp, hB⟩, hS1.F ht⟩)
  have h0 := vc as μ hpre _ hcl s.heap [] _ hP va_S.rf (w_lok_entry ad (hlen as μ hpre))
  rw [hpc] at h0
  exact h0
theorem w_good {y : MethodName} {bytes : ByteArray} {maxL : Nat} {rty : Option FieldType} (h : Cond.code y bytes maxL rty ∈ w_tbl) : GoodIn w_tbl (.code y bytes maxL rty :: w_tbl) := by
  intro w hw
  have key : ∀ w ∈ w_tbl, w ∈ w_tbl ∧ ((w.onTables && w.keeps) = true ∨ ∃ ty, w = .arrayClass ty) := fun w hw => ⟨hw, good_of_word (List.mem_filter.mp hw).2⟩
  rcases List.mem_cons.mp hw with rfl | hw
  · exact key _ h
  · exact key _ hw
theorem w_cat_sum {ad : Nat → Nat} : ∀ (rest : List Value), ((rest.map (w_tr ad)).map fun v => v.category).sum ≤ 2 * rest.length := by
  intro rest
  induction rest with
  | nil => exact Nat.le_refl _
  | cons a r ih =>
    rw [List.map_cons, List.map_cons, List.sum_cons, List.length_cons]
    have := lv_cat (w_tr ad a)
    omega
set_option maxHeartbeats 4000000 in
theorem w_behind {p : Program} {e : Env} {s : State} {m : MethodId} {args : Array Value} {below : List Frame} {meth : Method} {c : Code} {D : va_G} {kc : Nat → ClassId} {ad : Nat → Nat} {A : Nat → Prop} {H0 : Heap} {cc : ByteArray} {nL : Nat} {rt : Option FieldType} {Q : State → Prop} {R : Room} {a : Array Value} {st0 : List Value}
    (E : w_env p s m args meth c D kc n ad A H0 cc nL o rt) {pc : Nat} {la : Array Slot} {as rest : List Value} {μ : wM} {H : Heap} {locs : List Loc} (hS : va_S A H0 H locs)
    (hrun : va_Run p l e R s m args below meth c H locs 0 0 0 0 (F0 m pc la st0) (rest.map (w_tr ad)) (w_Q rty (post as μ) (w_B D kc sh rf n ad (w_A n ad H.size)) (w_A n ad H.size) a) (w_A n ad H.size))
    (kk : ∀ (r : Int32) (μ' : wM) (H1 : Heap) (locs1 : List Loc), post as μ r μ' → va_P D vwCl (w_w kc sh rf n ad μ') H1 → va_S A H0 H1 locs1 → W p l e R s m args below meth c H1 locs1 0 0 Q (F0 m (pc + 3) la ((w_pr rty.isNone r rest).map (w_tr ad)))) :
    W p l e R s m args below meth c H locs 0 0 Q (F0 m pc la st0) := by
  obtain ⟨hx, hb, hml, hown, hts, hK0, hNL, hA, hap, hlocks, hr⟩ := E
  have hf : ∀ q, w_A n ad H.size q → A q := by
    rintro q (⟨k, hk, rfl⟩ | h)
    · exact hap.2 k hk
    · exact hA q (Nat.le_trans hS.1 h)
  cases rty with
  | none =>
    refine va_callv (a := a) (rest := rest.map (w_tr ad)) hrun hS (fun q _ h => hf q h) hf (fun u t H1 locs1 ht hvm hp hB hz hk hS1 => ?_)
    exact kk 0 u H1 locs1 hp (by rw [← ht]; exact hB.1) hS1
  | some ty =>
    refine va_calli (a := a) (rest := rest.map (w_tr ad)) hrun hS (fun q _ h => hf q h) hf (fun r u t H1 locs1 ht hvm hp hB hz hk hS1 => ?_)
    exact kk r u H1 locs1 hp (by rw [← ht]; exact hB.1) hS1
theorem w_pre_at {s : State} {D : va_G} {kc : Nat → ClassId} {ad : Nat → Nat} {A : Nat → Prop} {μ : wM} {H : Heap} (hK0 : va_K D vwCl (w_tys kc) s) (hNL : w_NL s) (hap : w_ap n ad A) (hP : va_P D vwCl (w_w kc sh rf n ad μ) H) : ∀ U : State, U.heap = H → s.WarmedH U.vm → w_P D kc sh rf n ad H.size μ U :=
  fun U hU hW => ⟨by rw [hU], by rw [hU]; exact hP, va_K.moved hW.alike hK0, w_D ⟨hap.1, fun _ _ => trivial⟩ μ, hNL.warm hW⟩
set_option maxHeartbeats 4000000 in
/-- a static call -/
theorem w_callS {idx na : Nat} (hM : w_Met l y bytes maxL rty d' sh rf n pre post) (hcode : Cond.code y bytes maxL rty ∈ w_tbl) (hlink : Cond.methodLink (w_C o) idx y ∈ w_tbl) (hst : Cond.static y ∈ w_tbl) (hini : Cond.initialized y.cls ∈ w_tbl)
    (hd : y.cls ≠ "java/lang/invoke/MethodHandle" ∧ y.cls ≠ "java/lang/invoke/VarHandle" ∧ (parseMethodDescriptor y.desc).map (fun d => d.parameters.length) = some na) (hdd : d' + 1 ≤ d) (hmx : maxL ≤ 21) : w_Call l o idx (true, rty.isNone, na, pre, post) d sh rf n := by
  intro p e s m args below meth c D kc ad A H0 cc nL rt Q E pc la as rest μ H locs hla hdg hlen hrest hpre hP hS kk
  obtain ⟨hx, hb, hml, hown, hts, hK0, hNL, hA, hap, hlocks, hr⟩ := id E
  refine w_behind (rty := rty) (post := post) (a := (as.map (w_tr ad)).toArray) E hS ?_ kk
  have hs := w_cat_sum (ad := ad) rest
  refine va_runS (As := as.map (w_tr ad)) (rest := rest.map (w_tr ad)) (n := na) (nL := nL) ⟨hx, hb, hml, hown, hts⟩ (hM D kc ad H.size as μ hpre) ⟨callB_of na hts (w_good hcode) rfl rfl rfl (hts _ hini) (hts _ hlink) hd ⟨hdd, ?_⟩, hts _ hst⟩ ⟨w_P.blind, fun U hU hW => ⟨rfl, w_pre_at hK0 hNL hap hP U hU hW⟩⟩ rfl (by rw [List.length_map]; exact hlen) hla ?_ ?_ hdg ⟨Nat.le_refl _, Nat.le_refl _⟩
  · show 8 + (maxL + 11) + 40 * d' ≤ 40 * d
    omega
  · show (as.reverse ++ rest).map (w_tr ad) = (as.map (w_tr ad)).reverse ++ rest.map (w_tr ad)
    rw [List.map_append, List.map_reverse]
  · show 2 * 0 + _ ≤ 8
    omega
set_option maxHeartbeats 4000000 in
/-- a static call of a nest mate's private method -/
theorem w_callSN {idx na : Nat} {host : String} (hM : w_Met l y bytes maxL rty d' sh rf n pre post) (hcode : Cond.code y bytes maxL rty ∈ w_tbl) (hlink : ∀ U, w_NL U → va_Nw (.methodLinkNest (w_C o) idx y host) U) (hst : Cond.static y ∈ w_tbl) (hini : Cond.initialized y.cls ∈ w_tbl)
    (hd : y.cls ≠ "java/lang/invoke/MethodHandle" ∧ y.cls ≠ "java/lang/invoke/VarHandle" ∧ (parseMethodDescriptor y.desc).map (fun d => d.parameters.length) = some na) (hdd : d' + 1 ≤ d) (hmx : maxL ≤ 21) : w_Call l o idx (true, rty.isNone, na, pre, post) d sh rf n := by
  intro p e s m args below meth c D kc ad A H0 cc nL rt Q E pc la as rest μ H locs hla hdg hlen hrest hpre hP hS kk
  obtain ⟨hx, hb, hml, hown, hts, hK0, hNL, hA, hap, hlocks, hr⟩ := id E
  refine w_behind (rty := rty) (post := post) (a := (as.map (w_tr ad)).toArray) E hS ?_ kk
  have hs := w_cat_sum (ad := ad) rest
  refine va_runSN (As := as.map (w_tr ad)) (rest := rest.map (w_tr ad)) (n := na) (nL := nL) ⟨hx, hb, hml, hown, hts⟩ (hM D kc ad H.size as μ hpre) ⟨va_cnB na hts (w_good hcode) rfl rfl rfl (hlink s hNL) (hts _ hini) hd ⟨hdd, ?_⟩, hts _ hst, trivial⟩ ⟨w_P.blind, fun U hU hW => ⟨rfl, w_pre_at hK0 hNL hap hP U hU hW⟩⟩ rfl (by rw [List.length_map]; exact hlen) hla ?_ ?_ hdg ⟨Nat.le_refl _, Nat.le_refl _⟩
  · show 8 + (maxL + 11) + 40 * d' ≤ 40 * d
    omega
  · show (as.reverse ++ rest).map (w_tr ad) = (as.map (w_tr ad)).reverse ++ rest.map (w_tr ad)
    rw [List.map_append, List.map_reverse]
  · show 2 * 0 + _ ≤ 8
    omega
set_option maxHeartbeats 4000000 in
/-- a call of an object's method -/
theorem w_callV {idx na ci : Nat} (hM : w_Met l y bytes maxL rty d' sh rf n pre post) (hci : ci < 9) (hrecv : ∀ as μ, pre as μ → ∃ q as', as = .ref q :: as' ∧ q < n ∧ sh q = .inl ci) (hcode : Cond.code y bytes maxL rty ∈ w_tbl) (hlink : Cond.methodLink (w_C o) idx y ∈ w_tbl) (hin : Cond.instanceMethod y ∈ w_tbl) (hsel : Cond.selects (w_C ci) y y ∈ w_tbl) (hini : Cond.initialized y.cls ∈ w_tbl)
    (hd : y.cls ≠ "java/lang/invoke/MethodHandle" ∧ y.cls ≠ "java/lang/invoke/VarHandle" ∧ (parseMethodDescriptor y.desc).map (fun d => d.parameters.length) = some na) (hdd : d' + 1 ≤ d) (hmx : maxL ≤ 21) : w_Call l o idx (false, rty.isNone, na + 1, pre, post) d sh rf n := by
  intro p e s m args below meth c D kc ad A H0 cc nL rt Q E pc la as rest μ H locs hla hdg hlen hrest hpre hP hS kk
  obtain ⟨hx, hb, hml, hown, hts, hK0, hNL, hA, hap, hlocks, hr⟩ := id E
  have hs := w_cat_sum (ad := ad) rest
  have hM0 := hM D kc ad H.size as μ hpre
  obtain ⟨q, as', rfl, hq, hsh⟩ := hrecv as μ hpre
  obtain ⟨c1, -⟩ := w_cls ci hci
  refine w_behind (rty := rty) (post := post) (as := .ref q :: as') (a := (Value.ref (ad q) :: as'.map (w_tr ad)).toArray) E hS ?_ kk
  refine va_runV (C := w_C ci) (b := ad q) (As := as'.map (w_tr ad)) (rest := rest.map (w_tr ad)) (n := na) (nL := nL) ⟨hx, hb, hml, hown, hts⟩ hM0 ⟨callB_of na hts (w_good hcode) rfl rfl rfl (hts _ hini) (hts _ hlink) hd ⟨hdd, ?_⟩, hts _ hin, hts _ hsel⟩ ⟨w_P.blind, va_recv hK0 hP (ci := ci) (q0 := q) c1 ((w_w_at hq).trans (by rw [w_e_obj hsh])), fun U hU hW => ⟨rfl, w_pre_at hK0 hNL hap hP U hU hW⟩⟩ rfl (by rw [List.length_map]; simpa using hlen) hla ?_ ?_ hdg ⟨Nat.le_refl _, Nat.le_refl _⟩
  · show 8 + (maxL + 11) + 40 * d' ≤ 40 * d
    omega
  · show ((Value.ref q :: as').reverse ++ rest).map (w_tr ad) = (as'.map (w_tr ad)).reverse ++ Value.ref (ad q) :: rest.map (w_tr ad)
    rw [List.map_append, List.map_reverse, List.map_cons, List.reverse_cons, List.append_assoc]
    rfl
  · show 2 * 0 + _ ≤ 8
    omega
end WMETH
end
section
def tX0_read : wT := [(.aload_n 0, 0, []), (.getfield 15, 1, []), (.iconst (-1), 4, []), (.invokestatic 27, 5, []), (.aload_n 0, 8, []), (.getfield 18, 9, []), (.iconst 0, 12, []), (.invokestatic 27, 13, []), (.aload_n 0, 16, []), (.getfield 21, 17, []), (.iconst 0, 20, []), (.invokestatic 27, 21, []), (.iload_n 3, 24, []), (.aload_n 1, 25, []), (.getfield 33, 26, []), (.invokestatic 39, 29, []), (.iconst 1, 32, []), (.isub, 33, []), (.istore 4, 34, []), (.iload 4, 36, []), (.ifCond .lt 31, 38, [35]), (.aload_n 1, 41, []), (.getfield 45, 42, []), (.iload 4, 45, []), (.iaload, 47, []), (.aload_n 2, 48, []), (.getfield 48, 49, []), (.if_icmp .ne 11, 52, [33]), (.aload_n 0, 55, []), (.aload_n 1, 56, []), (.aload_n 2, 57, []), (.iload 4, 58, []), (.invokevirtual 53, 60, []), (.iinc 4 (-1), 63, []), (.goto (-30), 66, [19]), (.aload_n 2, 69, []), (.getfield 57, 70, []), (.iconst 2, 73, []), (.if_icmp .ne 7, 74, [41]), (.aload_n 0, 77, []), (.invokevirtual 60, 78, []), (.aload_n 0, 81, []), (.aload_n 2, 82, []), (.invokevirtual 63, 83, []), (.return_, 86, [])]
set_option maxRecDepth 100000 in
theorem kX0_read : w_ok cX0_read tX0_read = true := by decide +kernel
def tX0_take : wT := [(.aload_n 1, 0, []), (.getfield 67, 1, []), (.iload_n 3, 4, []), (.iaload, 5, []), (.istore 4, 6, []), (.aload_n 2, 8, []), (.getfield 57, 9, []), (.iconst 2, 12, []), (.if_icmp .ne 52, 13, [37]), (.iload 4, 16, []), (.iconst 3, 18, []), (.imul, 19, []), (.aload_n 1, 20, []), (.getfield 70, 21, []), (.iload_n 3, 24, []), (.iaload, 25, []), (.iadd, 26, []), (.istore 5, 27, []), (.aload_n 0, 29, []), (.getfield 21, 30, []), (.iload 5, 33, []), (.aload_n 0, 35, []), (.getfield 21, 36, []), (.iload 5, 39, []), (.iaload, 41, []), (.ifCond .ne 12, 42, [31]), (.aload_n 1, 45, []), (.getfield 73, 46, []), (.iload_n 3, 49, []), (.iaload, 50, []), (.goto 10, 51, [35]), (.aload_n 0, 54, []), (.getfield 21, 55, []), (.iload 5, 58, []), (.iaload, 60, []), (.iastore, 61, []), (.goto 110, 62, [98]), (.aload_n 2, 65, []), (.getfield 57, 66, []), (.ifCond .ne 51, 69, [68]), (.aload_n 0, 72, []), (.getfield 18, 73, []), (.iload 4, 76, []), (.iaload, 78, []), (.bipush 6, 79, []), (.if_icmp .ge 39, 81, [68]), (.aload_n 0, 84, []), (.iload 4, 85, []), (.aload_n 2, 87, []), (.aload_n 1, 88, []), (.getfield 70, 89, []), (.iload_n 3, 92, []), (.iaload, 93, []), (.aload_n 1, 94, []), (.getfield 73, 95, []), (.iload_n 3, 98, []), (.iaload, 99, []), (.invokevirtual 76, 100, []), (.invokevirtual 79, 103, []), (.aload_n 0, 106, []), (.getfield 18, 107, []), (.iload 4, 110, []), (.dup2, 112, []), (.iaload, 113, []), (.iconst 1, 114, []), (.iadd, 115, []), (.iastore, 116, []), (.goto 55, 117, [98]), (.aload_n 2, 120, []), (.getfield 57, 121, []), (.iconst 1, 124, []), (.if_icmp .ne 47, 125, [98]), (.aload_n 0, 128, []), (.getfield 18, 129, []), (.iload 4, 132, []), (.iaload, 134, []), (.ifCond .ne 37, 135, [98]), (.aload_n 0, 138, []), (.getfield 15, 139, []), (.iload 4, 142, []), (.bipush 6, 144, []), (.imul, 146, []), (.aload_n 2, 147, []), (.aload_n 1, 148, []), (.getfield 70, 149, []), (.iload_n 3, 152, []), (.iaload, 153, []), (.aload_n 1, 154, []), (.getfield 83, 155, []), (.iload_n 3, 158, []), (.iaload, 159, []), (.invokevirtual 86, 160, []), (.iastore, 163, []), (.aload_n 0, 164, []), (.getfield 18, 165, []), (.iload 4, 168, []), (.iconst 1, 170, []), (.iastore, 171, []), (.return_, 172, [])]
set_option maxRecDepth 100000 in
theorem kX0_take : w_ok cX0_take tX0_take = true := by decide +kernel
def tX0_insert : wT := [(.iload_n 1, 0, []), (.bipush 6, 1, []), (.imul, 3, []), (.istore_n 3, 4, []), (.iload_n 3, 5, []), (.aload_n 0, 6, []), (.getfield 18, 7, []), (.iload_n 1, 10, []), (.iaload, 11, []), (.iadd, 12, []), (.istore 4, 13, []), (.iload 4, 15, []), (.iload_n 3, 17, []), (.if_icmp .le 38, 18, [34]), (.aload_n 0, 21, []), (.getfield 15, 22, []), (.iload 4, 25, []), (.iconst 1, 27, []), (.isub, 28, []), (.iaload, 29, []), (.iload_n 2, 30, []), (.if_icmp .ge 25, 31, [34]), (.aload_n 0, 34, []), (.getfield 15, 35, []), (.iload 4, 38, []), (.aload_n 0, 40, []), (.getfield 15, 41, []), (.iload 4, 44, []), (.iconst 1, 46, []), (.isub, 47, []), (.iaload, 48, []), (.iastore, 49, []), (.iinc 4 (-1), 50, []), (.goto (-38), 53, [11]), (.aload_n 0, 56, []), (.getfield 15, 57, []), (.iload 4, 60, []), (.iload_n 2, 62, []), (.iastore, 63, []), (.return_, 64, [])]
set_option maxRecDepth 100000 in
theorem kX0_insert : w_ok cX0_insert tX0_insert = true := by decide +kernel
def tX0_joinJudges : wT := [(.iconst 0, 0, []), (.istore_n 1, 1, []), (.iload_n 1, 2, []), (.bipush 10, 3, []), (.if_icmp .ge 102, 5, [68]), (.aload_n 0, 8, []), (.getfield 21, 9, []), (.iload_n 1, 12, []), (.iconst 3, 13, []), (.imul, 14, []), (.iaload, 15, []), (.istore_n 2, 16, []), (.aload_n 0, 17, []), (.getfield 21, 18, []), (.iload_n 1, 21, []), (.iconst 3, 22, []), (.imul, 23, []), (.iconst 1, 24, []), (.iadd, 25, []), (.iaload, 26, []), (.istore_n 3, 27, []), (.aload_n 0, 28, []), (.getfield 21, 29, []), (.iload_n 1, 32, []), (.iconst 3, 33, []), (.imul, 34, []), (.iconst 2, 35, []), (.iadd, 36, []), (.iaload, 37, []), (.istore 4, 38, []), (.iload_n 2, 40, []), (.ifCond .le 60, 41, [66]), (.iload_n 3, 44, []), (.ifCond .le 56, 45, [66]), (.iload 4, 48, []), (.ifCond .le 51, 50, [66]), (.iload_n 2, 53, []), (.iload_n 3, 54, []), (.invokestatic 39, 55, []), (.iload_n 2, 58, []), (.iload_n 3, 59, []), (.invokestatic 89, 60, []), (.iload 4, 63, []), (.invokestatic 39, 65, []), (.invokestatic 89, 68, []), (.istore 5, 71, []), (.aload_n 0, 73, []), (.getfield 15, 74, []), (.iload_n 1, 77, []), (.bipush 6, 78, []), (.imul, 80, []), (.bipush 100, 81, []), (.iload 5, 83, []), (.imul, 85, []), (.iload_n 2, 86, []), (.iadd, 87, []), (.iload_n 3, 88, []), (.iadd, 89, []), (.iload 4, 90, []), (.iadd, 92, []), (.iastore, 93, []), (.aload_n 0, 94, []), (.getfield 18, 95, []), (.iload_n 1, 98, []), (.iconst 1, 99, []), (.iastore, 100, []), (.iinc 1 1, 101, []), (.goto (-102), 104, [2]), (.return_, 107, [])]
set_option maxRecDepth 100000 in
theorem kX0_joinJudges : w_ok cX0_joinJudges tX0_joinJudges = true := by decide +kernel
def tX0_rank : wT := [(.iconst 0, 0, []), (.istore_n 2, 1, []), (.iload_n 2, 2, []), (.bipush 10, 3, []), (.if_icmp .ge 43, 5, [27]), (.aload_n 0, 8, []), (.getfield 9, 9, []), (.iload_n 2, 12, []), (.aload_n 1, 13, []), (.getfield 92, 14, []), (.ifCond .ne 12, 17, [16]), (.aload_n 0, 20, []), (.getfield 18, 21, []), (.iload_n 2, 24, []), (.iaload, 25, []), (.ifCond .ne 7, 26, [18]), (.iconst 0, 29, []), (.goto 11, 30, [24]), (.iconst 1, 33, []), (.aload_n 0, 34, []), (.iload_n 2, 35, []), (.aload_n 1, 36, []), (.invokevirtual 96, 37, []), (.iadd, 40, []), (.iastore, 41, []), (.iinc 2 1, 42, []), (.goto (-43), 45, [2]), (.return_, 48, [])]
set_option maxRecDepth 100000 in
theorem kX0_rank : w_ok cX0_rank tX0_rank = true := by decide +kernel
def tX0_howManyAheadOf : wT := [(.iconst 0, 0, []), (.istore_n 3, 1, []), (.iconst 0, 2, []), (.istore 4, 3, []), (.iload 4, 5, []), (.bipush 10, 7, []), (.if_icmp .ge 33, 9, [21]), (.aload_n 0, 12, []), (.getfield 18, 13, []), (.iload 4, 16, []), (.iaload, 18, []), (.ifCond .le 17, 19, [19]), (.aload_n 0, 22, []), (.iload 4, 23, []), (.iload_n 1, 25, []), (.aload_n 2, 26, []), (.invokevirtual 100, 27, []), (.ifCond .eq 6, 30, [19]), (.iinc 3 1, 33, []), (.iinc 4 1, 36, []), (.goto (-34), 39, [4]), (.iload_n 3, 42, []), (.ireturn, 43, [])]
set_option maxRecDepth 100000 in
theorem kX0_howManyAheadOf : w_ok cX0_howManyAheadOf tX0_howManyAheadOf = true := by decide +kernel
def tX0_isAhead : wT := [(.aload_n 3, 0, []), (.getfield 57, 1, []), (.ifCond .eq 24, 4, [16]), (.aload_n 0, 7, []), (.iload_n 1, 8, []), (.iconst 0, 9, []), (.invokevirtual 104, 10, []), (.aload_n 0, 13, []), (.iload_n 2, 14, []), (.iconst 0, 15, []), (.invokevirtual 104, 16, []), (.if_icmp .ge 7, 19, [14]), (.iconst 1, 22, []), (.goto 4, 23, [15]), (.iconst 0, 26, []), (.ireturn, 27, []), (.iconst 0, 28, []), (.istore 4, 29, []), (.iload 4, 31, []), (.bipush 6, 33, []), (.if_icmp .ge 49, 35, [45]), (.aload_n 0, 38, []), (.iload_n 1, 39, []), (.iload 4, 40, []), (.invokevirtual 104, 42, []), (.aload_n 0, 45, []), (.iload_n 2, 46, []), (.iload 4, 47, []), (.invokevirtual 104, 49, []), (.if_icmp .eq 26, 52, [43]), (.aload_n 0, 55, []), (.iload_n 1, 56, []), (.iload 4, 57, []), (.invokevirtual 104, 59, []), (.aload_n 0, 62, []), (.iload_n 2, 63, []), (.iload 4, 64, []), (.invokevirtual 104, 66, []), (.if_icmp .le 7, 69, [41]), (.iconst 1, 72, []), (.goto 4, 73, [42]), (.iconst 0, 76, []), (.ireturn, 77, []), (.iinc 4 1, 78, []), (.goto (-50), 81, [18]), (.iconst 0, 84, []), (.ireturn, 85, [])]
set_option maxRecDepth 100000 in
theorem kX0_isAhead : w_ok cX0_isAhead tX0_isAhead = true := by decide +kernel
def tX0_hasMark : wT := [(.aload_n 0, 0, []), (.getfield 18, 1, []), (.iload_n 1, 4, []), (.iaload, 5, []), (.ifCond .le 7, 6, [7]), (.iconst 1, 9, []), (.goto 4, 10, [8]), (.iconst 0, 13, []), (.ireturn, 14, [])]
set_option maxRecDepth 100000 in
theorem kX0_hasMark : w_ok cX0_hasMark tX0_hasMark = true := by decide +kernel
def tX0_markOf : wT := [(.aload_n 0, 0, []), (.getfield 15, 1, []), (.iload_n 1, 4, []), (.bipush 6, 5, []), (.imul, 7, []), (.iload_n 2, 8, []), (.iadd, 9, []), (.iaload, 10, []), (.ireturn, 11, [])]
set_option maxRecDepth 100000 in
theorem kX0_markOf : w_ok cX0_markOf tX0_markOf = true := by decide +kernel
def tX0_isTold : wT := [(.aload_n 0, 0, []), (.getfield 9, 1, []), (.iload_n 1, 4, []), (.iaload, 5, []), (.ifCond .le 7, 6, [7]), (.iconst 1, 9, []), (.goto 4, 10, [8]), (.iconst 0, 13, []), (.ireturn, 14, [])]
set_option maxRecDepth 100000 in
theorem kX0_isTold : w_ok cX0_isTold tX0_isTold = true := by decide +kernel
def tX0_howManyTold : wT := [(.bipush 10, 0, []), (.aload_n 0, 2, []), (.iconst 0, 3, []), (.bipush 10, 4, []), (.invokevirtual 107, 6, []), (.isub, 9, []), (.ireturn, 10, [])]
set_option maxRecDepth 100000 in
theorem kX0_howManyTold : w_ok cX0_howManyTold tX0_howManyTold = true := by decide +kernel
def tX0_howManyAt : wT := [(.iconst 0, 0, []), (.istore_n 3, 1, []), (.iconst 0, 2, []), (.istore 4, 3, []), (.iload 4, 5, []), (.iload_n 2, 7, []), (.if_icmp .ge 28, 8, [21]), (.iload_n 3, 11, []), (.aload_n 0, 12, []), (.getfield 9, 13, []), (.iload 4, 16, []), (.iaload, 18, []), (.iload_n 1, 19, []), (.if_icmp .ne 7, 20, [16]), (.iconst 1, 23, []), (.goto 4, 24, [17]), (.iconst 0, 27, []), (.iadd, 28, []), (.istore_n 3, 29, []), (.iinc 4 1, 30, []), (.goto (-28), 33, [4]), (.iload_n 3, 36, []), (.ireturn, 37, [])]
set_option maxRecDepth 100000 in
theorem kX0_howManyAt : w_ok cX0_howManyAt tX0_howManyAt = true := by decide +kernel
def tX0_leastParadox : wT := [(.iconst 0, 0, []), (.istore_n 1, 1, []), (.iload_n 1, 2, []), (.bipush 10, 3, []), (.if_icmp .ge 29, 5, [19]), (.aload_n 0, 8, []), (.getfield 9, 9, []), (.iload_n 1, 12, []), (.iaload, 13, []), (.iconst 1, 14, []), (.if_icmp .le 13, 15, [17]), (.aload_n 0, 18, []), (.iload_n 1, 19, []), (.invokevirtual 110, 20, []), (.ifCond .eq 5, 23, [17]), (.iload_n 1, 26, []), (.ireturn, 27, []), (.iinc 1 1, 28, []), (.goto (-29), 31, [2]), (.bipush (-2), 34, []), (.ireturn, 36, [])]
set_option maxRecDepth 100000 in
theorem kX0_leastParadox : w_ok cX0_leastParadox tX0_leastParadox = true := by decide +kernel
def tX0_beatsAll : wT := [(.iconst 0, 0, []), (.istore_n 2, 1, []), (.iload_n 2, 2, []), (.bipush 10, 3, []), (.if_icmp .ge 34, 5, [22]), (.iload_n 2, 8, []), (.iload_n 1, 9, []), (.if_icmp .eq 23, 10, [20]), (.aload_n 0, 13, []), (.iload_n 2, 14, []), (.invokevirtual 114, 15, []), (.ifCond .eq 15, 18, [20]), (.aload_n 0, 21, []), (.iload_n 1, 22, []), (.iload_n 2, 23, []), (.invokevirtual 117, 24, []), (.iconst 2, 27, []), (.if_icmp .ge 5, 28, [20]), (.iconst 0, 31, []), (.ireturn, 32, []), (.iinc 2 1, 33, []), (.goto (-34), 36, [2]), (.iconst 1, 39, []), (.ireturn, 40, [])]
set_option maxRecDepth 100000 in
theorem kX0_beatsAll : w_ok cX0_beatsAll tX0_beatsAll = true := by decide +kernel
def tX0_judgesFor : wT := [(.iconst 0, 0, []), (.istore_n 3, 1, []), (.iconst 0, 2, []), (.istore 4, 3, []), (.iload 4, 5, []), (.iconst 3, 7, []), (.if_icmp .ge 42, 8, [32]), (.iload_n 3, 11, []), (.aload_n 0, 12, []), (.getfield 21, 13, []), (.iload_n 1, 16, []), (.iconst 3, 17, []), (.imul, 18, []), (.iload 4, 19, []), (.iadd, 21, []), (.iaload, 22, []), (.aload_n 0, 23, []), (.getfield 21, 24, []), (.iload_n 2, 27, []), (.iconst 3, 28, []), (.imul, 29, []), (.iload 4, 30, []), (.iadd, 32, []), (.iaload, 33, []), (.if_icmp .ge 7, 34, [27]), (.iconst 1, 37, []), (.goto 4, 38, [28]), (.iconst 0, 41, []), (.iadd, 42, []), (.istore_n 3, 43, []), (.iinc 4 1, 44, []), (.goto (-42), 47, [4]), (.iload_n 3, 50, []), (.ireturn, 51, [])]
set_option maxRecDepth 100000 in
theorem kX0_judgesFor : w_ok cX0_judgesFor tX0_judgesFor = true := by decide +kernel
def tX0_settledFrom : wT := [(.aload_n 0, 0, []), (.aload_n 1, 1, []), (.aload_n 2, 2, []), (.aload_n 1, 3, []), (.getfield 33, 4, []), (.invokevirtual 120, 7, []), (.aload_n 0, 10, []), (.getfield 9, 11, []), (.iconst 0, 14, []), (.aload_n 0, 15, []), (.getfield 24, 16, []), (.iconst 0, 19, []), (.bipush 10, 20, []), (.invokestatic 123, 22, []), (.aload_n 1, 25, []), (.getfield 33, 26, []), (.istore_n 3, 29, []), (.iload_n 3, 30, []), (.ifCond .le 42, 31, [42]), (.aload_n 1, 34, []), (.getfield 45, 35, []), (.iload_n 3, 38, []), (.iconst 1, 39, []), (.isub, 40, []), (.iaload, 41, []), (.aload_n 2, 42, []), (.getfield 48, 43, []), (.if_icmp .ne 21, 46, [40]), (.aload_n 0, 49, []), (.aload_n 1, 50, []), (.aload_n 2, 51, []), (.iload_n 3, 52, []), (.iconst 1, 53, []), (.isub, 54, []), (.invokevirtual 120, 55, []), (.aload_n 0, 58, []), (.invokevirtual 129, 59, []), (.ifCond .ne 5, 62, [40]), (.iload_n 3, 65, []), (.ireturn, 66, []), (.iinc 3 (-1), 67, []), (.goto (-40), 70, [17]), (.iconst 0, 73, []), (.ireturn, 74, [])]
set_option maxRecDepth 100000 in
theorem kX0_settledFrom : w_ok cX0_settledFrom tX0_settledFrom = true := by decide +kernel
def tX0_arePlacesAsLast : wT := [(.iconst 0, 0, []), (.istore_n 1, 1, []), (.iload_n 1, 2, []), (.bipush 10, 3, []), (.if_icmp .ge 26, 5, [18]), (.aload_n 0, 8, []), (.getfield 9, 9, []), (.iload_n 1, 12, []), (.iaload, 13, []), (.aload_n 0, 14, []), (.getfield 24, 15, []), (.iload_n 1, 18, []), (.iaload, 19, []), (.if_icmp .eq 5, 20, [16]), (.iconst 0, 23, []), (.ireturn, 24, []), (.iinc 1 1, 25, []), (.goto (-26), 28, [2]), (.iconst 1, 31, []), (.ireturn, 32, [])]
set_option maxRecDepth 100000 in
theorem kX0_arePlacesAsLast : w_ok cX0_arePlacesAsLast tX0_arePlacesAsLast = true := by decide +kernel
def tX1_put : wT := [(.aload_n 0, 0, []), (.iload_n 2, 1, []), (.ifCond .eq 14, 2, [10]), (.aload_n 0, 5, []), (.getfield 21, 6, []), (.iconst 1, 9, []), (.iload_n 1, 10, []), (.ishl, 11, []), (.ior, 12, []), (.goto 13, 13, [18]), (.aload_n 0, 16, []), (.getfield 21, 17, []), (.iconst 1, 20, []), (.iload_n 1, 21, []), (.ishl, 22, []), (.iconst (-1), 23, []), (.ixor, 24, []), (.iand, 25, []), (.putfield 21, 26, []), (.aload_n 0, 29, []), (.getfield 21, 30, []), (.invokestatic 24, 33, []), (.ireturn, 36, [])]
set_option maxRecDepth 100000 in
theorem kX1_put : w_ok cX1_put tX1_put = true := by decide +kernel
def tX1_hasMan : wT := [(.iload_n 1, 0, []), (.iconst 0, 1, []), (.bipush 9, 2, []), (.invokestatic 30, 4, []), (.ifCond .eq 19, 7, [15]), (.aload_n 0, 10, []), (.getfield 21, 11, []), (.iload_n 1, 14, []), (.ishr, 15, []), (.iconst 1, 16, []), (.iand, 17, []), (.iconst 1, 18, []), (.if_icmp .ne 7, 19, [15]), (.iconst 1, 22, []), (.goto 4, 23, [16]), (.iconst 0, 26, []), (.ireturn, 27, [])]
set_option maxRecDepth 100000 in
theorem kX1_hasMan : w_ok cX1_hasMan tX1_hasMan = true := by decide +kernel
def tX1_takes : wT := [(.aload_n 0, 0, []), (.iload_n 1, 1, []), (.invokevirtual 34, 2, []), (.ifCond .ne 5, 5, [6]), (.iconst 0, 8, []), (.ireturn, 9, []), (.aload_n 0, 10, []), (.getfield 38, 11, []), (.ifCond .ne 31, 14, [23]), (.iload_n 2, 17, []), (.iconst (-1), 18, []), (.sipush 9999, 19, []), (.invokestatic 30, 22, []), (.ifCond .eq 18, 25, [21]), (.iload_n 3, 28, []), (.bipush (-20), 29, []), (.bipush 20, 31, []), (.invokestatic 30, 33, []), (.ifCond .eq 7, 36, [21]), (.iconst 1, 39, []), (.goto 4, 40, [22]), (.iconst 0, 43, []), (.ireturn, 44, []), (.aload_n 0, 45, []), (.getfield 38, 46, []), (.iconst 1, 49, []), (.if_icmp .ne 24, 50, [38]), (.iload_n 2, 53, []), (.iconst 1, 54, []), (.sipush 9999, 55, []), (.invokestatic 30, 58, []), (.ifCond .eq 11, 61, [36]), (.iload_n 3, 64, []), (.ifCond .ne 7, 65, [36]), (.iconst 1, 68, []), (.goto 4, 69, [37]), (.iconst 0, 72, []), (.ireturn, 73, []), (.iload_n 2, 74, []), (.iconst 0, 75, []), (.iconst 2, 76, []), (.invokestatic 30, 77, []), (.ifCond .eq 17, 80, [50]), (.iload_n 3, 83, []), (.iconst 1, 84, []), (.bipush 9, 85, []), (.invokestatic 30, 87, []), (.ifCond .eq 7, 90, [50]), (.iconst 1, 93, []), (.goto 4, 94, [51]), (.iconst 0, 97, []), (.ireturn, 98, [])]
set_option maxRecDepth 100000 in
theorem kX1_takes : w_ok cX1_takes tX1_takes = true := by decide +kernel
def tX1_width : wT := [(.aload_n 0, 0, []), (.getfield 38, 1, []), (.iconst 1, 4, []), (.if_icmp .ne 7, 5, [6]), (.iconst 2, 8, []), (.goto 4, 9, [7]), (.iconst 3, 12, []), (.ireturn, 13, [])]
set_option maxRecDepth 100000 in
theorem kX1_width : w_ok cX1_width tX1_width = true := by decide +kernel
def tX1_secondOf : wT := [(.aload_n 0, 0, []), (.getfield 38, 1, []), (.iconst 1, 4, []), (.if_icmp .ne 7, 5, [6]), (.iconst 0, 8, []), (.goto 11, 9, [12]), (.aload_n 1, 12, []), (.getfield 41, 13, []), (.iload_n 2, 16, []), (.iconst 2, 17, []), (.iadd, 18, []), (.iaload, 19, []), (.ireturn, 20, [])]
set_option maxRecDepth 100000 in
theorem kX1_secondOf : w_ok cX1_secondOf tX1_secondOf = true := by decide +kernel
def tX1_fairMark : wT := [(.iload_n 1, 0, []), (.ifCond .ge 7, 1, [4]), (.iconst (-1), 4, []), (.goto 30, 5, [23]), (.iload_n 1, 8, []), (.i2l, 9, []), (.sipush 1000, 10, []), (.aload_n 0, 13, []), (.getfield 47, 14, []), (.isub, 17, []), (.iconst 2, 18, []), (.iload_n 2, 19, []), (.imul, 20, []), (.isub, 21, []), (.i2l, 22, []), (.lmul, 23, []), (.aload_n 0, 24, []), (.getfield 9, 25, []), (.i2l, 28, []), (.lmul, 29, []), (.ldc2_w 50, 30, []), (.ldiv, 33, []), (.l2i, 34, []), (.ireturn, 35, [])]
set_option maxRecDepth 100000 in
theorem kX1_fairMark : w_ok cX1_fairMark tX1_fairMark = true := by decide +kernel
def tX1_raceMark : wT := [(.aload_n 0, 0, []), (.getfield 15, 1, []), (.iload_n 2, 4, []), (.isub, 5, []), (.istore_n 3, 6, []), (.iload_n 3, 7, []), (.iconst 1, 8, []), (.if_icmp .ge 7, 9, [10]), (.iload_n 1, 12, []), (.goto 11, 13, [16]), (.iload_n 1, 16, []), (.aload_n 0, 17, []), (.getfield 15, 18, []), (.imul, 21, []), (.iload_n 3, 22, []), (.idiv, 23, []), (.ireturn, 24, [])]
set_option maxRecDepth 100000 in
theorem kX1_raceMark : w_ok cX1_raceMark tX1_raceMark = true := by decide +kernel
def tX2_isFullFor : wT := [(.aload_n 0, 0, []), (.getfield 27, 1, []), (.iload_n 1, 4, []), (.iadd, 5, []), (.sipush 160, 6, []), (.if_icmp .le 7, 9, [8]), (.iconst 1, 12, []), (.goto 4, 13, [9]), (.iconst 0, 16, []), (.ireturn, 17, [])]
set_option maxRecDepth 100000 in
theorem kX2_isFullFor : w_ok cX2_isFullFor tX2_isFullFor = true := by decide +kernel
def tX2_add : wT := [(.aload_n 0, 0, []), (.getfield 27, 1, []), (.istore 6, 4, []), (.aload_n 0, 6, []), (.getfield 9, 7, []), (.iload 6, 10, []), (.iload_n 1, 12, []), (.iastore, 13, []), (.aload_n 0, 14, []), (.getfield 15, 15, []), (.iload 6, 18, []), (.iload_n 2, 20, []), (.iastore, 21, []), (.aload_n 0, 22, []), (.getfield 18, 23, []), (.iload 6, 26, []), (.iload_n 3, 28, []), (.iastore, 29, []), (.aload_n 0, 30, []), (.getfield 21, 31, []), (.iload 6, 34, []), (.iload 4, 36, []), (.iastore, 38, []), (.aload_n 0, 39, []), (.getfield 24, 40, []), (.iload 6, 43, []), (.iload 5, 45, []), (.iastore, 47, []), (.aload_n 0, 48, []), (.dup, 49, []), (.getfield 27, 50, []), (.iconst 1, 53, []), (.iadd, 54, []), (.putfield 27, 55, []), (.iload 6, 58, []), (.ireturn, 60, [])]
set_option maxRecDepth 100000 in
theorem kX2_add : w_ok cX2_add tX2_add = true := by decide +kernel
def tX2_tellsOf : wT := [(.iconst 0, 0, []), (.istore_n 3, 1, []), (.iload_n 3, 2, []), (.aload_n 0, 3, []), (.getfield 27, 4, []), (.if_icmp .ge 31, 7, [22]), (.aload_n 0, 10, []), (.getfield 9, 11, []), (.iload_n 3, 14, []), (.iaload, 15, []), (.iload_n 1, 16, []), (.if_icmp .ne 15, 17, [20]), (.aload_n 0, 20, []), (.getfield 15, 21, []), (.iload_n 3, 24, []), (.iaload, 25, []), (.iload_n 2, 26, []), (.if_icmp .ne 5, 27, [20]), (.iconst 1, 30, []), (.ireturn, 31, []), (.iinc 3 1, 32, []), (.goto (-33), 35, [2]), (.iconst 0, 38, []), (.ireturn, 39, [])]
set_option maxRecDepth 100000 in
theorem kX2_tellsOf : w_ok cX2_tellsOf tX2_tellsOf = true := by decide +kernel
def tX3_has : wT := [(.iload_n 1, 0, []), (.ifCond .lt 15, 1, [8]), (.iload_n 1, 4, []), (.aload_n 0, 5, []), (.getfield 43, 6, []), (.if_icmp .ge 7, 9, [8]), (.iconst 1, 12, []), (.goto 4, 13, [9]), (.iconst 0, 16, []), (.ireturn, 17, [])]
set_option maxRecDepth 100000 in
theorem kX3_has : w_ok cX3_has tX3_has = true := by decide +kernel
def tX3_isFull : wT := [(.aload_n 0, 0, []), (.getfield 43, 1, []), (.bipush 8, 4, []), (.if_icmp .lt 7, 6, [6]), (.iconst 1, 9, []), (.goto 4, 10, [7]), (.iconst 0, 13, []), (.ireturn, 14, [])]
set_option maxRecDepth 100000 in
theorem kX3_isFull : w_ok cX3_isFull tX3_isFull = true := by decide +kernel
def tX3_add : wT := [(.aload_n 0, 0, []), (.getfield 11, 1, []), (.aload_n 0, 4, []), (.getfield 43, 5, []), (.aaload, 8, []), (.astore 4, 9, []), (.aload 4, 11, []), (.iload_n 1, 13, []), (.putfield 46, 14, []), (.aload 4, 17, []), (.iload_n 2, 19, []), (.putfield 49, 20, []), (.aload 4, 23, []), (.iload_n 3, 25, []), (.putfield 52, 26, []), (.aload_n 0, 29, []), (.dup, 30, []), (.getfield 43, 31, []), (.iconst 1, 34, []), (.iadd, 35, []), (.putfield 43, 36, []), (.aload 4, 39, []), (.getfield 55, 41, []), (.ireturn, 44, [])]
set_option maxRecDepth 100000 in
theorem kX3_add : w_ok cX3_add tX3_add = true := by decide +kernel
def tX3_pair : wT := [(.aload_n 0, 0, []), (.getfield 31, 1, []), (.iload_n 2, 4, []), (.dup2, 5, []), (.iaload, 6, []), (.iconst 1, 7, []), (.iload_n 1, 8, []), (.ishl, 9, []), (.ior, 10, []), (.iastore, 11, []), (.aload_n 0, 12, []), (.dup, 13, []), (.getfield 58, 14, []), (.iconst 1, 17, []), (.iadd, 18, []), (.putfield 58, 19, []), (.aload_n 0, 22, []), (.getfield 58, 23, []), (.ireturn, 26, [])]
set_option maxRecDepth 100000 in
theorem kX3_pair : w_ok cX3_pair tX3_pair = true := by decide +kernel
def tX3_isLaid : wT := [(.aload_n 0, 0, []), (.getfield 61, 1, []), (.iload_n 1, 4, []), (.ishr, 5, []), (.iconst 1, 6, []), (.iand, 7, []), (.iconst 1, 8, []), (.if_icmp .ne 7, 9, [10]), (.iconst 1, 12, []), (.goto 4, 13, [11]), (.iconst 0, 16, []), (.ireturn, 17, [])]
set_option maxRecDepth 100000 in
theorem kX3_isLaid : w_ok cX3_isLaid tX3_isLaid = true := by decide +kernel
def tX3_layBest : wT := [(.aload_n 0, 0, []), (.sipush 1000, 1, []), (.putfield 64, 4, []), (.aload_n 0, 7, []), (.iload_n 1, 8, []), (.iconst 0, 9, []), (.iconst 0, 10, []), (.invokevirtual 67, 11, []), (.aload_n 0, 14, []), (.getfield 64, 15, []), (.sipush 1000, 18, []), (.if_icmp .ne 6, 21, [14]), (.bipush (-2), 24, []), (.ireturn, 26, []), (.aload_n 0, 27, []), (.iload_n 1, 28, []), (.putfield 61, 29, []), (.aload_n 0, 32, []), (.getfield 64, 33, []), (.ireturn, 36, [])]
set_option maxRecDepth 100000 in
theorem kX3_layBest : w_ok cX3_layBest tX3_layBest = true := by decide +kernel
def tX3_search : wT := [(.iload_n 1, 0, []), (.ifCond .ne 10, 1, [7]), (.aload_n 0, 4, []), (.iload_n 2, 5, []), (.iload_n 3, 6, []), (.invokevirtual 71, 7, []), (.return_, 10, []), (.iconst 0, 11, []), (.istore 4, 12, []), (.iload 4, 14, []), (.bipush 8, 16, []), (.if_icmp .ge 41, 18, [36]), (.iload_n 2, 21, []), (.bipush 6, 22, []), (.if_icmp .ge 35, 24, [36]), (.iload_n 1, 27, []), (.iload 4, 28, []), (.ishr, 30, []), (.iconst 1, 31, []), (.iand, 32, []), (.iconst 1, 33, []), (.if_icmp .ne 19, 34, [34]), (.aload_n 0, 37, []), (.iload 4, 38, []), (.iload_n 1, 40, []), (.iconst 1, 41, []), (.iload 4, 42, []), (.ishl, 44, []), (.iconst (-1), 45, []), (.ixor, 46, []), (.iand, 47, []), (.iload_n 2, 48, []), (.iload_n 3, 49, []), (.invokevirtual 75, 50, []), (.iinc 4 1, 53, []), (.goto (-42), 56, [9]), (.return_, 59, [])]
set_option maxRecDepth 100000 in
theorem kX3_search : w_ok cX3_search tX3_search = true := by decide +kernel
def tX3_searchBehind : wT := [(.aload_n 0, 0, []), (.iload_n 1, 1, []), (.iload_n 3, 2, []), (.invokevirtual 79, 3, []), (.istore 5, 6, []), (.iload 4, 8, []), (.iload 5, 10, []), (.aload_n 0, 12, []), (.getfield 11, 13, []), (.iload_n 1, 16, []), (.aaload, 17, []), (.getfield 52, 18, []), (.iadd, 21, []), (.invokestatic 83, 22, []), (.istore 6, 25, []), (.iload 6, 27, []), (.aload_n 0, 29, []), (.getfield 17, 30, []), (.if_icmp .gt 37, 33, [40]), (.iload 6, 36, []), (.aload_n 0, 38, []), (.getfield 64, 39, []), (.if_icmp .ge 28, 42, [40]), (.aload_n 0, 45, []), (.getfield 34, 46, []), (.iload_n 3, 49, []), (.iload_n 1, 50, []), (.iastore, 51, []), (.aload_n 0, 52, []), (.getfield 37, 53, []), (.iload_n 1, 56, []), (.iload 5, 57, []), (.iastore, 59, []), (.aload_n 0, 60, []), (.iload_n 2, 61, []), (.iload_n 3, 62, []), (.iconst 1, 63, []), (.iadd, 64, []), (.iload 6, 65, []), (.invokevirtual 67, 67, []), (.return_, 70, [])]
set_option maxRecDepth 100000 in
theorem kX3_searchBehind : w_ok cX3_searchBehind tX3_searchBehind = true := by decide +kernel
def tX3_keep : wT := [(.aload_n 0, 0, []), (.iload_n 2, 1, []), (.putfield 64, 2, []), (.aload_n 0, 5, []), (.iload_n 1, 6, []), (.putfield 88, 7, []), (.aload_n 0, 10, []), (.getfield 34, 11, []), (.iconst 0, 14, []), (.aload_n 0, 15, []), (.getfield 24, 16, []), (.iconst 0, 19, []), (.bipush 6, 20, []), (.invokestatic 91, 22, []), (.aload_n 0, 25, []), (.getfield 37, 26, []), (.iconst 0, 29, []), (.aload_n 0, 30, []), (.getfield 28, 31, []), (.iconst 0, 34, []), (.bipush 8, 35, []), (.invokestatic 91, 37, []), (.return_, 40, [])]
set_option maxRecDepth 100000 in
theorem kX3_keep : w_ok cX3_keep tX3_keep = true := by decide +kernel
def tX3_firstFit : wT := [(.iconst 0, 0, []), (.istore_n 3, 1, []), (.iconst 0, 2, []), (.istore 4, 3, []), (.iload 4, 5, []), (.bipush 60, 7, []), (.if_icmp .gt 62, 9, [38]), (.iload_n 3, 12, []), (.aload_n 0, 13, []), (.getfield 17, 14, []), (.if_icmp .ge 54, 17, [38]), (.iload_n 3, 20, []), (.istore 5, 21, []), (.iconst 0, 23, []), (.istore 6, 24, []), (.iload 6, 26, []), (.iload_n 2, 28, []), (.if_icmp .ge 25, 29, [29]), (.aload_n 0, 32, []), (.aload_n 0, 33, []), (.getfield 34, 34, []), (.iload 6, 37, []), (.iaload, 39, []), (.iload_n 1, 40, []), (.iload 5, 41, []), (.invokevirtual 97, 43, []), (.istore 5, 46, []), (.iinc 6 1, 48, []), (.goto (-25), 51, [15]), (.iload 5, 54, []), (.iload_n 3, 56, []), (.if_icmp .ne 5, 57, [34]), (.iload_n 3, 60, []), (.ireturn, 61, []), (.iload 5, 62, []), (.istore_n 3, 64, []), (.iinc 4 1, 65, []), (.goto (-63), 68, [4]), (.sipush 1000, 71, []), (.ireturn, 74, [])]
set_option maxRecDepth 100000 in
theorem kX3_firstFit : w_ok cX3_firstFit tX3_firstFit = true := by decide +kernel
def tX3_pushedBy : wT := [(.aload_n 0, 0, []), (.getfield 11, 1, []), (.iload_n 2, 4, []), (.aaload, 5, []), (.astore 4, 6, []), (.aload_n 0, 8, []), (.getfield 11, 9, []), (.iload_n 1, 12, []), (.aaload, 13, []), (.astore 5, 14, []), (.iload_n 3, 16, []), (.aload 4, 17, []), (.getfield 52, 19, []), (.iadd, 22, []), (.istore 6, 23, []), (.aload_n 0, 25, []), (.getfield 37, 26, []), (.iload_n 1, 29, []), (.iaload, 30, []), (.istore 7, 31, []), (.iload 7, 33, []), (.aload 5, 35, []), (.getfield 52, 37, []), (.iadd, 40, []), (.istore 8, 41, []), (.aload_n 0, 43, []), (.getfield 31, 44, []), (.iload_n 1, 47, []), (.iaload, 48, []), (.iload_n 2, 49, []), (.ishr, 50, []), (.iconst 1, 51, []), (.iand, 52, []), (.iconst 1, 53, []), (.if_icmp .ne 14, 54, [40]), (.iload 6, 57, []), (.iload 7, 59, []), (.if_icmp .le 7, 61, [40]), (.sipush 1000, 64, []), (.ireturn, 67, []), (.aload_n 0, 68, []), (.getfield 31, 69, []), (.iload_n 2, 72, []), (.iaload, 73, []), (.iload_n 1, 74, []), (.ishr, 75, []), (.iconst 1, 76, []), (.iand, 77, []), (.iconst 1, 78, []), (.if_icmp .ne 12, 79, [55]), (.iload_n 3, 82, []), (.iload 8, 83, []), (.if_icmp .ge 6, 85, [55]), (.iload 8, 88, []), (.ireturn, 90, []), (.aload 4, 91, []), (.getfield 101, 93, []), (.aload 5, 96, []), (.getfield 101, 98, []), (.iand, 101, []), (.ifCond .eq 34, 102, [78]), (.iload_n 3, 105, []), (.iload 8, 106, []), (.aload_n 0, 108, []), (.getfield 21, 109, []), (.iadd, 112, []), (.if_icmp .ge 23, 113, [78]), (.iload 7, 116, []), (.iload 6, 118, []), (.aload_n 0, 120, []), (.getfield 21, 121, []), (.iadd, 124, []), (.if_icmp .ge 11, 125, [78]), (.iload 8, 128, []), (.aload_n 0, 130, []), (.getfield 21, 131, []), (.iadd, 134, []), (.ireturn, 135, []), (.aload 4, 136, []), (.getfield 49, 138, []), (.aload 5, 141, []), (.getfield 49, 143, []), (.iand, 146, []), (.ifCond .eq 19, 147, [92]), (.iload_n 3, 150, []), (.iload 8, 151, []), (.if_icmp .ge 13, 153, [92]), (.iload 7, 156, []), (.iload 6, 158, []), (.if_icmp .ge 6, 160, [92]), (.iload 8, 163, []), (.ireturn, 165, []), (.iload_n 3, 166, []), (.ireturn, 167, [])]
set_option maxRecDepth 100000 in
theorem kX3_pushedBy : w_ok cX3_pushedBy tX3_pushedBy = true := by decide +kernel
def tX3_idleOf : wT := [(.lconst 0, 0, []), (.lstore_n 2, 1, []), (.bipush 60, 2, []), (.istore 4, 4, []), (.iconst 0, 6, []), (.istore 5, 7, []), (.iconst 0, 9, []), (.istore 6, 10, []), (.iload 6, 12, []), (.aload_n 0, 14, []), (.getfield 88, 15, []), (.if_icmp .ge 83, 18, [54]), (.aload_n 0, 21, []), (.getfield 11, 22, []), (.aload_n 0, 25, []), (.getfield 24, 26, []), (.iload 6, 29, []), (.iaload, 31, []), (.aaload, 32, []), (.astore 7, 33, []), (.aload 7, 35, []), (.iload_n 1, 37, []), (.invokevirtual 104, 38, []), (.ifCond .eq 54, 41, [52]), (.aload_n 0, 44, []), (.getfield 28, 45, []), (.aload 7, 48, []), (.getfield 55, 50, []), (.iaload, 53, []), (.istore 8, 54, []), (.lload_n 2, 56, []), (.lconst 1, 57, []), (.aload 7, 58, []), (.getfield 52, 60, []), (.lshl, 63, []), (.lconst 1, 64, []), (.lsub, 65, []), (.iload 8, 66, []), (.lshl, 68, []), (.lor, 69, []), (.lstore_n 2, 70, []), (.iload 4, 71, []), (.iload 8, 73, []), (.invokestatic 108, 75, []), (.istore 4, 78, []), (.iload 5, 80, []), (.iload 8, 82, []), (.aload 7, 84, []), (.getfield 52, 86, []), (.iadd, 89, []), (.invokestatic 83, 90, []), (.istore 5, 93, []), (.iinc 6 1, 95, []), (.goto (-86), 98, [8]), (.lload_n 2, 101, []), (.lconst 0, 102, []), (.lcmp, 103, []), (.ifCond .ne 8, 104, [60]), (.bipush (-2), 107, []), (.goto 13, 109, [66]), (.iload 5, 112, []), (.iload 4, 114, []), (.isub, 116, []), (.lload_n 2, 117, []), (.invokestatic 111, 118, []), (.isub, 121, []), (.ireturn, 122, [])]
set_option maxRecDepth 100000 in
theorem kX3_idleOf : w_ok cX3_idleOf tX3_idleOf = true := by decide +kernel
def tX4_become : wT := [(.aload_n 1, 0, []), (.iconst 0, 1, []), (.aload_n 0, 2, []), (.getfield 9, 3, []), (.iconst 0, 6, []), (.iload_n 2, 7, []), (.invokestatic 19, 8, []), (.aload_n 0, 11, []), (.iload_n 2, 12, []), (.putfield 15, 13, []), (.return_, 16, [])]
set_option maxRecDepth 100000 in
theorem kX4_become : w_ok cX4_become tX4_become = true := by decide +kernel
def tX4_of : wT := [(.iconst 0, 0, []), (.istore_n 3, 1, []), (.iconst 0, 2, []), (.istore 4, 3, []), (.iload 4, 5, []), (.iload_n 2, 7, []), (.if_icmp .ge 28, 8, [20]), (.iload 4, 11, []), (.aload_n 0, 13, []), (.getfield 15, 14, []), (.if_icmp .ge 19, 17, [20]), (.iload_n 3, 20, []), (.aload_n 0, 21, []), (.getfield 9, 22, []), (.iload 4, 25, []), (.iaload, 27, []), (.iadd, 28, []), (.istore_n 3, 29, []), (.iinc 4 1, 30, []), (.goto (-28), 33, [4]), (.iload_n 1, 36, []), (.iload_n 3, 37, []), (.imul, 38, []), (.bipush 100, 39, []), (.idiv, 41, []), (.ireturn, 42, [])]
set_option maxRecDepth 100000 in
theorem kX4_of : w_ok cX4_of tX4_of = true := by decide +kernel
def tX5_hold : wT := [(.aload_n 0, 0, []), (.iconst 1, 1, []), (.putfield 15, 2, []), (.aload_n 0, 5, []), (.iload_n 1, 6, []), (.putfield 19, 7, []), (.aload_n 0, 10, []), (.iload_n 2, 11, []), (.putfield 23, 12, []), (.aload_n 0, 15, []), (.getfield 9, 16, []), (.iconst 0, 19, []), (.invokestatic 26, 20, []), (.iload_n 2, 23, []), (.ireturn, 24, [])]
set_option maxRecDepth 100000 in
theorem kX5_hold : w_ok cX5_hold tX5_hold = true := by decide +kernel
def tX5_let : wT := [(.aload_n 0, 0, []), (.iconst 0, 1, []), (.putfield 15, 2, []), (.aload_n 0, 5, []), (.getfield 23, 6, []), (.ireturn, 9, [])]
set_option maxRecDepth 100000 in
theorem kX5_let : w_ok cX5_let tX5_let = true := by decide +kernel
def tX5_foundIn : wT := [(.aload_n 0, 0, []), (.getfield 15, 1, []), (.ifCond .ne 6, 4, [5]), (.bipush (-11), 7, []), (.ireturn, 9, []), (.aload_n 0, 10, []), (.getfield 19, 11, []), (.iload_n 1, 14, []), (.if_icmp .eq 6, 15, [11]), (.bipush (-12), 18, []), (.ireturn, 20, []), (.iload_n 2, 21, []), (.ifCond .lt 13, 22, [19]), (.iload_n 3, 25, []), (.aload_n 0, 26, []), (.getfield 23, 27, []), (.iload_n 2, 30, []), (.isub, 31, []), (.if_icmp .le 8, 32, [21]), (.bipush (-13), 35, []), (.goto 4, 37, [22]), (.iconst 0, 40, []), (.ireturn, 41, [])]
set_option maxRecDepth 100000 in
theorem kX5_foundIn : w_ok cX5_foundIn tX5_foundIn = true := by decide +kernel
def tX5_put : wT := [(.aload_n 0, 0, []), (.getfield 9, 1, []), (.iload_n 1, 4, []), (.aload_n 0, 5, []), (.getfield 19, 6, []), (.ifCond .ne 8, 9, [9]), (.iload_n 2, 12, []), (.i2b, 13, []), (.goto 17, 14, [17]), (.aload_n 0, 17, []), (.getfield 19, 18, []), (.iconst 1, 21, []), (.if_icmp .ne 8, 22, [16]), (.iload_n 2, 25, []), (.i2s, 26, []), (.goto 4, 27, [17]), (.iload_n 2, 30, []), (.iastore, 31, []), (.return_, 32, [])]
set_option maxRecDepth 100000 in
theorem kX5_put : w_ok cX5_put tX5_put = true := by decide +kernel
def tX6_isTypable : wT := [(.iconst 0, 0, []), (.istore_n 3, 1, []), (.iload_n 3, 2, []), (.iload_n 2, 3, []), (.if_icmp .ge 26, 4, [16]), (.lload_n 0, 7, []), (.iload_n 3, 8, []), (.invokestatic 18, 9, []), (.bipush 32, 12, []), (.bipush 126, 14, []), (.invokestatic 22, 16, []), (.ifCond .ne 5, 19, [14]), (.iconst 0, 22, []), (.ireturn, 23, []), (.iinc 3 1, 24, []), (.goto (-25), 27, [2]), (.iconst 1, 30, []), (.ireturn, 31, [])]
set_option maxRecDepth 100000 in
theorem kX6_isTypable : w_ok cX6_isTypable tX6_isTypable = true := by decide +kernel
def tX6_byteOf : wT := [(.lload_n 0, 0, []), (.bipush 8, 1, []), (.iload_n 2, 3, []), (.imul, 4, []), (.lshr, 5, []), (.ldc2_w 26, 6, []), (.land, 9, []), (.l2i, 10, []), (.ireturn, 11, [])]
set_option maxRecDepth 100000 in
theorem kX6_byteOf : w_ok cX6_byteOf tX6_byteOf = true := by decide +kernel
def tX6_isFullFor : wT := [(.aload_n 0, 0, []), (.getfield 28, 1, []), (.iload_n 1, 4, []), (.iadd, 5, []), (.bipush 40, 6, []), (.if_icmp .le 7, 8, [8]), (.iconst 1, 11, []), (.goto 4, 12, [9]), (.iconst 0, 15, []), (.ireturn, 16, [])]
set_option maxRecDepth 100000 in
theorem kX6_isFullFor : w_ok cX6_isFullFor tX6_isFullFor = true := by decide +kernel
def tX6_add : wT := [(.iload_n 3, 0, []), (.iconst 1, 1, []), (.isub, 2, []), (.istore 4, 3, []), (.iload 4, 5, []), (.ifCond .lt 34, 7, [22]), (.aload_n 0, 10, []), (.getfield 15, 11, []), (.aload_n 0, 14, []), (.getfield 28, 15, []), (.lload_n 1, 18, []), (.iload 4, 19, []), (.invokestatic 18, 21, []), (.iastore, 24, []), (.aload_n 0, 25, []), (.dup, 26, []), (.getfield 28, 27, []), (.iconst 1, 30, []), (.iadd, 31, []), (.putfield 28, 32, []), (.iinc 4 (-1), 35, []), (.goto (-33), 38, [4]), (.aload_n 0, 41, []), (.getfield 28, 42, []), (.ireturn, 45, [])]
set_option maxRecDepth 100000 in
theorem kX6_add : w_ok cX6_add tX6_add = true := by decide +kernel
def tX6_read : wT := [(.iconst 0, 0, []), (.istore_n 1, 1, []), (.iconst 0, 2, []), (.istore_n 2, 3, []), (.iconst 0, 4, []), (.istore_n 3, 5, []), (.iload_n 3, 6, []), (.bipush 6, 7, []), (.if_icmp .ge 117, 9, [79]), (.aload_n 0, 12, []), (.iload_n 1, 13, []), (.invokevirtual 32, 14, []), (.istore_n 1, 17, []), (.aload_n 0, 18, []), (.iload_n 1, 19, []), (.invokevirtual 36, 20, []), (.istore 4, 23, []), (.iload 4, 25, []), (.iload_n 1, 27, []), (.if_icmp .eq 11, 28, [25]), (.iload 4, 31, []), (.iload_n 1, 33, []), (.isub, 34, []), (.iconst 3, 35, []), (.if_icmp .le 8, 36, [29]), (.bipush (-20), 39, []), (.iload_n 1, 41, []), (.isub, 42, []), (.ireturn, 43, []), (.aload_n 0, 44, []), (.getfield 9, 45, []), (.iload_n 3, 48, []), (.aload_n 0, 49, []), (.iload_n 1, 50, []), (.iload 4, 51, []), (.invokevirtual 39, 53, []), (.iastore, 56, []), (.iload_n 2, 57, []), (.aload_n 0, 58, []), (.getfield 9, 59, []), (.iload_n 3, 62, []), (.iaload, 63, []), (.iadd, 64, []), (.istore_n 2, 65, []), (.iload_n 2, 66, []), (.bipush 100, 67, []), (.if_icmp .le 8, 69, [51]), (.bipush (-20), 72, []), (.iload_n 1, 74, []), (.isub, 75, []), (.ireturn, 76, []), (.aload_n 0, 77, []), (.iload 4, 78, []), (.invokevirtual 32, 80, []), (.istore_n 1, 83, []), (.iload_n 1, 84, []), (.aload_n 0, 85, []), (.getfield 28, 86, []), (.if_icmp .ne 7, 89, [63]), (.iload_n 3, 92, []), (.iconst 1, 93, []), (.iadd, 94, []), (.ireturn, 95, []), (.aload_n 0, 96, []), (.getfield 15, 97, []), (.iload_n 1, 100, []), (.iaload, 101, []), (.bipush 44, 102, []), (.if_icmp .ne 8, 104, [72]), (.iload_n 3, 107, []), (.iconst 5, 108, []), (.if_icmp .ne 8, 109, [76]), (.bipush (-20), 112, []), (.iload_n 1, 114, []), (.isub, 115, []), (.ireturn, 116, []), (.iinc 1 1, 117, []), (.iinc 3 1, 120, []), (.goto (-117), 123, [6]), (.bipush (-20), 126, []), (.iload_n 1, 128, []), (.isub, 129, []), (.ireturn, 130, [])]
set_option maxRecDepth 100000 in
theorem kX6_read : w_ok cX6_read tX6_read = true := by decide +kernel
def tX6_behindBlanks : wT := [(.iload_n 1, 0, []), (.istore_n 2, 1, []), (.iload_n 2, 2, []), (.aload_n 0, 3, []), (.getfield 28, 4, []), (.if_icmp .ge 20, 7, [14]), (.aload_n 0, 10, []), (.getfield 15, 11, []), (.iload_n 2, 14, []), (.iaload, 15, []), (.bipush 32, 16, []), (.if_icmp .ne 9, 18, [14]), (.iinc 2 1, 21, []), (.goto (-22), 24, [2]), (.iload_n 2, 27, []), (.ireturn, 28, [])]
set_option maxRecDepth 100000 in
theorem kX6_behindBlanks : w_ok cX6_behindBlanks tX6_behindBlanks = true := by decide +kernel
def tX6_behindDigits : wT := [(.iload_n 1, 0, []), (.istore_n 2, 1, []), (.iload_n 2, 2, []), (.aload_n 0, 3, []), (.getfield 28, 4, []), (.if_icmp .ge 25, 7, [16]), (.aload_n 0, 10, []), (.getfield 15, 11, []), (.iload_n 2, 14, []), (.iaload, 15, []), (.bipush 48, 16, []), (.bipush 57, 18, []), (.invokestatic 22, 20, []), (.ifCond .eq 9, 23, [16]), (.iinc 2 1, 26, []), (.goto (-27), 29, [2]), (.iload_n 2, 32, []), (.ireturn, 33, [])]
set_option maxRecDepth 100000 in
theorem kX6_behindDigits : w_ok cX6_behindDigits tX6_behindDigits = true := by decide +kernel
def tX6_numberOf : wT := [(.iconst 0, 0, []), (.istore_n 3, 1, []), (.iload_n 1, 2, []), (.istore 4, 3, []), (.iload 4, 5, []), (.iload_n 2, 7, []), (.if_icmp .ge 25, 8, [20]), (.iload_n 3, 11, []), (.bipush 10, 12, []), (.imul, 14, []), (.aload_n 0, 15, []), (.getfield 15, 16, []), (.iload 4, 19, []), (.iaload, 21, []), (.iadd, 22, []), (.bipush 48, 23, []), (.isub, 25, []), (.istore_n 3, 26, []), (.iinc 4 1, 27, []), (.goto (-25), 30, [4]), (.iload_n 3, 33, []), (.ireturn, 34, [])]
set_option maxRecDepth 100000 in
theorem kX6_numberOf : w_ok cX6_numberOf tX6_numberOf = true := by decide +kernel
def tX7_event : wT := [(.iload_n 1, 0, []), (.iconst 0, 1, []), (.iconst 2, 2, []), (.invokestatic 55, 3, []), (.ifCond .eq 23, 6, [15]), (.iload_n 2, 9, []), (.iconst 1, 10, []), (.bipush 15, 11, []), (.invokestatic 55, 13, []), (.ifCond .eq 13, 16, [15]), (.iload_n 3, 19, []), (.iconst 1, 20, []), (.bipush 12, 21, []), (.invokestatic 55, 23, []), (.ifCond .ne 5, 26, [17]), (.iconst (-1), 29, []), (.ireturn, 30, []), (.aload_n 0, 31, []), (.getfield 10, 32, []), (.invokevirtual 59, 35, []), (.ifCond .eq 8, 38, [23]), (.bipush (-3), 41, []), (.goto 13, 43, [29]), (.aload_n 0, 46, []), (.getfield 10, 47, []), (.iload_n 1, 50, []), (.iload_n 2, 51, []), (.iload_n 3, 52, []), (.invokevirtual 63, 53, []), (.ireturn, 56, [])]
set_option maxRecDepth 100000 in
theorem kX7_event : w_ok cX7_event tX7_event = true := by decide +kernel
def tX7_enter : wT := [(.aload_n 0, 0, []), (.getfield 10, 1, []), (.iload_n 1, 4, []), (.invokevirtual 67, 5, []), (.ifCond .eq 10, 8, [8]), (.iload_n 2, 11, []), (.invokestatic 71, 12, []), (.ifCond .ne 5, 15, [10]), (.iconst (-1), 18, []), (.ireturn, 19, []), (.iload_n 3, 20, []), (.ifCond .ne 18, 21, [20]), (.aload_n 0, 24, []), (.getfield 19, 25, []), (.iload_n 1, 28, []), (.iload_n 2, 29, []), (.invokevirtual 74, 30, []), (.ifCond .eq 6, 33, [20]), (.bipush (-2), 36, []), (.ireturn, 38, []), (.aload_n 0, 39, []), (.getfield 10, 40, []), (.getfield 78, 43, []), (.iload_n 1, 46, []), (.aaload, 47, []), (.iload_n 2, 48, []), (.iload_n 3, 49, []), (.invokevirtual 82, 50, []), (.ireturn, 53, [])]
set_option maxRecDepth 100000 in
theorem kX7_enter : w_ok cX7_enter tX7_enter = true := by decide +kernel
def tX7_day : wT := [(.iload_n 1, 0, []), (.iconst 1, 1, []), (.bipush 60, 2, []), (.invokestatic 55, 4, []), (.ifCond .eq 13, 7, [10]), (.iload_n 2, 10, []), (.iconst 0, 11, []), (.bipush 6, 12, []), (.invokestatic 55, 14, []), (.ifCond .ne 5, 17, [12]), (.iconst (-1), 20, []), (.ireturn, 21, []), (.aload_n 0, 22, []), (.getfield 10, 23, []), (.iload_n 1, 26, []), (.putfield 88, 27, []), (.aload_n 0, 30, []), (.getfield 10, 31, []), (.iload_n 2, 34, []), (.putfield 92, 35, []), (.iconst 1, 38, []), (.ireturn, 39, [])]
set_option maxRecDepth 100000 in
theorem kX7_day : w_ok cX7_day tX7_day = true := by decide +kernel
def tX7_call : wT := [(.aload_n 0, 0, []), (.getfield 10, 1, []), (.iload_n 1, 4, []), (.invokevirtual 67, 5, []), (.ifCond .eq 19, 8, [13]), (.aload_n 0, 11, []), (.getfield 10, 12, []), (.iload_n 2, 15, []), (.invokevirtual 67, 16, []), (.ifCond .eq 8, 19, [13]), (.iload_n 1, 22, []), (.iload_n 2, 23, []), (.if_icmp .ne 5, 24, [15]), (.iconst (-1), 27, []), (.ireturn, 28, []), (.aload_n 0, 29, []), (.getfield 10, 30, []), (.getfield 95, 33, []), (.bipush 8, 36, []), (.if_icmp .lt 8, 38, [22]), (.bipush (-3), 41, []), (.goto 12, 43, [27]), (.aload_n 0, 46, []), (.getfield 10, 47, []), (.iload_n 1, 50, []), (.iload_n 2, 51, []), (.invokevirtual 98, 52, []), (.ireturn, 55, [])]
set_option maxRecDepth 100000 in
theorem kX7_call : w_ok cX7_call tX7_call = true := by decide +kernel
def tX7_lay : wT := [(.iload_n 1, 0, []), (.ifCond .le 15, 1, [8]), (.iload_n 1, 4, []), (.aload_n 0, 5, []), (.getfield 10, 6, []), (.getfield 102, 9, []), (.ishr, 12, []), (.ifCond .eq 5, 13, [10]), (.iconst (-1), 16, []), (.ireturn, 17, []), (.iload_n 1, 18, []), (.invokestatic 105, 19, []), (.bipush 6, 22, []), (.if_icmp .le 8, 24, [16]), (.bipush (-3), 27, []), (.goto 11, 29, [20]), (.aload_n 0, 32, []), (.getfield 10, 33, []), (.iload_n 1, 36, []), (.invokevirtual 111, 37, []), (.ireturn, 40, [])]
set_option maxRecDepth 100000 in
theorem kX7_lay : w_ok cX7_lay tX7_lay = true := by decide +kernel
def tX7_begins : wT := [(.aload_n 0, 0, []), (.getfield 10, 1, []), (.iload_n 1, 4, []), (.invokevirtual 67, 5, []), (.ifCond .eq 13, 8, [9]), (.aload_n 0, 11, []), (.getfield 10, 12, []), (.getfield 114, 15, []), (.ifCond .ne 5, 18, [11]), (.iconst (-1), 21, []), (.ireturn, 22, []), (.aload_n 0, 23, []), (.getfield 10, 24, []), (.iload_n 1, 27, []), (.invokevirtual 117, 28, []), (.ifCond .eq 15, 31, [22]), (.aload_n 0, 34, []), (.getfield 10, 35, []), (.getfield 120, 38, []), (.iload_n 1, 41, []), (.iaload, 42, []), (.goto 5, 43, [23]), (.bipush (-2), 46, []), (.ireturn, 48, [])]
set_option maxRecDepth 100000 in
theorem kX7_begins : w_ok cX7_begins tX7_begins = true := by decide +kernel
def tX7_order : wT := [(.iload_n 1, 0, []), (.iconst (-1), 1, []), (.if_icmp .ne 11, 2, [7]), (.aload_n 0, 5, []), (.getfield 10, 6, []), (.getfield 114, 9, []), (.ireturn, 12, []), (.iload_n 1, 13, []), (.iconst 0, 14, []), (.aload_n 0, 15, []), (.getfield 10, 16, []), (.getfield 114, 19, []), (.iconst 1, 22, []), (.isub, 23, []), (.invokestatic 55, 24, []), (.ifCond .eq 15, 27, [22]), (.aload_n 0, 30, []), (.getfield 10, 31, []), (.getfield 123, 34, []), (.iload_n 1, 37, []), (.iaload, 38, []), (.goto 4, 39, [23]), (.iconst (-1), 42, []), (.ireturn, 43, [])]
set_option maxRecDepth 100000 in
theorem kX7_order : w_ok cX7_order tX7_order = true := by decide +kernel
def tX7_idle : wT := [(.iload_n 1, 0, []), (.invokestatic 71, 1, []), (.ifCond .eq 13, 4, [7]), (.aload_n 0, 7, []), (.getfield 10, 8, []), (.getfield 114, 11, []), (.ifCond .ne 5, 14, [9]), (.iconst (-1), 17, []), (.ireturn, 18, []), (.aload_n 0, 19, []), (.getfield 10, 20, []), (.iload_n 1, 23, []), (.invokevirtual 126, 24, []), (.ireturn, 27, [])]
set_option maxRecDepth 100000 in
theorem kX7_idle : w_ok cX7_idle tX7_idle = true := by decide +kernel
def tX7_stone : wT := [(.aload_n 0, 0, []), (.getfield 10, 1, []), (.iload_n 1, 4, []), (.invokevirtual 67, 5, []), (.ifCond .eq 27, 8, [15]), (.iload_n 2, 11, []), (.sipush 1000, 12, []), (.sipush 30000, 15, []), (.invokestatic 55, 18, []), (.ifCond .eq 14, 21, [15]), (.iload_n 3, 24, []), (.bipush (-100), 25, []), (.bipush 100, 27, []), (.invokestatic 55, 29, []), (.ifCond .ne 5, 32, [17]), (.iconst (-1), 35, []), (.ireturn, 36, []), (.aload_n 0, 37, []), (.getfield 10, 38, []), (.getfield 78, 41, []), (.iload_n 1, 44, []), (.aaload, 45, []), (.astore 4, 46, []), (.aload 4, 48, []), (.getfield 129, 50, []), (.ifCond .eq 6, 53, [28]), (.bipush (-12), 56, []), (.ireturn, 58, []), (.aload 4, 59, []), (.iload_n 2, 61, []), (.putfield 132, 62, []), (.aload 4, 65, []), (.iload_n 3, 67, []), (.putfield 135, 68, []), (.iconst 1, 71, []), (.ireturn, 72, [])]
set_option maxRecDepth 100000 in
theorem kX7_stone : w_ok cX7_stone tX7_stone = true := by decide +kernel
def tX7_way : wT := [(.aload_n 0, 0, []), (.getfield 10, 1, []), (.iload_n 1, 4, []), (.invokevirtual 67, 5, []), (.ifCond .eq 15, 8, [10]), (.iload_n 2, 11, []), (.bipush 100, 12, []), (.sipush 2000, 14, []), (.invokestatic 55, 17, []), (.ifCond .ne 5, 20, [12]), (.iconst (-1), 23, []), (.ireturn, 24, []), (.aload_n 0, 25, []), (.getfield 10, 26, []), (.getfield 78, 29, []), (.iload_n 1, 32, []), (.aaload, 33, []), (.astore_n 3, 34, []), (.aload_n 3, 35, []), (.getfield 129, 36, []), (.iconst 1, 39, []), (.if_icmp .eq 6, 40, [24]), (.bipush (-12), 43, []), (.ireturn, 45, []), (.aload_n 3, 46, []), (.getfield 138, 47, []), (.istore 4, 50, []), (.aload_n 3, 52, []), (.iload_n 2, 53, []), (.putfield 138, 54, []), (.iload 4, 57, []), (.ireturn, 59, [])]
set_option maxRecDepth 100000 in
theorem kX7_way : w_ok cX7_way tX7_way = true := by decide +kernel
def tX7_yards : wT := [(.iload_n 1, 0, []), (.invokestatic 71, 1, []), (.ifCond .eq 14, 4, [8]), (.iload_n 2, 7, []), (.bipush (-50), 8, []), (.bipush 50, 10, []), (.invokestatic 55, 12, []), (.ifCond .ne 7, 15, [10]), (.sipush (-1001), 18, []), (.ireturn, 21, []), (.aload_n 0, 22, []), (.getfield 50, 23, []), (.iload_n 1, 26, []), (.iaload, 27, []), (.istore_n 3, 28, []), (.aload_n 0, 29, []), (.getfield 50, 30, []), (.iload_n 1, 33, []), (.iload_n 2, 34, []), (.iastore, 35, []), (.iload_n 3, 36, []), (.ireturn, 37, [])]
set_option maxRecDepth 100000 in
theorem kX7_yards : w_ok cX7_yards tX7_yards = true := by decide +kernel
def tX7_entry : wT := [(.aload_n 0, 0, []), (.getfield 10, 1, []), (.iload_n 1, 4, []), (.invokevirtual 67, 5, []), (.ifCond .eq 22, 8, [15]), (.aload_n 0, 11, []), (.getfield 10, 12, []), (.getfield 78, 15, []), (.iload_n 1, 18, []), (.aaload, 19, []), (.iload_n 2, 20, []), (.iload_n 3, 21, []), (.iload 4, 22, []), (.invokevirtual 141, 24, []), (.ifCond .ne 5, 27, [17]), (.iconst (-1), 30, []), (.ireturn, 31, []), (.aload_n 0, 32, []), (.getfield 19, 33, []), (.iconst 1, 36, []), (.invokevirtual 144, 37, []), (.ifCond .eq 8, 40, [24]), (.bipush (-3), 43, []), (.goto 21, 45, [35]), (.aload_n 0, 48, []), (.getfield 19, 49, []), (.iload_n 1, 52, []), (.iload_n 2, 53, []), (.iload_n 3, 54, []), (.iload 4, 55, []), (.aload_n 0, 57, []), (.getfield 50, 58, []), (.iload_n 2, 61, []), (.iaload, 62, []), (.invokevirtual 147, 63, []), (.ireturn, 66, [])]
set_option maxRecDepth 100000 in
theorem kX7_entry : w_ok cX7_entry tX7_entry = true := by decide +kernel
def tX7_entries : wT := [(.aload_n 0, 0, []), (.getfield 10, 1, []), (.iload_n 1, 4, []), (.invokevirtual 67, 5, []), (.ifCond .eq 28, 8, [16]), (.iload_n 2, 11, []), (.invokestatic 150, 12, []), (.ifCond .eq 21, 15, [16]), (.iload_n 3, 18, []), (.invokestatic 153, 19, []), (.ifCond .eq 14, 22, [16]), (.iload 5, 25, []), (.iconst 0, 27, []), (.bipush 30, 28, []), (.invokestatic 55, 30, []), (.ifCond .ne 5, 33, [18]), (.iconst (-1), 36, []), (.ireturn, 37, []), (.aload_n 0, 38, []), (.getfield 10, 39, []), (.getfield 78, 42, []), (.iload_n 1, 45, []), (.aaload, 46, []), (.astore 6, 47, []), (.aload_n 0, 49, []), (.getfield 46, 50, []), (.iload_n 2, 53, []), (.aaload, 54, []), (.astore 7, 55, []), (.aload 7, 57, []), (.iload_n 3, 59, []), (.iload 4, 60, []), (.iload 5, 62, []), (.aload 6, 64, []), (.invokevirtual 156, 66, []), (.imul, 69, []), (.invokevirtual 160, 70, []), (.istore 8, 73, []), (.iload 8, 75, []), (.ifCond .eq 6, 77, [42]), (.iload 8, 80, []), (.ireturn, 82, []), (.aload_n 0, 83, []), (.aload 6, 84, []), (.aload 7, 86, []), (.iload 4, 88, []), (.iload 5, 90, []), (.invokevirtual 163, 92, []), (.ifCond .ne 6, 95, [51]), (.bipush (-2), 98, []), (.ireturn, 100, []), (.aload_n 0, 101, []), (.getfield 19, 102, []), (.iload 5, 105, []), (.invokevirtual 144, 107, []), (.ifCond .eq 6, 110, [58]), (.bipush (-3), 113, []), (.ireturn, 115, []), (.aload_n 0, 116, []), (.aload 6, 117, []), (.aload 7, 119, []), (.iload 4, 121, []), (.iload 5, 123, []), (.invokevirtual 167, 125, []), (.aload_n 0, 128, []), (.getfield 19, 129, []), (.getfield 171, 132, []), (.ireturn, 135, [])]
set_option maxRecDepth 100000 in
theorem kX7_entries : w_ok cX7_entries tX7_entries = true := by decide +kernel
def tX7_mark : wT := [(.aload_n 0, 0, []), (.getfield 10, 1, []), (.iload_n 1, 4, []), (.invokevirtual 67, 5, []), (.ifCond .eq 18, 8, [12]), (.iload_n 2, 11, []), (.invokestatic 71, 12, []), (.ifCond .eq 11, 15, [12]), (.aload_n 0, 18, []), (.iload_n 3, 19, []), (.invokevirtual 172, 20, []), (.ifCond .ne 5, 23, [14]), (.iconst (-1), 26, []), (.ireturn, 27, []), (.aload_n 0, 28, []), (.getfield 10, 29, []), (.getfield 78, 32, []), (.iload_n 1, 35, []), (.aaload, 36, []), (.astore 5, 37, []), (.iload 4, 39, []), (.iconst 0, 41, []), (.aload 5, 42, []), (.getfield 129, 44, []), (.ifCond .ne 7, 47, [27]), (.iconst 5, 50, []), (.goto 4, 51, [28]), (.iconst 0, 54, []), (.invokestatic 55, 55, []), (.ifCond .ne 5, 58, [32]), (.iconst (-1), 61, []), (.ireturn, 62, []), (.aload_n 0, 63, []), (.getfield 26, 64, []), (.aload_n 0, 67, []), (.getfield 19, 68, []), (.aload 5, 71, []), (.iload_n 3, 73, []), (.invokevirtual 175, 74, []), (.aload_n 0, 77, []), (.getfield 26, 78, []), (.iload_n 2, 81, []), (.invokevirtual 179, 82, []), (.ifCond .eq 16, 85, [50]), (.aload_n 0, 88, []), (.getfield 26, 89, []), (.iload_n 2, 92, []), (.iload 4, 93, []), (.invokevirtual 182, 95, []), (.goto 5, 98, [51]), (.bipush (-2), 101, []), (.ireturn, 103, [])]
set_option maxRecDepth 100000 in
theorem kX7_mark : w_ok cX7_mark tX7_mark = true := by decide +kernel
def tX7_place : wT := [(.aload_n 0, 0, []), (.getfield 10, 1, []), (.iload_n 1, 4, []), (.invokevirtual 67, 5, []), (.ifCond .eq 18, 8, [12]), (.iload_n 2, 11, []), (.invokestatic 71, 12, []), (.ifCond .eq 11, 15, [12]), (.aload_n 0, 18, []), (.iload_n 3, 19, []), (.invokevirtual 172, 20, []), (.ifCond .ne 5, 23, [14]), (.iconst (-1), 26, []), (.ireturn, 27, []), (.aload_n 0, 28, []), (.getfield 26, 29, []), (.aload_n 0, 32, []), (.getfield 19, 33, []), (.aload_n 0, 36, []), (.getfield 10, 37, []), (.getfield 78, 40, []), (.iload_n 1, 43, []), (.aaload, 44, []), (.iload_n 3, 45, []), (.invokevirtual 175, 46, []), (.aload_n 0, 49, []), (.getfield 26, 50, []), (.iload_n 2, 53, []), (.invokevirtual 185, 54, []), (.ifCond .eq 15, 57, [36]), (.aload_n 0, 60, []), (.getfield 26, 61, []), (.getfield 188, 64, []), (.iload_n 2, 67, []), (.iaload, 68, []), (.goto 5, 69, [37]), (.bipush (-2), 72, []), (.ireturn, 74, [])]
set_option maxRecDepth 100000 in
theorem kX7_place : w_ok cX7_place tX7_place = true := by decide +kernel
def tX7_fail : wT := [(.aload_n 0, 0, []), (.getfield 10, 1, []), (.iload_n 1, 4, []), (.invokevirtual 67, 5, []), (.ifCond .ne 5, 8, [7]), (.iconst (-1), 11, []), (.ireturn, 12, []), (.aload_n 0, 13, []), (.getfield 10, 14, []), (.getfield 78, 17, []), (.iload_n 1, 20, []), (.aaload, 21, []), (.getfield 191, 22, []), (.ifCond .eq 7, 25, [16]), (.iconst 1, 28, []), (.goto 4, 29, [17]), (.iconst 0, 32, []), (.istore_n 3, 33, []), (.aload_n 0, 34, []), (.getfield 10, 35, []), (.getfield 78, 38, []), (.iload_n 1, 41, []), (.aaload, 42, []), (.iload_n 2, 43, []), (.putfield 191, 44, []), (.iload_n 3, 47, []), (.ireturn, 48, [])]
set_option maxRecDepth 100000 in
theorem kX7_fail : w_ok cX7_fail tX7_fail = true := by decide +kernel
def tX7_paradox : wT := [(.aload_n 0, 0, []), (.getfield 10, 1, []), (.iload_n 1, 4, []), (.invokevirtual 67, 5, []), (.ifCond .eq 11, 8, [9]), (.aload_n 0, 11, []), (.iload_n 2, 12, []), (.invokevirtual 172, 13, []), (.ifCond .ne 5, 16, [11]), (.iconst (-1), 19, []), (.ireturn, 20, []), (.aload_n 0, 21, []), (.getfield 10, 22, []), (.getfield 78, 25, []), (.iload_n 1, 28, []), (.aaload, 29, []), (.astore_n 3, 30, []), (.aload_n 3, 31, []), (.getfield 129, 32, []), (.iconst 2, 35, []), (.if_icmp .eq 6, 36, [23]), (.bipush (-12), 39, []), (.ireturn, 41, []), (.aload_n 0, 42, []), (.getfield 26, 43, []), (.aload_n 0, 46, []), (.getfield 19, 47, []), (.aload_n 3, 50, []), (.iload_n 2, 51, []), (.invokevirtual 175, 52, []), (.aload_n 0, 55, []), (.getfield 26, 56, []), (.invokevirtual 195, 59, []), (.ireturn, 62, [])]
set_option maxRecDepth 100000 in
theorem kX7_paradox : w_ok cX7_paradox tX7_paradox = true := by decide +kernel
def tX7_settled : wT := [(.aload_n 0, 0, []), (.getfield 10, 1, []), (.iload_n 1, 4, []), (.invokevirtual 67, 5, []), (.ifCond .ne 5, 8, [7]), (.iconst (-1), 11, []), (.ireturn, 12, []), (.aload_n 0, 13, []), (.getfield 26, 14, []), (.aload_n 0, 17, []), (.getfield 19, 18, []), (.aload_n 0, 21, []), (.getfield 10, 22, []), (.getfield 78, 25, []), (.iload_n 1, 28, []), (.aaload, 29, []), (.invokevirtual 198, 30, []), (.ireturn, 33, [])]
set_option maxRecDepth 100000 in
theorem kX7_settled : w_ok cX7_settled tX7_settled = true := by decide +kernel
def tX7_type : wT := [(.iload_n 3, 0, []), (.iconst 1, 1, []), (.bipush 8, 2, []), (.invokestatic 55, 4, []), (.ifCond .eq 11, 7, [9]), (.lload_n 1, 10, []), (.iload_n 3, 11, []), (.invokestatic 202, 12, []), (.ifCond .ne 5, 15, [11]), (.iconst (-1), 18, []), (.ireturn, 19, []), (.aload_n 0, 20, []), (.getfield 33, 21, []), (.iload_n 3, 24, []), (.invokevirtual 206, 25, []), (.ifCond .eq 8, 28, [18]), (.bipush (-3), 31, []), (.goto 12, 33, [23]), (.aload_n 0, 36, []), (.getfield 33, 37, []), (.lload_n 1, 40, []), (.iload_n 3, 41, []), (.invokevirtual 207, 42, []), (.ireturn, 45, [])]
set_option maxRecDepth 100000 in
theorem kX7_type : w_ok cX7_type tX7_type = true := by decide +kernel
def tX7_shares : wT := [(.aload_n 0, 0, []), (.getfield 33, 1, []), (.invokevirtual 210, 4, []), (.istore_n 1, 7, []), (.iload_n 1, 8, []), (.ifCond .le 18, 9, [13]), (.aload_n 0, 12, []), (.getfield 40, 13, []), (.aload_n 0, 16, []), (.getfield 33, 17, []), (.getfield 212, 20, []), (.iload_n 1, 23, []), (.invokevirtual 215, 24, []), (.aload_n 0, 27, []), (.getfield 33, 28, []), (.iconst 0, 31, []), (.putfield 219, 32, []), (.iload_n 1, 35, []), (.ireturn, 36, [])]
set_option maxRecDepth 100000 in
theorem kX7_shares : w_ok cX7_shares tX7_shares = true := by decide +kernel
def tX7_purse : wT := [(.aload_n 0, 0, []), (.getfield 10, 1, []), (.iload_n 1, 4, []), (.invokevirtual 67, 5, []), (.ifCond .eq 13, 8, [10]), (.iload_n 2, 11, []), (.iconst 0, 12, []), (.ldc 220, 13, []), (.invokestatic 55, 15, []), (.ifCond .ne 5, 18, [12]), (.iconst (-1), 21, []), (.ireturn, 22, []), (.aload_n 0, 23, []), (.getfield 10, 24, []), (.getfield 78, 27, []), (.iload_n 1, 30, []), (.aaload, 31, []), (.getfield 221, 32, []), (.istore_n 3, 35, []), (.aload_n 0, 36, []), (.getfield 10, 37, []), (.getfield 78, 40, []), (.iload_n 1, 43, []), (.aaload, 44, []), (.iload_n 2, 45, []), (.putfield 221, 46, []), (.iload_n 3, 49, []), (.ireturn, 50, [])]
set_option maxRecDepth 100000 in
theorem kX7_purse : w_ok cX7_purse tX7_purse = true := by decide +kernel
def tX7_won : wT := [(.aload_n 0, 0, []), (.getfield 10, 1, []), (.iload_n 1, 4, []), (.invokevirtual 67, 5, []), (.ifCond .eq 10, 8, [8]), (.iload_n 2, 11, []), (.invokestatic 71, 12, []), (.ifCond .ne 5, 15, [10]), (.iconst (-1), 18, []), (.ireturn, 19, []), (.aload_n 0, 20, []), (.aload_n 0, 21, []), (.getfield 10, 22, []), (.getfield 78, 25, []), (.iload_n 1, 28, []), (.aaload, 29, []), (.iload_n 2, 30, []), (.invokevirtual 224, 31, []), (.ireturn, 34, [])]
set_option maxRecDepth 100000 in
theorem kX7_won : w_ok cX7_won tX7_won = true := by decide +kernel
def tX7_all : wT := [(.iload_n 1, 0, []), (.invokestatic 71, 1, []), (.ifCond .ne 5, 4, [5]), (.iconst (-1), 7, []), (.ireturn, 8, []), (.iconst 0, 9, []), (.istore_n 2, 10, []), (.iconst 0, 11, []), (.istore_n 3, 12, []), (.iload_n 3, 13, []), (.aload_n 0, 14, []), (.getfield 10, 15, []), (.getfield 102, 18, []), (.if_icmp .ge 26, 21, [27]), (.iload_n 2, 24, []), (.aload_n 0, 25, []), (.aload_n 0, 26, []), (.getfield 10, 27, []), (.getfield 78, 30, []), (.iload_n 3, 33, []), (.aaload, 34, []), (.iload_n 1, 35, []), (.invokevirtual 224, 36, []), (.iadd, 39, []), (.istore_n 2, 40, []), (.iinc 3 1, 41, []), (.goto (-31), 44, [9]), (.iload_n 2, 47, []), (.ireturn, 48, [])]
set_option maxRecDepth 100000 in
theorem kX7_all : w_ok cX7_all tX7_all = true := by decide +kernel
def tX7_move : wT := [(.aload_n 0, 0, []), (.getfield 10, 1, []), (.iload_n 1, 4, []), (.invokevirtual 67, 5, []), (.ifCond .eq 11, 8, [9]), (.aload_n 0, 11, []), (.iload_n 2, 12, []), (.invokevirtual 172, 13, []), (.ifCond .ne 5, 16, [11]), (.iconst (-1), 19, []), (.ireturn, 20, []), (.aload_n 0, 21, []), (.getfield 10, 22, []), (.getfield 78, 25, []), (.iload_n 1, 28, []), (.aaload, 29, []), (.astore_n 3, 30, []), (.aload_n 3, 31, []), (.getfield 129, 32, []), (.iconst 1, 35, []), (.if_icmp .eq 6, 36, [23]), (.bipush (-12), 39, []), (.ireturn, 41, []), (.aload_n 0, 42, []), (.getfield 26, 43, []), (.aload_n 0, 46, []), (.getfield 19, 47, []), (.aload_n 3, 50, []), (.iload_n 2, 51, []), (.invokevirtual 175, 52, []), (.aload_n 0, 55, []), (.invokevirtual 228, 56, []), (.ireturn, 59, [])]
set_option maxRecDepth 100000 in
theorem kX7_move : w_ok cX7_move tX7_move = true := by decide +kernel
def tX7_sheet : wT := [(.iload_n 1, 0, []), (.invokestatic 150, 1, []), (.ifCond .eq 16, 4, [9]), (.iload_n 2, 7, []), (.invokestatic 153, 8, []), (.ifCond .eq 9, 11, [9]), (.iload_n 3, 14, []), (.bipush 60, 15, []), (.if_icmp .le 5, 17, [11]), (.iconst (-1), 20, []), (.ireturn, 21, []), (.iload_n 3, 22, []), (.ifCond .ge 8, 23, [15]), (.bipush (-14), 26, []), (.goto 14, 28, [22]), (.aload_n 0, 31, []), (.getfield 46, 32, []), (.iload_n 1, 35, []), (.aaload, 36, []), (.iload_n 2, 37, []), (.iload_n 3, 38, []), (.invokevirtual 231, 39, []), (.ireturn, 42, [])]
set_option maxRecDepth 100000 in
theorem kX7_sheet : w_ok cX7_sheet tX7_sheet = true := by decide +kernel
def tX7_drop : wT := [(.iload_n 1, 0, []), (.invokestatic 150, 1, []), (.ifCond .ne 5, 4, [5]), (.iconst (-1), 7, []), (.ireturn, 8, []), (.aload_n 0, 9, []), (.getfield 46, 10, []), (.iload_n 1, 13, []), (.aaload, 14, []), (.getfield 234, 15, []), (.ifCond .eq 15, 18, [17]), (.aload_n 0, 21, []), (.getfield 46, 22, []), (.iload_n 1, 25, []), (.aaload, 26, []), (.invokevirtual 237, 27, []), (.goto 5, 30, [18]), (.bipush (-11), 33, []), (.ireturn, 35, [])]
set_option maxRecDepth 100000 in
theorem kX7_drop : w_ok cX7_drop tX7_drop = true := by decide +kernel
def tX7_item : wT := [(.iload_n 1, 0, []), (.invokestatic 150, 1, []), (.ifCond .eq 10, 4, [6]), (.iload_n 2, 7, []), (.invokestatic 153, 8, []), (.ifCond .ne 5, 11, [8]), (.iconst (-1), 14, []), (.ireturn, 15, []), (.aload_n 0, 16, []), (.getfield 46, 17, []), (.iload_n 1, 20, []), (.aaload, 21, []), (.iload_n 2, 22, []), (.iload_n 3, 23, []), (.iconst 1, 24, []), (.invokevirtual 160, 25, []), (.istore 5, 28, []), (.iload 5, 30, []), (.ifCond .eq 6, 32, [21]), (.iload 5, 35, []), (.ireturn, 37, []), (.aload_n 0, 38, []), (.getfield 46, 39, []), (.iload_n 1, 42, []), (.aaload, 43, []), (.iload_n 3, 44, []), (.iload 4, 45, []), (.invokevirtual 240, 47, []), (.iconst 1, 50, []), (.ireturn, 51, [])]
set_option maxRecDepth 100000 in
theorem kX7_item : w_ok cX7_item tX7_item = true := by decide +kernel
def tX7_told : wT := [(.iload_n 2, 0, []), (.bipush 7, 1, []), (.if_icmp .ne 11, 3, [7]), (.aload_n 0, 6, []), (.getfield 10, 7, []), (.getfield 102, 10, []), (.ireturn, 13, []), (.iload_n 2, 14, []), (.bipush 8, 15, []), (.if_icmp .ne 11, 17, [14]), (.aload_n 0, 20, []), (.getfield 19, 21, []), (.getfield 171, 24, []), (.ireturn, 27, []), (.aload_n 0, 28, []), (.getfield 10, 29, []), (.iload_n 1, 32, []), (.invokevirtual 67, 33, []), (.ifCond .eq 20, 36, [28]), (.aload_n 0, 39, []), (.aload_n 0, 40, []), (.getfield 10, 41, []), (.getfield 78, 44, []), (.iload_n 1, 47, []), (.aaload, 48, []), (.iload_n 2, 49, []), (.invokevirtual 243, 50, []), (.goto 4, 53, [29]), (.iconst (-1), 56, []), (.ireturn, 57, [])]
set_option maxRecDepth 100000 in
theorem kX7_told : w_ok cX7_told tX7_told = true := by decide +kernel
def tX7_within : wT := [(.iload_n 0, 0, []), (.iload_n 1, 1, []), (.if_icmp .lt 12, 2, [8]), (.iload_n 0, 5, []), (.iload_n 2, 6, []), (.if_icmp .gt 7, 7, [8]), (.iconst 1, 10, []), (.goto 4, 11, [9]), (.iconst 0, 14, []), (.ireturn, 15, [])]
set_option maxRecDepth 100000 in
theorem kX7_within : w_ok cX7_within tX7_within = true := by decide +kernel
def tX7_isMan : wT := [(.iload_n 0, 0, []), (.iconst 0, 1, []), (.bipush 9, 2, []), (.invokestatic 55, 4, []), (.ireturn, 7, [])]
set_option maxRecDepth 100000 in
theorem kX7_isMan : w_ok cX7_isMan tX7_isMan = true := by decide +kernel
def tX7_isSheet : wT := [(.iload_n 0, 0, []), (.iconst 0, 1, []), (.iconst 3, 2, []), (.invokestatic 55, 3, []), (.ireturn, 6, [])]
set_option maxRecDepth 100000 in
theorem kX7_isSheet : w_ok cX7_isSheet tX7_isSheet = true := by decide +kernel
def tX7_isLane : wT := [(.iload_n 0, 0, []), (.iconst 0, 1, []), (.iconst 2, 2, []), (.invokestatic 55, 3, []), (.ireturn, 6, [])]
set_option maxRecDepth 100000 in
theorem kX7_isLane : w_ok cX7_isLane tX7_isLane = true := by decide +kernel
def tX7_isAsOf : wT := [(.iload_n 1, 0, []), (.iconst 0, 1, []), (.aload_n 0, 2, []), (.getfield 19, 3, []), (.getfield 171, 6, []), (.invokestatic 55, 9, []), (.ireturn, 12, [])]
set_option maxRecDepth 100000 in
theorem kX7_isAsOf : w_ok cX7_isAsOf tX7_isAsOf = true := by decide +kernel
def tX7_areTaken : wT := [(.iconst 0, 0, []), (.istore 5, 1, []), (.iload 5, 3, []), (.iload 4, 5, []), (.if_icmp .ge 52, 7, [33]), (.iload_n 3, 10, []), (.iload 5, 11, []), (.aload_n 1, 13, []), (.invokevirtual 156, 14, []), (.imul, 17, []), (.iadd, 18, []), (.istore 6, 19, []), (.aload_n 1, 21, []), (.aload_n 2, 22, []), (.getfield 246, 23, []), (.iload 6, 26, []), (.iaload, 28, []), (.aload_n 2, 29, []), (.getfield 246, 30, []), (.iload 6, 33, []), (.iconst 1, 35, []), (.iadd, 36, []), (.iaload, 37, []), (.aload_n 1, 38, []), (.aload_n 2, 39, []), (.iload 6, 40, []), (.invokevirtual 249, 42, []), (.invokevirtual 141, 45, []), (.ifCond .ne 5, 48, [31]), (.iconst 0, 51, []), (.ireturn, 52, []), (.iinc 5 1, 53, []), (.goto (-53), 56, [2]), (.iconst 1, 59, []), (.ireturn, 60, [])]
set_option maxRecDepth 100000 in
theorem kX7_areTaken : w_ok cX7_areTaken tX7_areTaken = true := by decide +kernel
def tX7_addAll : wT := [(.iconst 0, 0, []), (.istore 5, 1, []), (.iload 5, 3, []), (.iload 4, 5, []), (.if_icmp .ge 66, 7, [40]), (.iload_n 3, 10, []), (.iload 5, 11, []), (.aload_n 1, 13, []), (.invokevirtual 156, 14, []), (.imul, 17, []), (.iadd, 18, []), (.istore 6, 19, []), (.aload_n 2, 21, []), (.getfield 246, 22, []), (.iload 6, 25, []), (.iaload, 27, []), (.istore 7, 28, []), (.aload_n 0, 30, []), (.getfield 19, 31, []), (.aload_n 1, 34, []), (.getfield 253, 35, []), (.iload 7, 38, []), (.aload_n 2, 40, []), (.getfield 246, 41, []), (.iload 6, 44, []), (.iconst 1, 46, []), (.iadd, 47, []), (.iaload, 48, []), (.aload_n 1, 49, []), (.aload_n 2, 50, []), (.iload 6, 51, []), (.invokevirtual 249, 53, []), (.aload_n 0, 56, []), (.getfield 50, 57, []), (.iload 7, 60, []), (.iaload, 62, []), (.invokevirtual 147, 63, []), (.pop, 66, []), (.iinc 5 1, 67, []), (.goto (-67), 70, [2]), (.return_, 73, [])]
set_option maxRecDepth 100000 in
theorem kX7_addAll : w_ok cX7_addAll tX7_addAll = true := by decide +kernel
def tX7_winnings : wT := [(.aload_n 0, 0, []), (.getfield 26, 1, []), (.aload_n 0, 4, []), (.getfield 19, 5, []), (.aload_n 1, 8, []), (.aload_n 0, 9, []), (.getfield 19, 10, []), (.getfield 171, 13, []), (.invokevirtual 175, 16, []), (.aload_n 0, 19, []), (.getfield 26, 20, []), (.iload_n 2, 23, []), (.invokevirtual 185, 24, []), (.ifCond .ne 5, 27, [16]), (.iconst 0, 30, []), (.ireturn, 31, []), (.aload_n 0, 32, []), (.getfield 26, 33, []), (.getfield 188, 36, []), (.iload_n 2, 39, []), (.iaload, 40, []), (.istore_n 3, 41, []), (.aload_n 0, 42, []), (.getfield 26, 43, []), (.iload_n 3, 46, []), (.bipush 10, 47, []), (.invokevirtual 256, 49, []), (.istore 4, 52, []), (.aload_n 0, 54, []), (.getfield 40, 55, []), (.aload_n 1, 58, []), (.getfield 221, 59, []), (.iload_n 3, 62, []), (.iload 4, 63, []), (.iadd, 65, []), (.iconst 1, 66, []), (.isub, 67, []), (.invokevirtual 259, 68, []), (.aload_n 0, 71, []), (.getfield 40, 72, []), (.aload_n 1, 75, []), (.getfield 221, 76, []), (.iload_n 3, 79, []), (.iconst 1, 80, []), (.isub, 81, []), (.invokevirtual 259, 82, []), (.isub, 85, []), (.istore 5, 86, []), (.iload 4, 88, []), (.iconst 1, 90, []), (.if_icmp .ge 5, 91, [53]), (.iconst 0, 94, []), (.ireturn, 95, []), (.aload_n 0, 96, []), (.getfield 26, 97, []), (.iload_n 3, 100, []), (.iload_n 2, 101, []), (.invokevirtual 256, 102, []), (.iload 5, 105, []), (.iload 4, 107, []), (.irem, 109, []), (.if_icmp .ge 7, 110, [64]), (.iconst 1, 113, []), (.goto 4, 114, [65]), (.iconst 0, 117, []), (.istore 6, 118, []), (.iload 5, 120, []), (.iload 4, 122, []), (.idiv, 124, []), (.iload 6, 125, []), (.ifCond .eq 7, 127, [73]), (.iconst 1, 130, []), (.goto 4, 131, [74]), (.iconst 0, 134, []), (.iadd, 135, []), (.ireturn, 136, [])]
set_option maxRecDepth 100000 in
theorem kX7_winnings : w_ok cX7_winnings tX7_winnings = true := by decide +kernel
def tX7_moveYards : wT := [(.aload_n 0, 0, []), (.getfield 26, 1, []), (.invokevirtual 262, 4, []), (.istore_n 1, 7, []), (.iconst 0, 8, []), (.istore_n 2, 9, []), (.iconst 0, 10, []), (.istore_n 3, 11, []), (.iload_n 3, 12, []), (.bipush 10, 13, []), (.if_icmp .ge 85, 15, [58]), (.aload_n 0, 18, []), (.getfield 26, 19, []), (.iload_n 3, 22, []), (.invokevirtual 185, 23, []), (.ifCond .eq 68, 26, [56]), (.aload_n 0, 29, []), (.getfield 50, 30, []), (.iload_n 3, 33, []), (.iaload, 34, []), (.iconst 2, 35, []), (.aload_n 0, 36, []), (.getfield 26, 37, []), (.getfield 188, 40, []), (.iload_n 3, 43, []), (.iaload, 44, []), (.imul, 45, []), (.iadd, 46, []), (.iconst 1, 47, []), (.isub, 48, []), (.iload_n 1, 49, []), (.isub, 50, []), (.istore 4, 51, []), (.bipush (-50), 53, []), (.bipush 50, 55, []), (.iload 4, 57, []), (.invokestatic 265, 59, []), (.invokestatic 270, 62, []), (.istore 5, 65, []), (.iload_n 2, 67, []), (.iload 5, 68, []), (.aload_n 0, 70, []), (.getfield 50, 71, []), (.iload_n 3, 74, []), (.iaload, 75, []), (.if_icmp .ne 7, 76, [48]), (.iconst 0, 79, []), (.goto 4, 80, [49]), (.iconst 1, 83, []), (.iadd, 84, []), (.istore_n 2, 85, []), (.aload_n 0, 86, []), (.getfield 50, 87, []), (.iload_n 3, 90, []), (.iload 5, 91, []), (.iastore, 93, []), (.iinc 3 1, 94, []), (.goto (-85), 97, [8]), (.iload_n 2, 100, []), (.ireturn, 101, [])]
set_option maxRecDepth 100000 in
theorem kX7_moveYards : w_ok cX7_moveYards tX7_moveYards = true := by decide +kernel
def tX7_toldOf : wT := [(.iload_n 2, 0, []), (.tableswitch 108 0 6 #[43, 48, 53, 58, 63, 68, 81], 1, [37, 2, 5, 8, 11, 14, 17, 24]), (.aload_n 1, 44, []), (.getfield 129, 45, []), (.ireturn, 48, []), (.aload_n 1, 49, []), (.getfield 273, 50, []), (.ireturn, 53, []), (.aload_n 1, 54, []), (.getfield 276, 55, []), (.ireturn, 58, []), (.aload_n 1, 59, []), (.getfield 279, 60, []), (.ireturn, 63, []), (.aload_n 1, 64, []), (.getfield 221, 65, []), (.ireturn, 68, []), (.aload_n 1, 69, []), (.getfield 191, 70, []), (.ifCond .eq 7, 73, [22]), (.iconst 1, 76, []), (.goto 4, 77, [23]), (.iconst 0, 80, []), (.ireturn, 81, []), (.aload_n 0, 82, []), (.getfield 26, 83, []), (.aload_n 0, 86, []), (.getfield 19, 87, []), (.aload_n 1, 90, []), (.aload_n 0, 91, []), (.getfield 19, 92, []), (.getfield 171, 95, []), (.invokevirtual 175, 98, []), (.aload_n 0, 101, []), (.getfield 26, 102, []), (.invokevirtual 262, 105, []), (.ireturn, 108, []), (.iconst (-1), 109, []), (.ireturn, 110, [])]
set_option maxRecDepth 100000 in
theorem kX7_toldOf : w_ok cX7_toldOf tX7_toldOf = true := by decide +kernel
def tX8_in : wT := [(.iload_n 0, 0, []), (.iload_n 1, 1, []), (.if_icmp .lt 12, 2, [8]), (.iload_n 0, 5, []), (.iload_n 2, 6, []), (.if_icmp .gt 7, 7, [8]), (.iconst 1, 10, []), (.goto 4, 11, [9]), (.iconst 0, 14, []), (.ireturn, 15, [])]
set_option maxRecDepth 100000 in
theorem kX8_in : w_ok cX8_in tX8_in = true := by decide +kernel
def tX8_isMan : wT := [(.iload_n 0, 0, []), (.iconst 0, 1, []), (.bipush 9, 2, []), (.invokestatic 1, 4, []), (.ireturn, 7, [])]
set_option maxRecDepth 100000 in
theorem kX8_isMan : w_ok cX8_isMan tX8_isMan = true := by decide +kernel
def tX8_isEvent : wT := [(.iload_n 1, 0, []), (.iconst 0, 1, []), (.aload_n 0, 2, []), (.getfield 118, 3, []), (.iconst 1, 6, []), (.isub, 7, []), (.invokestatic 1, 8, []), (.ireturn, 11, [])]
set_option maxRecDepth 100000 in
theorem kX8_isEvent : w_ok cX8_isEvent tX8_isEvent = true := by decide +kernel
def tX8_event : wT := [(.iload_n 1, 0, []), (.iconst 0, 1, []), (.iconst 2, 2, []), (.invokestatic 1, 3, []), (.ifCond .eq 23, 6, [15]), (.iload_n 2, 9, []), (.iconst 1, 10, []), (.bipush 15, 11, []), (.invokestatic 1, 13, []), (.ifCond .eq 13, 16, [15]), (.iload_n 3, 19, []), (.iconst 1, 20, []), (.bipush 12, 21, []), (.invokestatic 1, 23, []), (.ifCond .ne 5, 26, [17]), (.iconst (-1), 29, []), (.ireturn, 30, []), (.aload_n 0, 31, []), (.getfield 118, 32, []), (.bipush 8, 35, []), (.if_icmp .ne 6, 37, [23]), (.bipush (-3), 40, []), (.ireturn, 42, []), (.aload_n 0, 43, []), (.getfield 13, 44, []), (.aload_n 0, 47, []), (.getfield 118, 48, []), (.iload_n 1, 51, []), (.iastore, 52, []), (.aload_n 0, 53, []), (.getfield 17, 54, []), (.aload_n 0, 57, []), (.getfield 118, 58, []), (.iload_n 2, 61, []), (.iastore, 62, []), (.aload_n 0, 63, []), (.getfield 20, 64, []), (.aload_n 0, 67, []), (.getfield 118, 68, []), (.iload_n 3, 71, []), (.iastore, 72, []), (.aload_n 0, 73, []), (.getfield 33, 74, []), (.aload_n 0, 77, []), (.getfield 118, 78, []), (.sipush 10000, 81, []), (.iastore, 84, []), (.aload_n 0, 85, []), (.getfield 39, 86, []), (.aload_n 0, 89, []), (.getfield 118, 90, []), (.sipush 220, 93, []), (.iastore, 96, []), (.aload_n 0, 97, []), (.dup, 98, []), (.getfield 118, 99, []), (.iconst 1, 102, []), (.iadd, 103, []), (.putfield 118, 104, []), (.aload_n 0, 107, []), (.getfield 118, 108, []), (.iconst 1, 111, []), (.isub, 112, []), (.ireturn, 113, [])]
set_option maxRecDepth 100000 in
theorem kX8_event : w_ok cX8_event tX8_event = true := by decide +kernel
def tX8_bits : wT := [(.iconst 0, 0, []), (.istore_n 1, 1, []), (.iconst 0, 2, []), (.istore_n 2, 3, []), (.iload_n 2, 4, []), (.bipush 10, 5, []), (.if_icmp .ge 17, 7, [17]), (.iload_n 1, 10, []), (.iload_n 0, 11, []), (.iload_n 2, 12, []), (.ishr, 13, []), (.iconst 1, 14, []), (.iand, 15, []), (.iadd, 16, []), (.istore_n 1, 17, []), (.iinc 2 1, 18, []), (.goto (-17), 21, [4]), (.iload_n 1, 24, []), (.ireturn, 25, [])]
set_option maxRecDepth 100000 in
theorem kX8_bits : w_ok cX8_bits tX8_bits = true := by decide +kernel
def tX8_enter : wT := [(.aload_n 0, 0, []), (.iload_n 1, 1, []), (.invokevirtual 121, 2, []), (.ifCond .eq 10, 5, [7]), (.iload_n 2, 8, []), (.invokestatic 125, 9, []), (.ifCond .ne 5, 12, [9]), (.iconst (-1), 15, []), (.ireturn, 16, []), (.iconst 0, 17, []), (.istore 4, 18, []), (.iload 4, 20, []), (.aload_n 0, 22, []), (.getfield 128, 23, []), (.if_icmp .ge 38, 26, [33]), (.iload_n 3, 29, []), (.ifCond .ne 34, 30, [33]), (.aload_n 0, 33, []), (.getfield 70, 34, []), (.iload 4, 37, []), (.iaload, 39, []), (.iload_n 1, 40, []), (.if_icmp .ne 17, 41, [31]), (.aload_n 0, 44, []), (.getfield 73, 45, []), (.iload 4, 48, []), (.iaload, 50, []), (.iload_n 2, 51, []), (.if_icmp .ne 6, 52, [31]), (.bipush (-2), 55, []), (.ireturn, 57, []), (.iinc 4 1, 58, []), (.goto (-41), 61, [11]), (.aload_n 0, 64, []), (.getfield 23, 65, []), (.iload_n 1, 68, []), (.iload_n 3, 69, []), (.ifCond .eq 16, 70, [47]), (.aload_n 0, 73, []), (.getfield 23, 74, []), (.iload_n 1, 77, []), (.iaload, 78, []), (.iconst 1, 79, []), (.iload_n 2, 80, []), (.ishl, 81, []), (.ior, 82, []), (.goto 15, 83, [57]), (.aload_n 0, 86, []), (.getfield 23, 87, []), (.iload_n 1, 90, []), (.iaload, 91, []), (.iconst 1, 92, []), (.iload_n 2, 93, []), (.ishl, 94, []), (.iconst (-1), 95, []), (.ixor, 96, []), (.iand, 97, []), (.iastore, 98, []), (.aload_n 0, 99, []), (.getfield 23, 100, []), (.iload_n 1, 103, []), (.iaload, 104, []), (.invokestatic 131, 105, []), (.ireturn, 108, [])]
set_option maxRecDepth 100000 in
theorem kX8_enter : w_ok cX8_enter tX8_enter = true := by decide +kernel
def tX8_day : wT := [(.iload_n 1, 0, []), (.iconst 1, 1, []), (.bipush 60, 2, []), (.invokestatic 1, 4, []), (.ifCond .eq 13, 7, [10]), (.iload_n 2, 10, []), (.iconst 0, 11, []), (.bipush 6, 12, []), (.invokestatic 1, 14, []), (.ifCond .ne 5, 17, [12]), (.iconst (-1), 20, []), (.ireturn, 21, []), (.aload_n 0, 22, []), (.iload_n 1, 23, []), (.putfield 45, 24, []), (.aload_n 0, 27, []), (.iload_n 2, 28, []), (.putfield 49, 29, []), (.iconst 1, 32, []), (.ireturn, 33, [])]
set_option maxRecDepth 100000 in
theorem kX8_day : w_ok cX8_day tX8_day = true := by decide +kernel
def tX8_call : wT := [(.aload_n 0, 0, []), (.iload_n 1, 1, []), (.invokevirtual 121, 2, []), (.ifCond .eq 16, 5, [11]), (.aload_n 0, 8, []), (.iload_n 2, 9, []), (.invokevirtual 121, 10, []), (.ifCond .eq 8, 13, [11]), (.iload_n 1, 16, []), (.iload_n 2, 17, []), (.if_icmp .ne 5, 18, [13]), (.iconst (-1), 21, []), (.ireturn, 22, []), (.aload_n 0, 23, []), (.getfield 135, 24, []), (.bipush 8, 27, []), (.if_icmp .ne 6, 29, [19]), (.bipush (-3), 32, []), (.ireturn, 34, []), (.aload_n 0, 35, []), (.getfield 52, 36, []), (.aload_n 0, 39, []), (.getfield 135, 40, []), (.iload_n 1, 43, []), (.iastore, 44, []), (.aload_n 0, 45, []), (.getfield 55, 46, []), (.aload_n 0, 49, []), (.getfield 135, 50, []), (.iload_n 2, 53, []), (.iastore, 54, []), (.aload_n 0, 55, []), (.dup, 56, []), (.getfield 135, 57, []), (.iconst 1, 60, []), (.iadd, 61, []), (.putfield 135, 62, []), (.aload_n 0, 65, []), (.getfield 135, 66, []), (.ireturn, 69, [])]
set_option maxRecDepth 100000 in
theorem kX8_call : w_ok cX8_call tX8_call = true := by decide +kernel
def tX8_isCalled : wT := [(.iconst 0, 0, []), (.istore_n 3, 1, []), (.iconst 0, 2, []), (.istore 4, 3, []), (.iload 4, 5, []), (.aload_n 0, 7, []), (.getfield 135, 8, []), (.if_icmp .ge 41, 11, [28]), (.iload_n 3, 14, []), (.ifCond .ne 25, 15, [22]), (.aload_n 0, 18, []), (.getfield 52, 19, []), (.iload 4, 22, []), (.iaload, 24, []), (.iload_n 1, 25, []), (.if_icmp .ne 18, 26, [24]), (.aload_n 0, 29, []), (.getfield 55, 30, []), (.iload 4, 33, []), (.iaload, 35, []), (.iload_n 2, 36, []), (.if_icmp .ne 7, 37, [24]), (.iconst 1, 40, []), (.goto 4, 41, [25]), (.iconst 0, 44, []), (.istore_n 3, 45, []), (.iinc 4 1, 46, []), (.goto (-44), 49, [4]), (.iload_n 3, 52, []), (.ireturn, 53, [])]
set_option maxRecDepth 100000 in
theorem kX8_isCalled : w_ok cX8_isCalled tX8_isCalled = true := by decide +kernel
def tX8_goes : wT := [(.iload_n 2, 0, []), (.aload_n 0, 1, []), (.getfield 20, 2, []), (.iload_n 1, 5, []), (.iaload, 6, []), (.iadd, 7, []), (.istore 4, 8, []), (.aload_n 0, 10, []), (.getfield 61, 11, []), (.iload_n 3, 14, []), (.iaload, 15, []), (.istore 5, 16, []), (.iload 5, 18, []), (.aload_n 0, 20, []), (.getfield 20, 21, []), (.iload_n 3, 24, []), (.iaload, 25, []), (.iadd, 26, []), (.istore 6, 27, []), (.aload_n 0, 29, []), (.getfield 17, 30, []), (.iload_n 1, 33, []), (.iaload, 34, []), (.aload_n 0, 35, []), (.getfield 17, 36, []), (.iload_n 3, 39, []), (.iaload, 40, []), (.iand, 41, []), (.ifCond .eq 18, 42, [37]), (.iload_n 2, 45, []), (.iload 6, 46, []), (.if_icmp .ge 12, 48, [37]), (.iload 5, 51, []), (.iload 4, 53, []), (.if_icmp .ge 5, 55, [37]), (.iconst 0, 58, []), (.ireturn, 59, []), (.aload_n 0, 60, []), (.getfield 23, 61, []), (.iload_n 1, 64, []), (.iaload, 65, []), (.aload_n 0, 66, []), (.getfield 23, 67, []), (.iload_n 3, 70, []), (.iaload, 71, []), (.iand, 72, []), (.ifCond .eq 28, 73, [61]), (.iload_n 2, 76, []), (.iload 6, 77, []), (.aload_n 0, 79, []), (.getfield 49, 80, []), (.iadd, 83, []), (.if_icmp .ge 17, 84, [61]), (.iload 5, 87, []), (.iload 4, 89, []), (.aload_n 0, 91, []), (.getfield 49, 92, []), (.iadd, 95, []), (.if_icmp .ge 5, 96, [61]), (.iconst 0, 99, []), (.ireturn, 100, []), (.aload_n 0, 101, []), (.iload_n 1, 102, []), (.iload_n 3, 103, []), (.invokevirtual 138, 104, []), (.ifCond .eq 10, 107, [69]), (.iload 4, 110, []), (.iload 5, 112, []), (.if_icmp .gt 22, 114, [79]), (.aload_n 0, 117, []), (.iload_n 3, 118, []), (.iload_n 1, 119, []), (.invokevirtual 138, 120, []), (.ifCond .eq 9, 123, [77]), (.iload 6, 126, []), (.iload_n 2, 128, []), (.if_icmp .gt 7, 129, [79]), (.iconst 1, 132, []), (.goto 4, 133, [80]), (.iconst 0, 136, []), (.ireturn, 137, [])]
set_option maxRecDepth 100000 in
theorem kX8_goes : w_ok cX8_goes tX8_goes = true := by decide +kernel
def tX8_layRow : wT := [(.iconst 0, 0, []), (.istore_n 2, 1, []), (.iconst 0, 2, []), (.istore_n 3, 3, []), (.iload_n 3, 4, []), (.iload_n 1, 5, []), (.if_icmp .ge 156, 6, [88]), (.aload_n 0, 9, []), (.getfield 58, 10, []), (.iload_n 3, 13, []), (.iaload, 14, []), (.istore 4, 15, []), (.iconst 0, 17, []), (.istore 5, 18, []), (.iconst 0, 20, []), (.istore 6, 21, []), (.iload 5, 23, []), (.aload_n 0, 25, []), (.getfield 20, 26, []), (.iload 4, 29, []), (.iaload, 31, []), (.iadd, 32, []), (.aload_n 0, 33, []), (.getfield 45, 34, []), (.if_icmp .gt 74, 37, [60]), (.iload 6, 40, []), (.ifCond .ne 69, 42, [60]), (.iconst 1, 45, []), (.istore 6, 46, []), (.iconst 0, 48, []), (.istore 7, 49, []), (.iload 7, 51, []), (.iload_n 3, 53, []), (.if_icmp .ge 39, 54, [51]), (.iload 6, 57, []), (.ifCond .eq 25, 59, [47]), (.aload_n 0, 62, []), (.iload 4, 63, []), (.iload 5, 65, []), (.aload_n 0, 67, []), (.getfield 58, 68, []), (.iload 7, 71, []), (.iaload, 73, []), (.invokevirtual 142, 74, []), (.ifCond .eq 7, 77, [47]), (.iconst 1, 80, []), (.goto 4, 81, [48]), (.iconst 0, 84, []), (.istore 6, 85, []), (.iinc 7 1, 87, []), (.goto (-39), 90, [31]), (.iload 5, 93, []), (.iload 6, 95, []), (.ifCond .eq 7, 97, [56]), (.iconst 0, 100, []), (.goto 4, 101, [57]), (.iconst 1, 104, []), (.iadd, 105, []), (.istore 5, 106, []), (.goto (-85), 108, [16]), (.iload 6, 111, []), (.ifCond .ne 5, 113, [64]), (.iconst (-1), 116, []), (.ireturn, 117, []), (.aload_n 0, 118, []), (.getfield 61, 119, []), (.iload 4, 122, []), (.iload 5, 124, []), (.iastore, 126, []), (.iload 5, 127, []), (.aload_n 0, 129, []), (.getfield 20, 130, []), (.iload 4, 133, []), (.iaload, 135, []), (.iadd, 136, []), (.iload_n 2, 137, []), (.if_icmp .le 16, 138, [84]), (.iload 5, 141, []), (.aload_n 0, 143, []), (.getfield 20, 144, []), (.iload 4, 147, []), (.iaload, 149, []), (.iadd, 150, []), (.goto 4, 151, [85]), (.iload_n 2, 154, []), (.istore_n 2, 155, []), (.iinc 3 1, 156, []), (.goto (-155), 159, [4]), (.iload_n 2, 162, []), (.ireturn, 163, [])]
set_option maxRecDepth 100000 in
theorem kX8_layRow : w_ok cX8_layRow tX8_layRow = true := by decide +kernel
def tX8_countsUp : wT := [(.iload_n 1, 0, []), (.iconst 2, 1, []), (.isub, 2, []), (.istore_n 2, 3, []), (.iload_n 2, 4, []), (.ifCond .lt 26, 5, [19]), (.aload_n 0, 8, []), (.getfield 58, 9, []), (.iload_n 2, 12, []), (.iaload, 13, []), (.aload_n 0, 14, []), (.getfield 58, 15, []), (.iload_n 2, 18, []), (.iconst 1, 19, []), (.iadd, 20, []), (.iaload, 21, []), (.if_icmp .le 9, 22, [19]), (.iinc 2 (-1), 25, []), (.goto (-24), 28, [4]), (.iload_n 2, 31, []), (.ifCond .ge 5, 32, [23]), (.iconst 0, 35, []), (.ireturn, 36, []), (.iload_n 1, 37, []), (.iconst 1, 38, []), (.isub, 39, []), (.istore_n 3, 40, []), (.aload_n 0, 41, []), (.getfield 58, 42, []), (.iload_n 3, 45, []), (.iaload, 46, []), (.aload_n 0, 47, []), (.getfield 58, 48, []), (.iload_n 2, 51, []), (.iaload, 52, []), (.if_icmp .ge 9, 53, [38]), (.iinc 3 (-1), 56, []), (.goto (-18), 59, [27]), (.aload_n 0, 62, []), (.getfield 58, 63, []), (.iload_n 2, 66, []), (.iaload, 67, []), (.istore 4, 68, []), (.aload_n 0, 70, []), (.getfield 58, 71, []), (.iload_n 2, 74, []), (.aload_n 0, 75, []), (.getfield 58, 76, []), (.iload_n 3, 79, []), (.iaload, 80, []), (.iastore, 81, []), (.aload_n 0, 82, []), (.getfield 58, 83, []), (.iload_n 3, 86, []), (.iload 4, 87, []), (.iastore, 89, []), (.iload_n 2, 90, []), (.iconst 1, 91, []), (.iadd, 92, []), (.istore 5, 93, []), (.iload_n 1, 95, []), (.iconst 1, 96, []), (.isub, 97, []), (.istore 6, 98, []), (.iload 5, 100, []), (.iload 6, 102, []), (.if_icmp .ge 44, 104, [88]), (.aload_n 0, 107, []), (.getfield 58, 108, []), (.iload 5, 111, []), (.iaload, 113, []), (.istore 4, 114, []), (.aload_n 0, 116, []), (.getfield 58, 117, []), (.iload 5, 120, []), (.aload_n 0, 122, []), (.getfield 58, 123, []), (.iload 6, 126, []), (.iaload, 128, []), (.iastore, 129, []), (.aload_n 0, 130, []), (.getfield 58, 131, []), (.iload 6, 134, []), (.iload 4, 136, []), (.iastore, 138, []), (.iinc 5 1, 139, []), (.iinc 6 (-1), 142, []), (.goto (-45), 145, [64]), (.iconst 1, 148, []), (.ireturn, 149, [])]
set_option maxRecDepth 100000 in
theorem kX8_countsUp : w_ok cX8_countsUp tX8_countsUp = true := by decide +kernel
def tX8_lay : wT := [(.iload_n 1, 0, []), (.iconst 1, 1, []), (.iconst 1, 2, []), (.aload_n 0, 3, []), (.getfield 118, 4, []), (.ishl, 7, []), (.iconst 1, 8, []), (.isub, 9, []), (.invokestatic 1, 10, []), (.ifCond .ne 5, 13, [12]), (.iconst (-1), 16, []), (.ireturn, 17, []), (.iload_n 1, 18, []), (.invokestatic 131, 19, []), (.istore_n 2, 22, []), (.iload_n 2, 23, []), (.bipush 6, 24, []), (.if_icmp .le 6, 26, [20]), (.bipush (-3), 29, []), (.ireturn, 31, []), (.iconst 0, 32, []), (.istore_n 3, 33, []), (.iconst 0, 34, []), (.istore 4, 35, []), (.iload 4, 37, []), (.aload_n 0, 39, []), (.getfield 118, 40, []), (.if_icmp .ge 30, 43, [43]), (.iload_n 1, 46, []), (.iload 4, 47, []), (.ishr, 49, []), (.iconst 1, 50, []), (.iand, 51, []), (.iconst 1, 52, []), (.if_icmp .ne 14, 53, [41]), (.aload_n 0, 56, []), (.getfield 58, 57, []), (.iload_n 3, 60, []), (.iload 4, 61, []), (.iastore, 63, []), (.iinc 3 1, 64, []), (.iinc 4 1, 67, []), (.goto (-33), 70, [24]), (.iconst (-1), 73, []), (.istore 4, 74, []), (.iconst 1, 76, []), (.istore 5, 77, []), (.iload 5, 79, []), (.ifCond .eq 46, 81, [70]), (.aload_n 0, 84, []), (.iload_n 2, 85, []), (.invokevirtual 145, 86, []), (.istore 6, 89, []), (.iload 6, 91, []), (.ifCond .lt 24, 93, [65]), (.iload 4, 96, []), (.ifCond .lt 10, 98, [60]), (.iload 6, 101, []), (.iload 4, 103, []), (.if_icmp .ge 12, 105, [65]), (.iload 6, 108, []), (.istore 4, 110, []), (.aload_n 0, 112, []), (.iload_n 2, 113, []), (.invokevirtual 148, 114, []), (.aload_n 0, 117, []), (.iload_n 2, 118, []), (.invokevirtual 152, 119, []), (.istore 5, 122, []), (.goto (-45), 124, [47]), (.iload 4, 127, []), (.ifCond .ge 8, 129, [74]), (.bipush (-2), 132, []), (.goto 5, 134, [75]), (.iload 4, 137, []), (.ireturn, 139, [])]
set_option maxRecDepth 100000 in
theorem kX8_lay : w_ok cX8_lay tX8_lay = true := by decide +kernel
def tX8_keep : wT := [(.aload_n 0, 0, []), (.iconst 1, 1, []), (.putfield 155, 2, []), (.aload_n 0, 5, []), (.iload_n 1, 6, []), (.putfield 159, 7, []), (.iconst 0, 10, []), (.istore_n 2, 11, []), (.iload_n 2, 12, []), (.bipush 8, 13, []), (.if_icmp .ge 16, 15, [18]), (.aload_n 0, 18, []), (.getfield 67, 19, []), (.iload_n 2, 22, []), (.iconst (-1), 23, []), (.iastore, 24, []), (.iinc 2 1, 25, []), (.goto (-16), 28, [8]), (.iconst 0, 31, []), (.istore_n 2, 32, []), (.iload_n 2, 33, []), (.iload_n 1, 34, []), (.if_icmp .ge 43, 35, [47]), (.aload_n 0, 38, []), (.getfield 64, 39, []), (.iload_n 2, 42, []), (.aload_n 0, 43, []), (.getfield 58, 44, []), (.iload_n 2, 47, []), (.iaload, 48, []), (.iastore, 49, []), (.aload_n 0, 50, []), (.getfield 67, 51, []), (.aload_n 0, 54, []), (.getfield 58, 55, []), (.iload_n 2, 58, []), (.iaload, 59, []), (.aload_n 0, 60, []), (.getfield 61, 61, []), (.aload_n 0, 64, []), (.getfield 58, 65, []), (.iload_n 2, 68, []), (.iaload, 69, []), (.iaload, 70, []), (.iastore, 71, []), (.iinc 2 1, 72, []), (.goto (-42), 75, [20]), (.return_, 78, [])]
set_option maxRecDepth 100000 in
theorem kX8_keep : w_ok cX8_keep tX8_keep = true := by decide +kernel
def tX8_begins : wT := [(.aload_n 0, 0, []), (.getfield 155, 1, []), (.ifCond .eq 11, 4, [7]), (.aload_n 0, 7, []), (.iload_n 1, 8, []), (.invokevirtual 121, 9, []), (.ifCond .ne 5, 12, [9]), (.iconst (-1), 15, []), (.ireturn, 16, []), (.aload_n 0, 17, []), (.getfield 67, 18, []), (.iload_n 1, 21, []), (.iaload, 22, []), (.ifCond .ge 8, 23, [16]), (.bipush (-2), 26, []), (.goto 9, 28, [20]), (.aload_n 0, 31, []), (.getfield 67, 32, []), (.iload_n 1, 35, []), (.iaload, 36, []), (.ireturn, 37, [])]
set_option maxRecDepth 100000 in
theorem kX8_begins : w_ok cX8_begins tX8_begins = true := by decide +kernel
def tX8_order : wT := [(.iload_n 1, 0, []), (.iconst (-1), 1, []), (.if_icmp .ne 10, 2, [6]), (.aload_n 0, 5, []), (.getfield 159, 6, []), (.goto 27, 9, [20]), (.iload_n 1, 12, []), (.iconst 0, 13, []), (.aload_n 0, 14, []), (.getfield 159, 15, []), (.iconst 1, 18, []), (.isub, 19, []), (.invokestatic 1, 20, []), (.ifCond .eq 12, 23, [19]), (.aload_n 0, 26, []), (.getfield 64, 27, []), (.iload_n 1, 30, []), (.iaload, 31, []), (.goto 4, 32, [20]), (.iconst (-1), 35, []), (.ireturn, 36, [])]
set_option maxRecDepth 100000 in
theorem kX8_order : w_ok cX8_order tX8_order = true := by decide +kernel
def tX8_idle : wT := [(.aload_n 0, 0, []), (.getfield 155, 1, []), (.ifCond .eq 10, 4, [6]), (.iload_n 1, 7, []), (.invokestatic 125, 8, []), (.ifCond .ne 5, 11, [8]), (.iconst (-1), 14, []), (.ireturn, 15, []), (.iconst (-1), 16, []), (.istore_n 2, 17, []), (.iconst (-1), 18, []), (.istore_n 3, 19, []), (.iconst 0, 20, []), (.istore 4, 21, []), (.iconst 0, 23, []), (.istore 5, 24, []), (.iload 5, 26, []), (.bipush 72, 28, []), (.if_icmp .ge 133, 30, [87]), (.iconst 0, 33, []), (.istore 6, 34, []), (.iconst 0, 36, []), (.istore 7, 37, []), (.iload 7, 39, []), (.aload_n 0, 41, []), (.getfield 118, 42, []), (.if_icmp .ge 90, 45, [74]), (.aload_n 0, 48, []), (.getfield 67, 49, []), (.iload 7, 52, []), (.iaload, 54, []), (.ifCond .lt 22, 55, [44]), (.aload_n 0, 58, []), (.getfield 23, 59, []), (.iload 7, 62, []), (.iaload, 64, []), (.iload_n 1, 65, []), (.ishr, 66, []), (.iconst 1, 67, []), (.iand, 68, []), (.iconst 1, 69, []), (.if_icmp .ne 7, 70, [44]), (.iconst 1, 73, []), (.goto 4, 74, [45]), (.iconst 0, 77, []), (.istore 8, 78, []), (.iload 6, 80, []), (.ifCond .ne 40, 82, [68]), (.iload 8, 85, []), (.ifCond .eq 39, 87, [70]), (.iload 5, 90, []), (.aload_n 0, 92, []), (.getfield 67, 93, []), (.iload 7, 96, []), (.iaload, 98, []), (.aload_n 0, 99, []), (.getfield 67, 100, []), (.iload 7, 103, []), (.iaload, 105, []), (.aload_n 0, 106, []), (.getfield 20, 107, []), (.iload 7, 110, []), (.iaload, 112, []), (.iadd, 113, []), (.iconst 1, 114, []), (.isub, 115, []), (.invokestatic 1, 116, []), (.ifCond .eq 7, 119, [70]), (.iconst 1, 122, []), (.goto 4, 123, [71]), (.iconst 0, 126, []), (.istore 6, 127, []), (.iinc 7 1, 129, []), (.goto (-93), 132, [23]), (.iload 6, 135, []), (.ifCond .eq 20, 137, [85]), (.iload_n 2, 140, []), (.ifCond .ge 8, 141, [80]), (.iload 5, 144, []), (.goto 4, 146, [81]), (.iload_n 2, 149, []), (.istore_n 2, 150, []), (.iload 5, 151, []), (.istore_n 3, 153, []), (.iinc 4 1, 154, []), (.iinc 5 1, 157, []), (.goto (-134), 160, [16]), (.iload_n 2, 163, []), (.ifCond .ge 8, 164, [91]), (.bipush (-2), 167, []), (.goto 11, 169, [98]), (.iload_n 3, 172, []), (.iload_n 2, 173, []), (.isub, 174, []), (.iconst 1, 175, []), (.iadd, 176, []), (.iload 4, 177, []), (.isub, 179, []), (.ireturn, 180, [])]
set_option maxRecDepth 100000 in
theorem kX8_idle : w_ok cX8_idle tX8_idle = true := by decide +kernel
def tX8_stone : wT := [(.aload_n 0, 0, []), (.iload_n 1, 1, []), (.invokevirtual 121, 2, []), (.ifCond .eq 27, 5, [14]), (.iload_n 2, 8, []), (.sipush 1000, 9, []), (.sipush 30000, 12, []), (.invokestatic 1, 15, []), (.ifCond .eq 14, 18, [14]), (.iload_n 3, 21, []), (.bipush (-100), 22, []), (.bipush 100, 24, []), (.invokestatic 1, 26, []), (.ifCond .ne 5, 29, [16]), (.iconst (-1), 32, []), (.ireturn, 33, []), (.aload_n 0, 34, []), (.getfield 13, 35, []), (.iload_n 1, 38, []), (.iaload, 39, []), (.ifCond .eq 6, 40, [23]), (.bipush (-12), 43, []), (.ireturn, 45, []), (.aload_n 0, 46, []), (.getfield 33, 47, []), (.iload_n 1, 50, []), (.iload_n 2, 51, []), (.iastore, 52, []), (.aload_n 0, 53, []), (.getfield 36, 54, []), (.iload_n 1, 57, []), (.iload_n 3, 58, []), (.iastore, 59, []), (.iconst 1, 60, []), (.ireturn, 61, [])]
set_option maxRecDepth 100000 in
theorem kX8_stone : w_ok cX8_stone tX8_stone = true := by decide +kernel
def tX8_way : wT := [(.aload_n 0, 0, []), (.iload_n 1, 1, []), (.invokevirtual 121, 2, []), (.ifCond .eq 15, 5, [9]), (.iload_n 2, 8, []), (.bipush 100, 9, []), (.sipush 2000, 11, []), (.invokestatic 1, 14, []), (.ifCond .ne 5, 17, [11]), (.iconst (-1), 20, []), (.ireturn, 21, []), (.aload_n 0, 22, []), (.getfield 13, 23, []), (.iload_n 1, 26, []), (.iaload, 27, []), (.iconst 1, 28, []), (.if_icmp .eq 6, 29, [19]), (.bipush (-12), 32, []), (.ireturn, 34, []), (.aload_n 0, 35, []), (.getfield 39, 36, []), (.iload_n 1, 39, []), (.iaload, 40, []), (.istore_n 3, 41, []), (.aload_n 0, 42, []), (.getfield 39, 43, []), (.iload_n 1, 46, []), (.iload_n 2, 47, []), (.iastore, 48, []), (.iload_n 3, 49, []), (.ireturn, 50, [])]
set_option maxRecDepth 100000 in
theorem kX8_way : w_ok cX8_way tX8_way = true := by decide +kernel
def tX8_yards : wT := [(.iload_n 1, 0, []), (.invokestatic 125, 1, []), (.ifCond .eq 14, 4, [8]), (.iload_n 2, 7, []), (.bipush (-50), 8, []), (.bipush 50, 10, []), (.invokestatic 1, 12, []), (.ifCond .ne 7, 15, [10]), (.sipush (-1001), 18, []), (.ireturn, 21, []), (.aload_n 0, 22, []), (.getfield 42, 23, []), (.iload_n 1, 26, []), (.iaload, 27, []), (.istore_n 3, 28, []), (.aload_n 0, 29, []), (.getfield 42, 30, []), (.iload_n 1, 33, []), (.iload_n 2, 34, []), (.iastore, 35, []), (.iload_n 3, 36, []), (.ireturn, 37, [])]
set_option maxRecDepth 100000 in
theorem kX8_yards : w_ok cX8_yards tX8_yards = true := by decide +kernel
def tX8_isGood : wT := [(.iload_n 2, 0, []), (.invokestatic 125, 1, []), (.ifCond .eq 16, 4, [12]), (.aload_n 0, 7, []), (.getfield 23, 8, []), (.iload_n 1, 11, []), (.iaload, 12, []), (.iload_n 2, 13, []), (.ishr, 14, []), (.iconst 1, 15, []), (.iand, 16, []), (.ifCond .ne 5, 17, [14]), (.iconst 0, 20, []), (.ireturn, 21, []), (.aload_n 0, 22, []), (.getfield 13, 23, []), (.iload_n 1, 26, []), (.iaload, 27, []), (.ifCond .ne 32, 28, [33]), (.iload_n 3, 31, []), (.iconst (-1), 32, []), (.sipush 9999, 33, []), (.invokestatic 1, 36, []), (.ifCond .eq 19, 39, [31]), (.iload 4, 42, []), (.bipush (-20), 44, []), (.bipush 20, 46, []), (.invokestatic 1, 48, []), (.ifCond .eq 7, 51, [31]), (.iconst 1, 54, []), (.goto 4, 55, [32]), (.iconst 0, 58, []), (.ireturn, 59, []), (.aload_n 0, 60, []), (.getfield 13, 61, []), (.iload_n 1, 64, []), (.iaload, 65, []), (.iconst 1, 66, []), (.if_icmp .ne 27, 67, [50]), (.iload_n 3, 70, []), (.iconst 1, 71, []), (.sipush 9999, 72, []), (.invokestatic 1, 75, []), (.ifCond .eq 12, 78, [48]), (.iload 4, 81, []), (.ifCond .ne 7, 83, [48]), (.iconst 1, 86, []), (.goto 32, 87, [63]), (.iconst 0, 90, []), (.goto 28, 91, [63]), (.iload_n 3, 94, []), (.iconst 0, 95, []), (.iconst 2, 96, []), (.invokestatic 1, 97, []), (.ifCond .eq 18, 100, [62]), (.iload 4, 103, []), (.iconst 1, 105, []), (.bipush 9, 106, []), (.invokestatic 1, 108, []), (.ifCond .eq 7, 111, [62]), (.iconst 1, 114, []), (.goto 4, 115, [63]), (.iconst 0, 118, []), (.ireturn, 119, [])]
set_option maxRecDepth 100000 in
theorem kX8_isGood : w_ok cX8_isGood tX8_isGood = true := by decide +kernel
def tX8_put : wT := [(.aload_n 0, 0, []), (.getfield 70, 1, []), (.aload_n 0, 4, []), (.getfield 128, 5, []), (.iload_n 1, 8, []), (.iastore, 9, []), (.aload_n 0, 10, []), (.getfield 73, 11, []), (.aload_n 0, 14, []), (.getfield 128, 15, []), (.iload_n 2, 18, []), (.iastore, 19, []), (.aload_n 0, 20, []), (.getfield 76, 21, []), (.aload_n 0, 24, []), (.getfield 128, 25, []), (.iload_n 3, 28, []), (.iastore, 29, []), (.aload_n 0, 30, []), (.getfield 79, 31, []), (.aload_n 0, 34, []), (.getfield 128, 35, []), (.aload_n 0, 38, []), (.getfield 13, 39, []), (.iload_n 1, 42, []), (.iaload, 43, []), (.iconst 1, 44, []), (.if_icmp .ne 12, 45, [33]), (.aload_n 0, 48, []), (.getfield 42, 49, []), (.iload_n 2, 52, []), (.iaload, 53, []), (.goto 5, 54, [34]), (.iload 4, 57, []), (.iastore, 59, []), (.aload_n 0, 60, []), (.dup, 61, []), (.getfield 128, 62, []), (.iconst 1, 65, []), (.iadd, 66, []), (.putfield 128, 67, []), (.return_, 70, [])]
set_option maxRecDepth 100000 in
theorem kX8_put : w_ok cX8_put tX8_put = true := by decide +kernel
def tX8_entry : wT := [(.aload_n 0, 0, []), (.iload_n 1, 1, []), (.invokevirtual 121, 2, []), (.ifCond .eq 15, 5, [11]), (.aload_n 0, 8, []), (.iload_n 1, 9, []), (.iload_n 2, 10, []), (.iload_n 3, 11, []), (.iload 4, 12, []), (.invokevirtual 162, 14, []), (.ifCond .ne 5, 17, [13]), (.iconst (-1), 20, []), (.ireturn, 21, []), (.aload_n 0, 22, []), (.getfield 128, 23, []), (.sipush 160, 26, []), (.if_icmp .ne 6, 29, [19]), (.bipush (-3), 32, []), (.ireturn, 34, []), (.aload_n 0, 35, []), (.iload_n 1, 36, []), (.iload_n 2, 37, []), (.iload_n 3, 38, []), (.iload 4, 39, []), (.invokevirtual 166, 41, []), (.aload_n 0, 44, []), (.getfield 128, 45, []), (.iconst 1, 48, []), (.isub, 49, []), (.ireturn, 50, [])]
set_option maxRecDepth 100000 in
theorem kX8_entry : w_ok cX8_entry tX8_entry = true := by decide +kernel
def tX8_isSheet : wT := [(.iload_n 0, 0, []), (.iconst 0, 1, []), (.iconst 3, 2, []), (.invokestatic 1, 3, []), (.ireturn, 6, [])]
set_option maxRecDepth 100000 in
theorem kX8_isSheet : w_ok cX8_isSheet tX8_isSheet = true := by decide +kernel
def tX8_sheet : wT := [(.iload_n 1, 0, []), (.invokestatic 170, 1, []), (.ifCond .eq 18, 4, [11]), (.iload_n 2, 7, []), (.iconst 0, 8, []), (.iconst 2, 9, []), (.invokestatic 1, 10, []), (.ifCond .eq 9, 13, [11]), (.iload_n 3, 16, []), (.bipush 60, 17, []), (.if_icmp .le 5, 19, [13]), (.iconst (-1), 22, []), (.ireturn, 23, []), (.iload_n 3, 24, []), (.ifCond .ge 6, 25, [17]), (.bipush (-14), 28, []), (.ireturn, 30, []), (.aload_n 0, 31, []), (.getfield 82, 32, []), (.iload_n 1, 35, []), (.iload_n 2, 36, []), (.iastore, 37, []), (.aload_n 0, 38, []), (.getfield 85, 39, []), (.iload_n 1, 42, []), (.iload_n 3, 43, []), (.iastore, 44, []), (.iconst 0, 45, []), (.istore 4, 46, []), (.iload 4, 48, []), (.bipush 60, 50, []), (.if_icmp .ge 22, 52, [43]), (.aload_n 0, 55, []), (.getfield 88, 56, []), (.bipush 60, 59, []), (.iload_n 1, 61, []), (.imul, 62, []), (.iload 4, 63, []), (.iadd, 65, []), (.iconst 0, 66, []), (.iastore, 67, []), (.iinc 4 1, 68, []), (.goto (-23), 71, [29]), (.iload_n 3, 74, []), (.ireturn, 75, [])]
set_option maxRecDepth 100000 in
theorem kX8_sheet : w_ok cX8_sheet tX8_sheet = true := by decide +kernel
def tX8_drop : wT := [(.iload_n 1, 0, []), (.invokestatic 170, 1, []), (.ifCond .ne 5, 4, [5]), (.iconst (-1), 7, []), (.ireturn, 8, []), (.aload_n 0, 9, []), (.getfield 82, 10, []), (.iload_n 1, 13, []), (.iaload, 14, []), (.ifCond .ge 6, 15, [12]), (.bipush (-11), 18, []), (.ireturn, 20, []), (.aload_n 0, 21, []), (.getfield 82, 22, []), (.iload_n 1, 25, []), (.iconst (-1), 26, []), (.iastore, 27, []), (.aload_n 0, 28, []), (.getfield 85, 29, []), (.iload_n 1, 32, []), (.iaload, 33, []), (.ireturn, 34, [])]
set_option maxRecDepth 100000 in
theorem kX8_drop : w_ok cX8_drop tX8_drop = true := by decide +kernel
def tX8_item : wT := [(.iload_n 1, 0, []), (.invokestatic 170, 1, []), (.ifCond .eq 12, 4, [8]), (.iload_n 2, 7, []), (.iconst 0, 8, []), (.iconst 2, 9, []), (.invokestatic 1, 10, []), (.ifCond .ne 5, 13, [10]), (.iconst (-1), 16, []), (.ireturn, 17, []), (.aload_n 0, 18, []), (.getfield 82, 19, []), (.iload_n 1, 22, []), (.iaload, 23, []), (.ifCond .ge 6, 24, [17]), (.bipush (-11), 27, []), (.ireturn, 29, []), (.aload_n 0, 30, []), (.getfield 82, 31, []), (.iload_n 1, 34, []), (.iaload, 35, []), (.iload_n 2, 36, []), (.if_icmp .eq 6, 37, [25]), (.bipush (-12), 40, []), (.ireturn, 42, []), (.iload_n 3, 43, []), (.iconst 0, 44, []), (.aload_n 0, 45, []), (.getfield 85, 46, []), (.iload_n 1, 49, []), (.iaload, 50, []), (.iconst 1, 51, []), (.isub, 52, []), (.invokestatic 1, 53, []), (.ifCond .ne 6, 56, [37]), (.bipush (-13), 59, []), (.ireturn, 61, []), (.aload_n 0, 62, []), (.getfield 88, 63, []), (.bipush 60, 66, []), (.iload_n 1, 68, []), (.imul, 69, []), (.iload_n 3, 70, []), (.iadd, 71, []), (.iload_n 2, 72, []), (.ifCond .ne 9, 73, [49]), (.iload 4, 76, []), (.i2b, 78, []), (.goto 16, 79, [56]), (.iload_n 2, 82, []), (.iconst 1, 83, []), (.if_icmp .ne 9, 84, [55]), (.iload 4, 87, []), (.i2s, 89, []), (.goto 5, 90, [56]), (.iload 4, 93, []), (.iastore, 95, []), (.iconst 1, 96, []), (.ireturn, 97, [])]
set_option maxRecDepth 100000 in
theorem kX8_item : w_ok cX8_item tX8_item = true := by decide +kernel
def tX8_entries : wT := [(.aload_n 0, 0, []), (.iload_n 1, 1, []), (.invokevirtual 121, 2, []), (.ifCond .eq 30, 5, [17]), (.iload_n 2, 8, []), (.invokestatic 170, 9, []), (.ifCond .eq 23, 12, [17]), (.iload_n 3, 15, []), (.iconst 0, 16, []), (.iconst 2, 17, []), (.invokestatic 1, 18, []), (.ifCond .eq 14, 21, [17]), (.iload 5, 24, []), (.iconst 0, 26, []), (.bipush 30, 27, []), (.invokestatic 1, 29, []), (.ifCond .ne 5, 32, [19]), (.iconst (-1), 35, []), (.ireturn, 36, []), (.aload_n 0, 37, []), (.getfield 82, 38, []), (.iload_n 2, 41, []), (.iaload, 42, []), (.ifCond .ge 6, 43, [26]), (.bipush (-11), 46, []), (.ireturn, 48, []), (.aload_n 0, 49, []), (.getfield 82, 50, []), (.iload_n 2, 53, []), (.iaload, 54, []), (.iload_n 3, 55, []), (.if_icmp .eq 6, 56, [34]), (.bipush (-12), 59, []), (.ireturn, 61, []), (.aload_n 0, 62, []), (.getfield 13, 63, []), (.iload_n 1, 66, []), (.iaload, 67, []), (.iconst 1, 68, []), (.if_icmp .ne 7, 69, [42]), (.iconst 2, 72, []), (.goto 4, 73, [43]), (.iconst 3, 76, []), (.istore 6, 77, []), (.iload 4, 79, []), (.ifCond .lt 24, 81, [60]), (.iload 4, 84, []), (.i2l, 86, []), (.iload 6, 87, []), (.iload 5, 89, []), (.imul, 91, []), (.i2l, 92, []), (.ladd, 93, []), (.aload_n 0, 94, []), (.getfield 85, 95, []), (.iload_n 2, 98, []), (.iaload, 99, []), (.i2l, 100, []), (.lcmp, 101, []), (.ifCond .le 6, 102, [62]), (.bipush (-13), 105, []), (.ireturn, 107, []), (.iconst 0, 108, []), (.istore 7, 109, []), (.iload 7, 111, []), (.iload 5, 113, []), (.if_icmp .ge 70, 115, [106]), (.bipush 60, 118, []), (.iload_n 2, 120, []), (.imul, 121, []), (.iload 4, 122, []), (.iadd, 124, []), (.iload 6, 125, []), (.iload 7, 127, []), (.imul, 129, []), (.iadd, 130, []), (.istore 8, 131, []), (.aload_n 0, 133, []), (.iload_n 1, 134, []), (.aload_n 0, 135, []), (.getfield 88, 136, []), (.iload 8, 139, []), (.iaload, 141, []), (.aload_n 0, 142, []), (.getfield 88, 143, []), (.iload 8, 146, []), (.iconst 1, 148, []), (.iadd, 149, []), (.iaload, 150, []), (.iload 6, 151, []), (.iconst 3, 153, []), (.if_icmp .ne 15, 154, [99]), (.aload_n 0, 157, []), (.getfield 88, 158, []), (.iload 8, 161, []), (.iconst 2, 163, []), (.iadd, 164, []), (.iaload, 165, []), (.goto 4, 166, [100]), (.iconst 0, 169, []), (.invokevirtual 162, 170, []), (.ifCond .ne 6, 173, [104]), (.bipush (-2), 176, []), (.ireturn, 178, []), (.iinc 7 1, 179, []), (.goto (-71), 182, [64]), (.aload_n 0, 185, []), (.getfield 128, 186, []), (.iload 5, 189, []), (.iadd, 191, []), (.sipush 160, 192, []), (.if_icmp .le 6, 195, [114]), (.bipush (-3), 198, []), (.ireturn, 200, []), (.iconst 0, 201, []), (.istore 7, 202, []), (.iload 7, 204, []), (.iload 5, 206, []), (.if_icmp .ge 64, 208, [155]), (.bipush 60, 211, []), (.iload_n 2, 213, []), (.imul, 214, []), (.iload 4, 215, []), (.iadd, 217, []), (.iload 6, 218, []), (.iload 7, 220, []), (.imul, 222, []), (.iadd, 223, []), (.istore 8, 224, []), (.aload_n 0, 226, []), (.iload_n 1, 227, []), (.aload_n 0, 228, []), (.getfield 88, 229, []), (.iload 8, 232, []), (.iaload, 234, []), (.aload_n 0, 235, []), (.getfield 88, 236, []), (.iload 8, 239, []), (.iconst 1, 241, []), (.iadd, 242, []), (.iaload, 243, []), (.iload 6, 244, []), (.iconst 3, 246, []), (.if_icmp .ne 15, 247, [151]), (.aload_n 0, 250, []), (.getfield 88, 251, []), (.iload 8, 254, []), (.iconst 2, 256, []), (.iadd, 257, []), (.iaload, 258, []), (.goto 4, 259, [152]), (.iconst 0, 262, []), (.invokevirtual 166, 263, []), (.iinc 7 1, 266, []), (.goto (-65), 269, [116]), (.aload_n 0, 272, []), (.getfield 128, 273, []), (.ireturn, 276, [])]
set_option maxRecDepth 100000 in
theorem kX8_entries : w_ok cX8_entries tX8_entries = true := by decide +kernel
def tX8_fairMark : wT := [(.aload_n 0, 0, []), (.getfield 76, 1, []), (.iload_n 2, 4, []), (.iaload, 5, []), (.ifCond .ge 5, 6, [7]), (.iconst (-1), 9, []), (.ireturn, 10, []), (.aload_n 0, 11, []), (.getfield 76, 12, []), (.iload_n 2, 15, []), (.iaload, 16, []), (.i2l, 17, []), (.sipush 1000, 18, []), (.aload_n 0, 21, []), (.getfield 36, 22, []), (.iload_n 1, 25, []), (.iaload, 26, []), (.isub, 27, []), (.iconst 2, 28, []), (.aload_n 0, 29, []), (.getfield 79, 30, []), (.iload_n 2, 33, []), (.iaload, 34, []), (.imul, 35, []), (.isub, 36, []), (.i2l, 37, []), (.lmul, 38, []), (.aload_n 0, 39, []), (.getfield 33, 40, []), (.iload_n 1, 43, []), (.iaload, 44, []), (.i2l, 45, []), (.lmul, 46, []), (.lstore_n 3, 47, []), (.lload_n 3, 48, []), (.ldc2_w 173, 49, []), (.ldiv, 52, []), (.l2i, 53, []), (.ireturn, 54, [])]
set_option maxRecDepth 100000 in
theorem kX8_fairMark : w_ok cX8_fairMark tX8_fairMark = true := by decide +kernel
def tX8_markThrow : wT := [(.iconst 0, 0, []), (.istore 4, 1, []), (.iconst 0, 3, []), (.istore 5, 4, []), (.iload 5, 6, []), (.bipush 6, 8, []), (.if_icmp .ge 22, 10, [18]), (.aload_n 0, 13, []), (.getfield 91, 14, []), (.bipush 6, 17, []), (.iload_n 2, 19, []), (.imul, 20, []), (.iload 5, 21, []), (.iadd, 23, []), (.iconst (-1), 24, []), (.iastore, 25, []), (.iinc 5 1, 26, []), (.goto (-23), 29, [4]), (.iload_n 3, 32, []), (.iconst 1, 33, []), (.isub, 34, []), (.istore 5, 35, []), (.iload 5, 37, []), (.ifCond .lt 113, 39, [83]), (.iload 4, 42, []), (.bipush 6, 44, []), (.if_icmp .ge 106, 46, [83]), (.aload_n 0, 49, []), (.getfield 70, 50, []), (.iload 5, 53, []), (.iaload, 55, []), (.iload_n 1, 56, []), (.if_icmp .ne 89, 57, [81]), (.aload_n 0, 60, []), (.getfield 73, 61, []), (.iload 5, 64, []), (.iaload, 66, []), (.iload_n 2, 67, []), (.if_icmp .ne 78, 68, [81]), (.aload_n 0, 71, []), (.iload_n 1, 72, []), (.iload 5, 73, []), (.invokevirtual 175, 75, []), (.istore 6, 78, []), (.bipush 6, 80, []), (.iload_n 2, 82, []), (.imul, 83, []), (.iload 4, 84, []), (.iadd, 86, []), (.istore 7, 87, []), (.iload 7, 89, []), (.bipush 6, 91, []), (.iload_n 2, 93, []), (.imul, 94, []), (.if_icmp .le 39, 95, [75]), (.aload_n 0, 98, []), (.getfield 91, 99, []), (.iload 7, 102, []), (.iconst 1, 104, []), (.isub, 105, []), (.iaload, 106, []), (.iload 6, 107, []), (.if_icmp .ge 25, 109, [75]), (.aload_n 0, 112, []), (.getfield 91, 113, []), (.iload 7, 116, []), (.aload_n 0, 118, []), (.getfield 91, 119, []), (.iload 7, 122, []), (.iconst 1, 124, []), (.isub, 125, []), (.iaload, 126, []), (.iastore, 127, []), (.iinc 7 (-1), 128, []), (.goto (-42), 131, [50]), (.aload_n 0, 134, []), (.getfield 91, 135, []), (.iload 7, 138, []), (.iload 6, 140, []), (.iastore, 142, []), (.iinc 4 1, 143, []), (.iinc 5 (-1), 146, []), (.goto (-112), 149, [22]), (.aload_n 0, 152, []), (.getfield 94, 153, []), (.iload_n 2, 156, []), (.iload 4, 157, []), (.ifCond .le 7, 159, [90]), (.iconst 1, 162, []), (.goto 4, 163, [91]), (.iconst 0, 166, []), (.bastore, 167, []), (.return_, 168, [])]
set_option maxRecDepth 100000 in
theorem kX8_markThrow : w_ok cX8_markThrow tX8_markThrow = true := by decide +kernel
def tX8_markRace : wT := [(.aload_n 0, 0, []), (.getfield 94, 1, []), (.iload_n 2, 4, []), (.iconst 0, 5, []), (.bastore, 6, []), (.iload_n 3, 7, []), (.iconst 1, 8, []), (.isub, 9, []), (.istore 4, 10, []), (.iload 4, 12, []), (.ifCond .lt 85, 14, [60]), (.aload_n 0, 17, []), (.getfield 94, 18, []), (.iload_n 2, 21, []), (.baload, 22, []), (.ifCond .ne 76, 23, [60]), (.aload_n 0, 26, []), (.getfield 70, 27, []), (.iload 4, 30, []), (.iaload, 32, []), (.iload_n 1, 33, []), (.if_icmp .ne 59, 34, [58]), (.aload_n 0, 37, []), (.getfield 73, 38, []), (.iload 4, 41, []), (.iaload, 43, []), (.iload_n 2, 44, []), (.if_icmp .ne 48, 45, [58]), (.aload_n 0, 48, []), (.getfield 94, 49, []), (.iload_n 2, 52, []), (.iconst 1, 53, []), (.bastore, 54, []), (.aload_n 0, 55, []), (.getfield 91, 56, []), (.bipush 6, 59, []), (.iload_n 2, 61, []), (.imul, 62, []), (.aload_n 0, 63, []), (.getfield 76, 64, []), (.iload 4, 67, []), (.iaload, 69, []), (.aload_n 0, 70, []), (.getfield 39, 71, []), (.iload_n 1, 74, []), (.iaload, 75, []), (.imul, 76, []), (.aload_n 0, 77, []), (.getfield 39, 78, []), (.iload_n 1, 81, []), (.iaload, 82, []), (.aload_n 0, 83, []), (.getfield 79, 84, []), (.iload 4, 87, []), (.iaload, 89, []), (.isub, 90, []), (.idiv, 91, []), (.iastore, 92, []), (.iinc 4 (-1), 93, []), (.goto (-84), 96, [9]), (.return_, 99, [])]
set_option maxRecDepth 100000 in
theorem kX8_markRace : w_ok cX8_markRace tX8_markRace = true := by decide +kernel
def tX8_markDance : wT := [(.iconst 3, 0, []), (.iload_n 2, 1, []), (.imul, 2, []), (.istore 4, 3, []), (.iconst 0, 5, []), (.istore 5, 6, []), (.iload 5, 8, []), (.iconst 3, 10, []), (.if_icmp .ge 20, 11, [18]), (.aload_n 0, 14, []), (.getfield 97, 15, []), (.iload 4, 18, []), (.iload 5, 20, []), (.iadd, 22, []), (.iconst 0, 23, []), (.iastore, 24, []), (.iinc 5 1, 25, []), (.goto (-20), 28, [6]), (.iconst 0, 31, []), (.istore 5, 32, []), (.iload 5, 34, []), (.iload_n 3, 36, []), (.if_icmp .ge 53, 37, [50]), (.aload_n 0, 40, []), (.getfield 70, 41, []), (.iload 5, 44, []), (.iaload, 46, []), (.iload_n 1, 47, []), (.if_icmp .ne 36, 48, [48]), (.aload_n 0, 51, []), (.getfield 73, 52, []), (.iload 5, 55, []), (.iaload, 57, []), (.iload_n 2, 58, []), (.if_icmp .ne 25, 59, [48]), (.aload_n 0, 62, []), (.getfield 97, 63, []), (.iload 4, 66, []), (.aload_n 0, 68, []), (.getfield 76, 69, []), (.iload 5, 72, []), (.iaload, 74, []), (.iadd, 75, []), (.aload_n 0, 76, []), (.getfield 79, 77, []), (.iload 5, 80, []), (.iaload, 82, []), (.iastore, 83, []), (.iinc 5 1, 84, []), (.goto (-53), 87, [20]), (.aload_n 0, 90, []), (.getfield 94, 91, []), (.iload_n 2, 94, []), (.aload_n 0, 95, []), (.getfield 97, 96, []), (.iload 4, 99, []), (.iaload, 101, []), (.ifCond .le 31, 102, [74]), (.aload_n 0, 105, []), (.getfield 97, 106, []), (.iload 4, 109, []), (.iconst 1, 111, []), (.iadd, 112, []), (.iaload, 113, []), (.ifCond .le 19, 114, [74]), (.aload_n 0, 117, []), (.getfield 97, 118, []), (.iload 4, 121, []), (.iconst 2, 123, []), (.iadd, 124, []), (.iaload, 125, []), (.ifCond .le 7, 126, [74]), (.iconst 1, 129, []), (.goto 4, 130, [75]), (.iconst 0, 133, []), (.bastore, 134, []), (.aload_n 0, 135, []), (.getfield 97, 136, []), (.iload 4, 139, []), (.iaload, 141, []), (.aload_n 0, 142, []), (.getfield 97, 143, []), (.iload 4, 146, []), (.iconst 1, 148, []), (.iadd, 149, []), (.iaload, 150, []), (.iadd, 151, []), (.aload_n 0, 152, []), (.getfield 97, 153, []), (.iload 4, 156, []), (.iconst 2, 158, []), (.iadd, 159, []), (.iaload, 160, []), (.iadd, 161, []), (.istore 5, 162, []), (.aload_n 0, 164, []), (.getfield 97, 165, []), (.iload 4, 168, []), (.iaload, 170, []), (.istore 6, 171, []), (.aload_n 0, 173, []), (.getfield 97, 174, []), (.iload 4, 177, []), (.iaload, 179, []), (.istore 7, 180, []), (.iconst 1, 182, []), (.istore 8, 183, []), (.iload 8, 185, []), (.iconst 3, 187, []), (.if_icmp .ge 73, 188, [146]), (.aload_n 0, 191, []), (.getfield 97, 192, []), (.iload 4, 195, []), (.iload 8, 197, []), (.iadd, 199, []), (.iaload, 200, []), (.iload 6, 201, []), (.if_icmp .ge 16, 203, [125]), (.aload_n 0, 206, []), (.getfield 97, 207, []), (.iload 4, 210, []), (.iload 8, 212, []), (.iadd, 214, []), (.iaload, 215, []), (.goto 5, 216, [126]), (.iload 6, 219, []), (.istore 6, 221, []), (.aload_n 0, 223, []), (.getfield 97, 224, []), (.iload 4, 227, []), (.iload 8, 229, []), (.iadd, 231, []), (.iaload, 232, []), (.iload 7, 233, []), (.if_icmp .le 16, 235, [142]), (.aload_n 0, 238, []), (.getfield 97, 239, []), (.iload 4, 242, []), (.iload 8, 244, []), (.iadd, 246, []), (.iaload, 247, []), (.goto 5, 248, [143]), (.iload 7, 251, []), (.istore 7, 253, []), (.iinc 8 1, 255, []), (.goto (-73), 258, [107]), (.aload_n 0, 261, []), (.getfield 91, 262, []), (.bipush 6, 265, []), (.iload_n 2, 267, []), (.imul, 268, []), (.bipush 100, 269, []), (.iload 5, 271, []), (.iload 6, 273, []), (.isub, 275, []), (.iload 7, 276, []), (.isub, 278, []), (.imul, 279, []), (.iload 5, 280, []), (.iadd, 282, []), (.iastore, 283, []), (.return_, 284, [])]
set_option maxRecDepth 100000 in
theorem kX8_markDance : w_ok cX8_markDance tX8_markDance = true := by decide +kernel
def tX8_markAll : wT := [(.iconst 0, 0, []), (.istore_n 3, 1, []), (.iload_n 3, 2, []), (.bipush 10, 3, []), (.if_icmp .ge 55, 5, [35]), (.aload_n 0, 8, []), (.getfield 13, 9, []), (.iload_n 1, 12, []), (.iaload, 13, []), (.ifCond .ne 13, 14, [16]), (.aload_n 0, 17, []), (.iload_n 1, 18, []), (.iload_n 3, 19, []), (.iload_n 2, 20, []), (.invokevirtual 179, 21, []), (.goto 30, 24, [33]), (.aload_n 0, 27, []), (.getfield 13, 28, []), (.iload_n 1, 31, []), (.iaload, 32, []), (.iconst 1, 33, []), (.if_icmp .ne 13, 34, [28]), (.aload_n 0, 37, []), (.iload_n 1, 38, []), (.iload_n 3, 39, []), (.iload_n 2, 40, []), (.invokevirtual 183, 41, []), (.goto 10, 44, [33]), (.aload_n 0, 47, []), (.iload_n 1, 48, []), (.iload_n 3, 49, []), (.iload_n 2, 50, []), (.invokevirtual 186, 51, []), (.iinc 3 1, 54, []), (.goto (-55), 57, [2]), (.return_, 60, [])]
set_option maxRecDepth 100000 in
theorem kX8_markAll : w_ok cX8_markAll tX8_markAll = true := by decide +kernel
def tX8_mark : wT := [(.aload_n 0, 0, []), (.iload_n 1, 1, []), (.invokevirtual 121, 2, []), (.ifCond .eq 45, 5, [25]), (.iload_n 2, 8, []), (.invokestatic 125, 9, []), (.ifCond .eq 38, 12, [25]), (.iload_n 3, 15, []), (.iconst 0, 16, []), (.aload_n 0, 17, []), (.getfield 128, 18, []), (.invokestatic 1, 21, []), (.ifCond .eq 26, 24, [25]), (.iload 4, 27, []), (.iconst 0, 29, []), (.aload_n 0, 30, []), (.getfield 13, 31, []), (.iload_n 1, 34, []), (.iaload, 35, []), (.ifCond .ne 7, 36, [22]), (.iconst 5, 39, []), (.goto 4, 40, [23]), (.iconst 0, 43, []), (.invokestatic 1, 44, []), (.ifCond .ne 5, 47, [27]), (.iconst (-1), 50, []), (.ireturn, 51, []), (.aload_n 0, 52, []), (.iload_n 1, 53, []), (.iload_n 3, 54, []), (.invokevirtual 189, 55, []), (.aload_n 0, 58, []), (.getfield 94, 59, []), (.iload_n 2, 62, []), (.baload, 63, []), (.ifCond .eq 18, 64, [45]), (.aload_n 0, 67, []), (.getfield 91, 68, []), (.bipush 6, 71, []), (.iload_n 2, 73, []), (.imul, 74, []), (.iload 4, 75, []), (.iadd, 77, []), (.iaload, 78, []), (.goto 5, 79, [46]), (.bipush (-2), 82, []), (.ireturn, 84, [])]
set_option maxRecDepth 100000 in
theorem kX8_mark : w_ok cX8_mark tX8_mark = true := by decide +kernel
def tX8_isAhead : wT := [(.aload_n 0, 0, []), (.getfield 13, 1, []), (.iload_n 1, 4, []), (.iaload, 5, []), (.ifCond .eq 30, 6, [22]), (.aload_n 0, 9, []), (.getfield 91, 10, []), (.bipush 6, 13, []), (.iload_n 2, 15, []), (.imul, 16, []), (.iaload, 17, []), (.aload_n 0, 18, []), (.getfield 91, 19, []), (.bipush 6, 22, []), (.iload_n 3, 24, []), (.imul, 25, []), (.iaload, 26, []), (.if_icmp .ge 7, 27, [20]), (.iconst 1, 30, []), (.goto 4, 31, [21]), (.iconst 0, 34, []), (.ireturn, 35, []), (.iconst 0, 36, []), (.istore 4, 37, []), (.iload 4, 39, []), (.bipush 6, 41, []), (.if_icmp .ge 36, 43, [46]), (.aload_n 0, 46, []), (.getfield 91, 47, []), (.bipush 6, 50, []), (.iload_n 2, 52, []), (.imul, 53, []), (.iload 4, 54, []), (.iadd, 56, []), (.iaload, 57, []), (.aload_n 0, 58, []), (.getfield 91, 59, []), (.bipush 6, 62, []), (.iload_n 3, 64, []), (.imul, 65, []), (.iload 4, 66, []), (.iadd, 68, []), (.iaload, 69, []), (.if_icmp .ne 9, 70, [46]), (.iinc 4 1, 73, []), (.goto (-37), 76, [24]), (.iload 4, 79, []), (.bipush 6, 81, []), (.if_icmp .ge 34, 83, [68]), (.aload_n 0, 86, []), (.getfield 91, 87, []), (.bipush 6, 90, []), (.iload_n 2, 92, []), (.imul, 93, []), (.iload 4, 94, []), (.iadd, 96, []), (.iaload, 97, []), (.aload_n 0, 98, []), (.getfield 91, 99, []), (.bipush 6, 102, []), (.iload_n 3, 104, []), (.imul, 105, []), (.iload 4, 106, []), (.iadd, 108, []), (.iaload, 109, []), (.if_icmp .le 7, 110, [68]), (.iconst 1, 113, []), (.goto 4, 114, [69]), (.iconst 0, 117, []), (.ireturn, 118, [])]
set_option maxRecDepth 100000 in
theorem kX8_isAhead : w_ok cX8_isAhead tX8_isAhead = true := by decide +kernel
def tX8_placeAll : wT := [(.aload_n 0, 0, []), (.iload_n 1, 1, []), (.iload_n 2, 2, []), (.invokevirtual 189, 3, []), (.iconst 0, 6, []), (.istore_n 3, 7, []), (.iconst 0, 8, []), (.istore 4, 9, []), (.iload 4, 11, []), (.bipush 10, 13, []), (.if_icmp .ge 100, 15, [62]), (.aload_n 0, 18, []), (.getfield 100, 19, []), (.iload 4, 22, []), (.iconst 0, 24, []), (.iastore, 25, []), (.aload_n 0, 26, []), (.getfield 94, 27, []), (.iload 4, 30, []), (.baload, 32, []), (.ifCond .eq 76, 33, [60]), (.aload_n 0, 36, []), (.getfield 29, 37, []), (.iload_n 1, 40, []), (.baload, 41, []), (.ifCond .ne 67, 42, [60]), (.aload_n 0, 45, []), (.getfield 100, 46, []), (.iload 4, 49, []), (.iconst 1, 51, []), (.iastore, 52, []), (.iinc 3 1, 53, []), (.iconst 0, 56, []), (.istore 5, 57, []), (.iload 5, 59, []), (.bipush 10, 61, []), (.if_icmp .ge 46, 63, [60]), (.aload_n 0, 66, []), (.getfield 100, 67, []), (.iload 4, 70, []), (.dup2, 72, []), (.iaload, 73, []), (.aload_n 0, 74, []), (.getfield 94, 75, []), (.iload 5, 78, []), (.baload, 80, []), (.ifCond .eq 19, 81, [55]), (.aload_n 0, 84, []), (.iload_n 1, 85, []), (.iload 5, 86, []), (.iload 4, 88, []), (.invokevirtual 193, 90, []), (.ifCond .eq 7, 93, [55]), (.iconst 1, 96, []), (.goto 4, 97, [56]), (.iconst 0, 100, []), (.iadd, 101, []), (.iastore, 102, []), (.iinc 5 1, 103, []), (.goto (-47), 106, [34]), (.iinc 4 1, 109, []), (.goto (-101), 112, [8]), (.iload_n 3, 115, []), (.ireturn, 116, [])]
set_option maxRecDepth 100000 in
theorem kX8_placeAll : w_ok cX8_placeAll tX8_placeAll = true := by decide +kernel
def tX8_place : wT := [(.aload_n 0, 0, []), (.iload_n 1, 1, []), (.invokevirtual 121, 2, []), (.ifCond .eq 22, 5, [13]), (.iload_n 2, 8, []), (.invokestatic 125, 9, []), (.ifCond .eq 15, 12, [13]), (.iload_n 3, 15, []), (.iconst 0, 16, []), (.aload_n 0, 17, []), (.getfield 128, 18, []), (.invokestatic 1, 21, []), (.ifCond .ne 5, 24, [15]), (.iconst (-1), 27, []), (.ireturn, 28, []), (.aload_n 0, 29, []), (.iload_n 1, 30, []), (.iload_n 3, 31, []), (.invokevirtual 196, 32, []), (.istore 4, 35, []), (.aload_n 0, 37, []), (.getfield 100, 38, []), (.iload_n 2, 41, []), (.iaload, 42, []), (.ifCond .ne 8, 43, [27]), (.bipush (-2), 46, []), (.goto 9, 48, [31]), (.aload_n 0, 51, []), (.getfield 100, 52, []), (.iload_n 2, 55, []), (.iaload, 56, []), (.ireturn, 57, [])]
set_option maxRecDepth 100000 in
theorem kX8_place : w_ok cX8_place tX8_place = true := by decide +kernel
def tX8_fail : wT := [(.aload_n 0, 0, []), (.iload_n 1, 1, []), (.invokevirtual 121, 2, []), (.ifCond .ne 5, 5, [6]), (.iconst (-1), 8, []), (.ireturn, 9, []), (.aload_n 0, 10, []), (.getfield 29, 11, []), (.iload_n 1, 14, []), (.baload, 15, []), (.istore_n 3, 16, []), (.aload_n 0, 17, []), (.getfield 29, 18, []), (.iload_n 1, 21, []), (.iload_n 2, 22, []), (.bastore, 23, []), (.iload_n 3, 24, []), (.ifCond .eq 7, 25, [20]), (.iconst 1, 28, []), (.goto 4, 29, [21]), (.iconst 0, 32, []), (.ireturn, 33, [])]
set_option maxRecDepth 100000 in
theorem kX8_fail : w_ok cX8_fail tX8_fail = true := by decide +kernel
def tX8_beats : wT := [(.iconst 0, 0, []), (.istore_n 3, 1, []), (.iconst 0, 2, []), (.istore 4, 3, []), (.iload 4, 5, []), (.iconst 3, 7, []), (.if_icmp .ge 42, 8, [32]), (.iload_n 3, 11, []), (.aload_n 0, 12, []), (.getfield 97, 13, []), (.iconst 3, 16, []), (.iload_n 1, 17, []), (.imul, 18, []), (.iload 4, 19, []), (.iadd, 21, []), (.iaload, 22, []), (.aload_n 0, 23, []), (.getfield 97, 24, []), (.iconst 3, 27, []), (.iload_n 2, 28, []), (.imul, 29, []), (.iload 4, 30, []), (.iadd, 32, []), (.iaload, 33, []), (.if_icmp .ge 7, 34, [27]), (.iconst 1, 37, []), (.goto 4, 38, [28]), (.iconst 0, 41, []), (.iadd, 42, []), (.istore_n 3, 43, []), (.iinc 4 1, 44, []), (.goto (-42), 47, [4]), (.iload_n 3, 50, []), (.iconst 1, 51, []), (.if_icmp .le 7, 52, [37]), (.iconst 1, 55, []), (.goto 4, 56, [38]), (.iconst 0, 59, []), (.ireturn, 60, [])]
set_option maxRecDepth 100000 in
theorem kX8_beats : w_ok cX8_beats tX8_beats = true := by decide +kernel
def tX8_paradox : wT := [(.aload_n 0, 0, []), (.iload_n 1, 1, []), (.invokevirtual 121, 2, []), (.ifCond .eq 15, 5, [10]), (.iload_n 2, 8, []), (.iconst 0, 9, []), (.aload_n 0, 10, []), (.getfield 128, 11, []), (.invokestatic 1, 14, []), (.ifCond .ne 5, 17, [12]), (.iconst (-1), 20, []), (.ireturn, 21, []), (.aload_n 0, 22, []), (.getfield 13, 23, []), (.iload_n 1, 26, []), (.iaload, 27, []), (.iconst 2, 28, []), (.if_icmp .eq 6, 29, [20]), (.bipush (-12), 32, []), (.ireturn, 34, []), (.aload_n 0, 35, []), (.iload_n 1, 36, []), (.iload_n 2, 37, []), (.invokevirtual 196, 38, []), (.istore_n 3, 41, []), (.iconst 0, 42, []), (.istore 4, 43, []), (.iload 4, 45, []), (.bipush 10, 47, []), (.if_icmp .ge 96, 49, [75]), (.iload_n 3, 52, []), (.iconst 1, 53, []), (.if_icmp .le 91, 54, [75]), (.aload_n 0, 57, []), (.getfield 100, 58, []), (.iload 4, 61, []), (.iaload, 63, []), (.iconst 1, 64, []), (.if_icmp .le 7, 65, [41]), (.iconst 1, 68, []), (.goto 4, 69, [42]), (.iconst 0, 72, []), (.istore 5, 73, []), (.iconst 0, 75, []), (.istore 6, 76, []), (.iload 6, 78, []), (.bipush 10, 80, []), (.if_icmp .ge 49, 82, [69]), (.iload 5, 85, []), (.ifCond .eq 35, 87, [65]), (.iload 6, 90, []), (.iload 4, 92, []), (.if_icmp .eq 24, 94, [63]), (.aload_n 0, 97, []), (.getfield 100, 98, []), (.iload 6, 101, []), (.iaload, 103, []), (.ifCond .eq 14, 104, [63]), (.aload_n 0, 107, []), (.iload 4, 108, []), (.iload 6, 110, []), (.invokevirtual 199, 112, []), (.ifCond .eq 7, 115, [65]), (.iconst 1, 118, []), (.goto 4, 119, [66]), (.iconst 0, 122, []), (.istore 5, 123, []), (.iinc 6 1, 125, []), (.goto (-50), 128, [45]), (.iload 5, 131, []), (.ifCond .eq 6, 133, [73]), (.iload 4, 136, []), (.ireturn, 138, []), (.iinc 4 1, 139, []), (.goto (-97), 142, [27]), (.bipush (-2), 145, []), (.ireturn, 147, [])]
set_option maxRecDepth 100000 in
theorem kX8_paradox : w_ok cX8_paradox tX8_paradox = true := by decide +kernel
def tX8_settled : wT := [(.aload_n 0, 0, []), (.iload_n 1, 1, []), (.invokevirtual 121, 2, []), (.ifCond .ne 5, 5, [6]), (.iconst (-1), 8, []), (.ireturn, 9, []), (.aload_n 0, 10, []), (.iload_n 1, 11, []), (.aload_n 0, 12, []), (.getfield 128, 13, []), (.invokevirtual 196, 16, []), (.istore_n 2, 19, []), (.iconst 0, 20, []), (.istore_n 3, 21, []), (.iload_n 3, 22, []), (.bipush 10, 23, []), (.if_icmp .ge 21, 25, [27]), (.aload_n 0, 28, []), (.getfield 103, 29, []), (.iload_n 3, 32, []), (.aload_n 0, 33, []), (.getfield 100, 34, []), (.iload_n 3, 37, []), (.iaload, 38, []), (.iastore, 39, []), (.iinc 3 1, 40, []), (.goto (-21), 43, [14]), (.aload_n 0, 46, []), (.getfield 128, 47, []), (.istore_n 3, 50, []), (.iconst 1, 51, []), (.istore 4, 52, []), (.iload_n 3, 54, []), (.ifCond .le 78, 55, [74]), (.iload 4, 58, []), (.ifCond .eq 73, 60, [74]), (.aload_n 0, 63, []), (.iload_n 1, 64, []), (.iload_n 3, 65, []), (.iconst 1, 66, []), (.isub, 67, []), (.invokevirtual 196, 68, []), (.istore_n 2, 71, []), (.iconst 0, 72, []), (.istore 5, 73, []), (.iload 5, 75, []), (.bipush 10, 77, []), (.if_icmp .ge 38, 79, [65]), (.iload 4, 82, []), (.ifCond .eq 24, 84, [61]), (.aload_n 0, 87, []), (.getfield 100, 88, []), (.iload 5, 91, []), (.iaload, 93, []), (.aload_n 0, 94, []), (.getfield 103, 95, []), (.iload 5, 98, []), (.iaload, 100, []), (.if_icmp .ne 7, 101, [61]), (.iconst 1, 104, []), (.goto 4, 105, [62]), (.iconst 0, 108, []), (.istore 4, 109, []), (.iinc 5 1, 111, []), (.goto (-39), 114, [45]), (.iload_n 3, 117, []), (.iload 4, 118, []), (.ifCond .eq 7, 120, [70]), (.iconst 1, 123, []), (.goto 4, 124, [71]), (.iconst 0, 127, []), (.isub, 128, []), (.istore_n 3, 129, []), (.goto (-76), 130, [32]), (.iload_n 3, 133, []), (.ireturn, 134, [])]
set_option maxRecDepth 100000 in
theorem kX8_settled : w_ok cX8_settled tX8_settled = true := by decide +kernel
def tX8_type : wT := [(.iload_n 3, 0, []), (.iconst 1, 1, []), (.bipush 8, 2, []), (.invokestatic 1, 4, []), (.ifCond .ne 5, 7, [7]), (.iconst (-1), 10, []), (.ireturn, 11, []), (.iconst 0, 12, []), (.istore 4, 13, []), (.iload 4, 15, []), (.iload_n 3, 17, []), (.if_icmp .ge 33, 18, [28]), (.lload_n 1, 21, []), (.bipush 8, 22, []), (.iload 4, 24, []), (.imul, 26, []), (.lshr, 27, []), (.ldc2_w 202, 28, []), (.land, 31, []), (.l2i, 32, []), (.bipush 32, 33, []), (.bipush 126, 35, []), (.invokestatic 1, 37, []), (.ifCond .ne 5, 40, [26]), (.iconst (-1), 43, []), (.ireturn, 44, []), (.iinc 4 1, 45, []), (.goto (-33), 48, [9]), (.aload_n 0, 51, []), (.getfield 204, 52, []), (.iload_n 3, 55, []), (.iadd, 56, []), (.bipush 40, 57, []), (.if_icmp .le 6, 59, [36]), (.bipush (-3), 62, []), (.ireturn, 64, []), (.iload_n 3, 65, []), (.iconst 1, 66, []), (.isub, 67, []), (.istore 4, 68, []), (.iload 4, 70, []), (.ifCond .lt 40, 72, [63]), (.aload_n 0, 75, []), (.getfield 115, 76, []), (.aload_n 0, 79, []), (.getfield 204, 80, []), (.lload_n 1, 83, []), (.bipush 8, 84, []), (.iload 4, 86, []), (.imul, 88, []), (.lshr, 89, []), (.ldc2_w 202, 90, []), (.land, 93, []), (.l2i, 94, []), (.iastore, 95, []), (.aload_n 0, 96, []), (.dup, 97, []), (.getfield 204, 98, []), (.iconst 1, 101, []), (.iadd, 102, []), (.putfield 204, 103, []), (.iinc 4 (-1), 106, []), (.goto (-39), 109, [40]), (.aload_n 0, 112, []), (.getfield 204, 113, []), (.ireturn, 116, [])]
set_option maxRecDepth 100000 in
theorem kX8_type : w_ok cX8_type tX8_type = true := by decide +kernel
def tX8_next : wT := [(.aload_n 0, 0, []), (.getfield 207, 1, []), (.aload_n 0, 4, []), (.getfield 204, 5, []), (.if_icmp .ge 30, 8, [19]), (.aload_n 0, 11, []), (.getfield 115, 12, []), (.aload_n 0, 15, []), (.getfield 207, 16, []), (.iaload, 19, []), (.bipush 32, 20, []), (.if_icmp .ne 16, 22, [19]), (.aload_n 0, 25, []), (.dup, 26, []), (.getfield 207, 27, []), (.iconst 1, 30, []), (.iadd, 31, []), (.putfield 207, 32, []), (.goto (-35), 35, [0]), (.aload_n 0, 38, []), (.getfield 207, 39, []), (.aload_n 0, 42, []), (.getfield 204, 43, []), (.if_icmp .ge 15, 46, [30]), (.aload_n 0, 49, []), (.getfield 115, 50, []), (.aload_n 0, 53, []), (.getfield 207, 54, []), (.iaload, 57, []), (.goto 4, 58, [31]), (.iconst 0, 61, []), (.ireturn, 62, [])]
set_option maxRecDepth 100000 in
theorem kX8_next : w_ok cX8_next tX8_next = true := by decide +kernel
def tX8_number : wT := [(.aload_n 0, 0, []), (.invokevirtual 210, 1, []), (.bipush 48, 4, []), (.bipush 57, 6, []), (.invokestatic 1, 8, []), (.ifCond .ne 13, 11, [12]), (.aload_n 0, 14, []), (.aload_n 0, 15, []), (.getfield 207, 16, []), (.putfield 214, 19, []), (.iconst (-1), 22, []), (.ireturn, 23, []), (.aload_n 0, 24, []), (.getfield 207, 25, []), (.istore_n 2, 28, []), (.iconst 0, 29, []), (.istore_n 3, 30, []), (.aload_n 0, 31, []), (.getfield 207, 32, []), (.aload_n 0, 35, []), (.getfield 204, 36, []), (.if_icmp .ge 67, 39, [58]), (.aload_n 0, 42, []), (.getfield 115, 43, []), (.aload_n 0, 46, []), (.getfield 207, 47, []), (.iaload, 50, []), (.bipush 48, 51, []), (.bipush 57, 53, []), (.invokestatic 1, 55, []), (.ifCond .eq 48, 58, [58]), (.aload_n 0, 61, []), (.getfield 207, 62, []), (.iload_n 2, 65, []), (.isub, 66, []), (.iconst 4, 67, []), (.if_icmp .ge 23, 68, [49]), (.bipush 10, 71, []), (.iload_n 3, 73, []), (.imul, 74, []), (.aload_n 0, 75, []), (.getfield 115, 76, []), (.aload_n 0, 79, []), (.getfield 207, 80, []), (.iaload, 83, []), (.iadd, 84, []), (.bipush 48, 85, []), (.isub, 87, []), (.goto 4, 88, [50]), (.iload_n 3, 91, []), (.istore_n 3, 92, []), (.aload_n 0, 93, []), (.dup, 94, []), (.getfield 207, 95, []), (.iconst 1, 98, []), (.iadd, 99, []), (.putfield 207, 100, []), (.goto (-72), 103, [17]), (.aload_n 0, 106, []), (.getfield 207, 107, []), (.iload_n 2, 110, []), (.isub, 111, []), (.iconst 3, 112, []), (.if_icmp .gt 8, 113, [67]), (.iload_n 3, 116, []), (.iload_n 1, 117, []), (.if_icmp .le 10, 118, [72]), (.aload_n 0, 121, []), (.iload_n 2, 122, []), (.putfield 214, 123, []), (.iconst (-1), 126, []), (.ireturn, 127, []), (.iload_n 3, 128, []), (.ireturn, 129, [])]
set_option maxRecDepth 100000 in
theorem kX8_number : w_ok cX8_number tX8_number = true := by decide +kernel
def tX8_reads : wT := [(.aload_n 0, 0, []), (.iconst 0, 1, []), (.putfield 207, 2, []), (.iconst 0, 5, []), (.istore_n 1, 6, []), (.iconst 0, 7, []), (.istore_n 2, 8, []), (.iconst 1, 9, []), (.istore_n 3, 10, []), (.iload_n 3, 11, []), (.ifCond .eq 78, 12, [53]), (.aload_n 0, 15, []), (.bipush 100, 16, []), (.iload_n 2, 18, []), (.isub, 19, []), (.invokevirtual 217, 20, []), (.istore 4, 23, []), (.iload 4, 25, []), (.ifCond .ge 5, 27, [21]), (.iconst (-1), 30, []), (.ireturn, 31, []), (.aload_n 0, 32, []), (.getfield 112, 33, []), (.iload_n 1, 36, []), (.iload 4, 37, []), (.iastore, 39, []), (.iload_n 2, 40, []), (.iload 4, 41, []), (.iadd, 43, []), (.istore_n 2, 44, []), (.iinc 1 1, 45, []), (.aload_n 0, 48, []), (.invokevirtual 210, 49, []), (.bipush 44, 52, []), (.if_icmp .ne 13, 54, [40]), (.iload_n 1, 57, []), (.bipush 6, 58, []), (.if_icmp .ge 7, 60, [40]), (.iconst 1, 63, []), (.goto 4, 64, [41]), (.iconst 0, 67, []), (.istore_n 3, 68, []), (.aload_n 0, 69, []), (.dup, 70, []), (.getfield 207, 71, []), (.iload_n 3, 74, []), (.ifCond .eq 7, 75, [49]), (.iconst 1, 78, []), (.goto 4, 79, [50]), (.iconst 0, 82, []), (.iadd, 83, []), (.putfield 207, 84, []), (.goto (-76), 87, [9]), (.aload_n 0, 90, []), (.aload_n 0, 91, []), (.getfield 207, 92, []), (.putfield 214, 95, []), (.aload_n 0, 98, []), (.invokevirtual 210, 99, []), (.ifCond .ne 7, 102, [62]), (.iload_n 1, 105, []), (.goto 4, 106, [63]), (.iconst (-1), 109, []), (.ireturn, 110, [])]
set_option maxRecDepth 100000 in
theorem kX8_reads : w_ok cX8_reads tX8_reads = true := by decide +kernel
def tX8_shares : wT := [(.aload_n 0, 0, []), (.invokevirtual 220, 1, []), (.istore_n 1, 4, []), (.aload_n 0, 5, []), (.iconst 0, 6, []), (.putfield 204, 7, []), (.iload_n 1, 10, []), (.ifCond .ge 11, 11, [13]), (.bipush (-20), 14, []), (.aload_n 0, 16, []), (.getfield 214, 17, []), (.isub, 20, []), (.ireturn, 21, []), (.aload_n 0, 22, []), (.iload_n 1, 23, []), (.putfield 106, 24, []), (.iconst 0, 27, []), (.istore_n 2, 28, []), (.iload_n 2, 29, []), (.iload_n 1, 30, []), (.if_icmp .ge 21, 31, [31]), (.aload_n 0, 34, []), (.getfield 109, 35, []), (.iload_n 2, 38, []), (.aload_n 0, 39, []), (.getfield 112, 40, []), (.iload_n 2, 43, []), (.iaload, 44, []), (.iastore, 45, []), (.iinc 2 1, 46, []), (.goto (-20), 49, [18]), (.iload_n 1, 52, []), (.ireturn, 53, [])]
set_option maxRecDepth 100000 in
theorem kX8_shares : w_ok cX8_shares tX8_shares = true := by decide +kernel
def tX8_purse : wT := [(.aload_n 0, 0, []), (.iload_n 1, 1, []), (.invokevirtual 121, 2, []), (.ifCond .eq 13, 5, [9]), (.iload_n 2, 8, []), (.iconst 0, 9, []), (.ldc 223, 10, []), (.invokestatic 1, 12, []), (.ifCond .ne 5, 15, [11]), (.iconst (-1), 18, []), (.ireturn, 19, []), (.aload_n 0, 20, []), (.getfield 26, 21, []), (.iload_n 1, 24, []), (.iaload, 25, []), (.istore_n 3, 26, []), (.aload_n 0, 27, []), (.getfield 26, 28, []), (.iload_n 1, 31, []), (.iload_n 2, 32, []), (.iastore, 33, []), (.iload_n 3, 34, []), (.ireturn, 35, [])]
set_option maxRecDepth 100000 in
theorem kX8_purse : w_ok cX8_purse tX8_purse = true := by decide +kernel
def tX8_first : wT := [(.iconst 0, 0, []), (.istore_n 3, 1, []), (.iconst 0, 2, []), (.istore 4, 3, []), (.iload 4, 5, []), (.iload_n 2, 7, []), (.if_icmp .ge 28, 8, [20]), (.iload 4, 11, []), (.aload_n 0, 13, []), (.getfield 106, 14, []), (.if_icmp .ge 19, 17, [20]), (.iload_n 3, 20, []), (.aload_n 0, 21, []), (.getfield 109, 22, []), (.iload 4, 25, []), (.iaload, 27, []), (.iadd, 28, []), (.istore_n 3, 29, []), (.iinc 4 1, 30, []), (.goto (-28), 33, [4]), (.aload_n 0, 36, []), (.getfield 26, 37, []), (.iload_n 1, 40, []), (.iaload, 41, []), (.iload_n 3, 42, []), (.imul, 43, []), (.bipush 100, 44, []), (.idiv, 46, []), (.ireturn, 47, [])]
set_option maxRecDepth 100000 in
theorem kX8_first : w_ok cX8_first tX8_first = true := by decide +kernel
def tX8_wonOf : wT := [(.aload_n 0, 0, []), (.iload_n 1, 1, []), (.aload_n 0, 2, []), (.getfield 128, 3, []), (.invokevirtual 196, 6, []), (.istore_n 3, 9, []), (.aload_n 0, 10, []), (.getfield 100, 11, []), (.iload_n 2, 14, []), (.iaload, 15, []), (.istore 4, 16, []), (.iload 4, 18, []), (.ifCond .ne 5, 20, [15]), (.iconst 0, 23, []), (.ireturn, 24, []), (.iconst 0, 25, []), (.istore 5, 26, []), (.iconst 0, 28, []), (.istore 6, 29, []), (.iconst 0, 31, []), (.istore 7, 32, []), (.iload 7, 34, []), (.bipush 10, 36, []), (.if_icmp .ge 59, 38, [53]), (.iload 5, 41, []), (.aload_n 0, 43, []), (.getfield 100, 44, []), (.iload 7, 47, []), (.iaload, 49, []), (.iload 4, 50, []), (.if_icmp .ne 7, 52, [33]), (.iconst 1, 55, []), (.goto 4, 56, [34]), (.iconst 0, 59, []), (.iadd, 60, []), (.istore 5, 61, []), (.iload 6, 63, []), (.aload_n 0, 65, []), (.getfield 100, 66, []), (.iload 7, 69, []), (.iaload, 71, []), (.iload 4, 72, []), (.if_icmp .ne 13, 74, [48]), (.iload 7, 77, []), (.iload_n 2, 79, []), (.if_icmp .ge 7, 80, [48]), (.iconst 1, 83, []), (.goto 4, 84, [49]), (.iconst 0, 87, []), (.iadd, 88, []), (.istore 6, 89, []), (.iinc 7 1, 91, []), (.goto (-60), 94, [21]), (.aload_n 0, 97, []), (.iload_n 1, 98, []), (.iload 4, 99, []), (.iload 5, 101, []), (.iadd, 103, []), (.iconst 1, 104, []), (.isub, 105, []), (.invokevirtual 224, 106, []), (.aload_n 0, 109, []), (.iload_n 1, 110, []), (.iload 4, 111, []), (.iconst 1, 113, []), (.isub, 114, []), (.invokevirtual 224, 115, []), (.isub, 118, []), (.istore 7, 119, []), (.iload 7, 121, []), (.iload 5, 123, []), (.idiv, 125, []), (.iload 6, 126, []), (.iload 7, 128, []), (.iload 5, 130, []), (.irem, 132, []), (.if_icmp .ge 7, 133, [79]), (.iconst 1, 136, []), (.goto 4, 137, [80]), (.iconst 0, 140, []), (.iadd, 141, []), (.ireturn, 142, [])]
set_option maxRecDepth 100000 in
theorem kX8_wonOf : w_ok cX8_wonOf tX8_wonOf = true := by decide +kernel
def tX8_won : wT := [(.aload_n 0, 0, []), (.iload_n 1, 1, []), (.invokevirtual 121, 2, []), (.ifCond .eq 19, 5, [12]), (.iload_n 2, 8, []), (.invokestatic 125, 9, []), (.ifCond .eq 12, 12, [12]), (.aload_n 0, 15, []), (.iload_n 1, 16, []), (.iload_n 2, 17, []), (.invokevirtual 227, 18, []), (.goto 4, 21, [13]), (.iconst (-1), 24, []), (.ireturn, 25, [])]
set_option maxRecDepth 100000 in
theorem kX8_won : w_ok cX8_won tX8_won = true := by decide +kernel
def tX8_all : wT := [(.iload_n 1, 0, []), (.invokestatic 125, 1, []), (.ifCond .ne 5, 4, [5]), (.iconst (-1), 7, []), (.ireturn, 8, []), (.iconst 0, 9, []), (.istore_n 2, 10, []), (.iconst 0, 11, []), (.istore_n 3, 12, []), (.iload_n 3, 13, []), (.aload_n 0, 14, []), (.getfield 118, 15, []), (.if_icmp .ge 18, 18, [22]), (.iload_n 2, 21, []), (.aload_n 0, 22, []), (.iload_n 3, 23, []), (.iload_n 1, 24, []), (.invokevirtual 227, 25, []), (.iadd, 28, []), (.istore_n 2, 29, []), (.iinc 3 1, 30, []), (.goto (-20), 33, [9]), (.iload_n 2, 36, []), (.ireturn, 37, [])]
set_option maxRecDepth 100000 in
theorem kX8_all : w_ok cX8_all tX8_all = true := by decide +kernel
def tX8_move : wT := [(.aload_n 0, 0, []), (.iload_n 1, 1, []), (.invokevirtual 121, 2, []), (.ifCond .eq 15, 5, [10]), (.iload_n 2, 8, []), (.iconst 0, 9, []), (.aload_n 0, 10, []), (.getfield 128, 11, []), (.invokestatic 1, 14, []), (.ifCond .ne 5, 17, [12]), (.iconst (-1), 20, []), (.ireturn, 21, []), (.aload_n 0, 22, []), (.getfield 13, 23, []), (.iload_n 1, 26, []), (.iaload, 27, []), (.iconst 1, 28, []), (.if_icmp .eq 6, 29, [20]), (.bipush (-12), 32, []), (.ireturn, 34, []), (.aload_n 0, 35, []), (.iload_n 1, 36, []), (.iload_n 2, 37, []), (.invokevirtual 196, 38, []), (.istore_n 3, 41, []), (.iconst 0, 42, []), (.istore 4, 43, []), (.iconst 0, 45, []), (.istore 5, 46, []), (.iload 5, 48, []), (.bipush 10, 50, []), (.if_icmp .ge 101, 52, [84]), (.aload_n 0, 55, []), (.getfield 100, 56, []), (.iload 5, 59, []), (.iaload, 61, []), (.ifCond .le 85, 62, [82]), (.aload_n 0, 65, []), (.getfield 42, 66, []), (.iload 5, 69, []), (.iaload, 71, []), (.iconst 2, 72, []), (.aload_n 0, 73, []), (.getfield 100, 74, []), (.iload 5, 77, []), (.iaload, 79, []), (.imul, 80, []), (.iadd, 81, []), (.iconst 1, 82, []), (.isub, 83, []), (.iload_n 3, 84, []), (.isub, 85, []), (.istore 6, 86, []), (.iload 6, 88, []), (.bipush 50, 90, []), (.if_icmp .le 8, 92, [58]), (.bipush 50, 95, []), (.goto 17, 97, [64]), (.iload 6, 100, []), (.bipush (-50), 102, []), (.if_icmp .ge 8, 104, [63]), (.bipush (-50), 107, []), (.goto 5, 109, [64]), (.iload 6, 112, []), (.istore 6, 114, []), (.iload 4, 116, []), (.iload 6, 118, []), (.aload_n 0, 120, []), (.getfield 42, 121, []), (.iload 5, 124, []), (.iaload, 126, []), (.if_icmp .eq 7, 127, [74]), (.iconst 1, 130, []), (.goto 4, 131, [75]), (.iconst 0, 134, []), (.iadd, 135, []), (.istore 4, 136, []), (.aload_n 0, 138, []), (.getfield 42, 139, []), (.iload 5, 142, []), (.iload 6, 144, []), (.iastore, 146, []), (.iinc 5 1, 147, []), (.goto (-102), 150, [29]), (.iload 4, 153, []), (.ireturn, 155, [])]
set_option maxRecDepth 100000 in
theorem kX8_move : w_ok cX8_move tX8_move = true := by decide +kernel
def tX8_told : wT := [(.iload_n 2, 0, []), (.iconst 0, 1, []), (.bipush 8, 2, []), (.invokestatic 1, 4, []), (.ifCond .eq 17, 7, [12]), (.iload_n 2, 10, []), (.bipush 7, 11, []), (.if_icmp .ge 13, 13, [14]), (.aload_n 0, 16, []), (.iload_n 1, 17, []), (.invokevirtual 121, 18, []), (.ifCond .ne 5, 21, [14]), (.iconst (-1), 24, []), (.ireturn, 25, []), (.iload_n 2, 26, []), (.tableswitch 110 0 7 #[45, 52, 59, 66, 73, 80, 95, 105], 27, [59, 16, 21, 26, 31, 36, 41, 50, 56]), (.aload_n 0, 72, []), (.getfield 13, 73, []), (.iload_n 1, 76, []), (.iaload, 77, []), (.ireturn, 78, []), (.aload_n 0, 79, []), (.getfield 17, 80, []), (.iload_n 1, 83, []), (.iaload, 84, []), (.ireturn, 85, []), (.aload_n 0, 86, []), (.getfield 20, 87, []), (.iload_n 1, 90, []), (.iaload, 91, []), (.ireturn, 92, []), (.aload_n 0, 93, []), (.getfield 23, 94, []), (.iload_n 1, 97, []), (.iaload, 98, []), (.ireturn, 99, []), (.aload_n 0, 100, []), (.getfield 26, 101, []), (.iload_n 1, 104, []), (.iaload, 105, []), (.ireturn, 106, []), (.aload_n 0, 107, []), (.getfield 29, 108, []), (.iload_n 1, 111, []), (.baload, 112, []), (.ifCond .eq 7, 113, [48]), (.iconst 1, 116, []), (.goto 4, 117, [49]), (.iconst 0, 120, []), (.ireturn, 121, []), (.aload_n 0, 122, []), (.iload_n 1, 123, []), (.aload_n 0, 124, []), (.getfield 128, 125, []), (.invokevirtual 196, 128, []), (.ireturn, 131, []), (.aload_n 0, 132, []), (.getfield 118, 133, []), (.ireturn, 136, []), (.aload_n 0, 137, []), (.getfield 128, 138, []), (.ireturn, 141, [])]
set_option maxRecDepth 100000 in
theorem kX8_told : w_ok cX8_told tX8_told = true := by decide +kernel
def tJ6_bitCount_0f7a4 : wT := [(.iload_n 0, 0, []), (.iload_n 0, 1, []), (.iconst 1, 2, []), (.iushr, 3, []), (.ldc_w 265, 4, []), (.iand, 7, []), (.isub, 8, []), (.istore_n 0, 9, []), (.iload_n 0, 10, []), (.ldc_w 266, 11, []), (.iand, 14, []), (.iload_n 0, 15, []), (.iconst 2, 16, []), (.iushr, 17, []), (.ldc_w 266, 18, []), (.iand, 21, []), (.iadd, 22, []), (.istore_n 0, 23, []), (.iload_n 0, 24, []), (.iload_n 0, 25, []), (.iconst 4, 26, []), (.iushr, 27, []), (.iadd, 28, []), (.ldc_w 267, 29, []), (.iand, 32, []), (.istore_n 0, 33, []), (.iload_n 0, 34, []), (.iload_n 0, 35, []), (.bipush 8, 36, []), (.iushr, 38, []), (.iadd, 39, []), (.istore_n 0, 40, []), (.iload_n 0, 41, []), (.iload_n 0, 42, []), (.bipush 16, 43, []), (.iushr, 45, []), (.iadd, 46, []), (.istore_n 0, 47, []), (.iload_n 0, 48, []), (.bipush 63, 49, []), (.iand, 51, []), (.ireturn, 52, [])]
set_option maxRecDepth 100000 in
theorem kJ6_bitCount_0f7a4 : w_ok cJ6_bitCount_0f7a4 tJ6_bitCount_0f7a4 = true := by decide +kernel
def tJ13_bitCount_95d88 : wT := [(.lload_n 0, 0, []), (.lload_n 0, 1, []), (.iconst 1, 2, []), (.lushr, 3, []), (.ldc2_w 314, 4, []), (.land, 7, []), (.lsub, 8, []), (.lstore_n 0, 9, []), (.lload_n 0, 10, []), (.ldc2_w 316, 11, []), (.land, 14, []), (.lload_n 0, 15, []), (.iconst 2, 16, []), (.lushr, 17, []), (.ldc2_w 316, 18, []), (.land, 21, []), (.ladd, 22, []), (.lstore_n 0, 23, []), (.lload_n 0, 24, []), (.lload_n 0, 25, []), (.iconst 4, 26, []), (.lushr, 27, []), (.ladd, 28, []), (.ldc2_w 318, 29, []), (.land, 32, []), (.lstore_n 0, 33, []), (.lload_n 0, 34, []), (.lload_n 0, 35, []), (.bipush 8, 36, []), (.lushr, 38, []), (.ladd, 39, []), (.lstore_n 0, 40, []), (.lload_n 0, 41, []), (.lload_n 0, 42, []), (.bipush 16, 43, []), (.lushr, 45, []), (.ladd, 46, []), (.lstore_n 0, 47, []), (.lload_n 0, 48, []), (.lload_n 0, 49, []), (.bipush 32, 50, []), (.lushr, 52, []), (.ladd, 53, []), (.lstore_n 0, 54, []), (.lload_n 0, 55, []), (.l2i, 56, []), (.bipush 127, 57, []), (.iand, 59, []), (.ireturn, 60, [])]
set_option maxRecDepth 100000 in
theorem kJ13_bitCount_95d88 : w_ok cJ13_bitCount_95d88 tJ13_bitCount_95d88 = true := by decide +kernel
def tJ9_max_7cf53 : wT := [(.iload_n 0, 0, []), (.iload_n 1, 1, []), (.if_icmp .lt 7, 2, [5]), (.iload_n 0, 5, []), (.goto 4, 6, [6]), (.iload_n 1, 9, []), (.ireturn, 10, [])]
set_option maxRecDepth 100000 in
theorem kJ9_max_7cf53 : w_ok cJ9_max_7cf53 tJ9_max_7cf53 = true := by decide +kernel
def tJ9_min_7cf53 : wT := [(.iload_n 0, 0, []), (.iload_n 1, 1, []), (.if_icmp .gt 7, 2, [5]), (.iload_n 0, 5, []), (.goto 4, 6, [6]), (.iload_n 1, 9, []), (.ireturn, 10, [])]
set_option maxRecDepth 100000 in
theorem kJ9_min_7cf53 : w_ok cJ9_min_7cf53 tJ9_min_7cf53 = true := by decide +kernel
def tJ7_fill_53178 : wT := [(.iconst 0, 0, []), (.istore_n 2, 1, []), (.aload_n 0, 2, []), (.arraylength, 3, []), (.istore_n 3, 4, []), (.iload_n 2, 5, []), (.iload_n 3, 6, []), (.if_icmp .ge 13, 7, [14]), (.aload_n 0, 10, []), (.iload_n 2, 11, []), (.iload_n 1, 12, []), (.iastore, 13, []), (.iinc 2 1, 14, []), (.goto (-12), 17, [5]), (.return_, 20, [])]
set_option maxRecDepth 100000 in
theorem kJ7_fill_53178 : w_ok cJ7_fill_53178 tJ7_fill_53178 = true := by decide +kernel
end
section
def shX : wSh := fun q => match q with
  | 0 => .inl 7
  | 1 => .inl 3
  | 2 => .inl 2
  | 3 => .inl 0
  | 4 => .inl 6
  | 5 => .inl 4
  | 6 => .inr (3, 4)
  | 7 => .inr (0, 10)
  | 8 => .inr (2, 8)
  | 9 => .inr (0, 6)
  | 10 => .inr (0, 8)
  | 11 => .inr (0, 8)
  | 12 => .inr (0, 6)
  | 13 => .inr (0, 8)
  | 14 => .inr (0, 160)
  | 15 => .inr (0, 160)
  | 16 => .inr (0, 160)
  | 17 => .inr (0, 160)
  | 18 => .inr (0, 160)
  | 19 => .inr (0, 10)
  | 20 => .inr (0, 60)
  | 21 => .inr (0, 10)
  | 22 => .inr (0, 30)
  | 23 => .inr (0, 10)
  | 24 => .inr (0, 6)
  | 25 => .inr (0, 40)
  | 26 => .inr (0, 6)
  | 27 => .inl 1
  | 28 => .inl 1
  | 29 => .inl 1
  | 30 => .inl 1
  | 31 => .inl 1
  | 32 => .inl 1
  | 33 => .inl 1
  | 34 => .inl 1
  | 35 => .inl 5
  | 36 => .inl 5
  | 37 => .inl 5
  | 38 => .inl 5
  | 39 => .inr (0, 60)
  | 40 => .inr (0, 60)
  | 41 => .inr (0, 60)
  | _ => .inr (0, 60)
def rfX : Nat → Nat → Nat := fun q j => match q with
  | 0 => (match j with
    | 0 => 1
    | 1 => 2
    | 2 => 3
    | 3 => 4
    | 4 => 5
    | 5 => 6
    | _ => 7)
  | 1 => (match j with
    | 0 => 8
    | 5 => 9
    | 6 => 10
    | 10 => 11
    | 11 => 12
    | _ => 13)
  | 2 => j + 14
  | 3 => j + 19
  | 4 => (match j with
    | 0 => 24
    | _ => 25)
  | 5 => 26
  | 6 => j + 35
  | 8 => j + 27
  | q => q + 4
def shM : wSh := fun q => match q with
  | 0 => .inl 8
  | 1 => .inr (0, 8)
  | 2 => .inr (0, 8)
  | 3 => .inr (0, 8)
  | 4 => .inr (0, 8)
  | 5 => .inr (0, 8)
  | 6 => .inr (1, 8)
  | 7 => .inr (0, 8)
  | 8 => .inr (0, 8)
  | 9 => .inr (0, 8)
  | 10 => .inr (0, 10)
  | 11 => .inr (0, 8)
  | 12 => .inr (0, 8)
  | 13 => .inr (0, 6)
  | 14 => .inr (0, 8)
  | 15 => .inr (0, 6)
  | 16 => .inr (0, 8)
  | 17 => .inr (0, 160)
  | 18 => .inr (0, 160)
  | 19 => .inr (0, 160)
  | 20 => .inr (0, 160)
  | 21 => .inr (0, 4)
  | 22 => .inr (0, 4)
  | 23 => .inr (0, 240)
  | 24 => .inr (0, 60)
  | 25 => .inr (1, 10)
  | 26 => .inr (0, 30)
  | 27 => .inr (0, 10)
  | 28 => .inr (0, 10)
  | 29 => .inr (0, 6)
  | 30 => .inr (0, 6)
  | _ => .inr (0, 40)
def rfM : Nat → Nat → Nat := fun _ j => match j with
  | 1 => 1
  | 2 => 2
  | 3 => 3
  | 4 => 4
  | 5 => 5
  | 6 => 6
  | 7 => 7
  | 8 => 8
  | 9 => 9
  | 10 => 10
  | 14 => 11
  | 15 => 12
  | 16 => 13
  | 17 => 14
  | 20 => 15
  | 21 => 16
  | 23 => 17
  | 24 => 18
  | 25 => 19
  | 26 => 20
  | 27 => 21
  | 28 => 22
  | 29 => 23
  | 30 => 24
  | 31 => 25
  | 32 => 26
  | 33 => 27
  | 34 => 28
  | 36 => 29
  | 37 => 30
  | 38 => 31
  | _ => 0
theorem shX_ev {i : Nat} (h : i < 8) : shX (i + 27) = .inl 1 := by
  match i, h with
  | 0, _ => rfl
  | 1, _ => rfl
  | 2, _ => rfl
  | 3, _ => rfl
  | 4, _ => rfl
  | 5, _ => rfl
  | 6, _ => rfl
  | 7, _ => rfl
theorem shX_st {i : Nat} (h : i < 4) : shX (i + 35) = .inl 5 := by
  match i, h with
  | 0, _ => rfl
  | 1, _ => rfl
  | 2, _ => rfl
  | 3, _ => rfl
theorem shX_it (i : Nat) : shX (i + 39) = .inr (0, 60) := by
  match i with
  | 0 => rfl
  | 1 => rfl
  | 2 => rfl
  | 3 => rfl
  | i + 4 => rfl
theorem rfX_it (i : Nat) : rfX (i + 35) 0 = i + 39 := rfl
theorem rfX_ev (i : Nat) : rfX 8 i = i + 27 := rfl
theorem rfX_st (i : Nat) : rfX 6 i = i + 35 := rfl
theorem vp_in_lt {i : Int32} {n : Nat} (h : vp_in i n) : i.toNatClampNeg < n := by
  unfold vp_in at h
  omega
theorem ev_ok {i : Int32} (h : vp_in i 8) : i.toNatClampNeg + 27 < 43 ∧ shX (i.toNatClampNeg + 27) = .inl 1 := ⟨by have := vp_in_lt h; omega, shX_ev (vp_in_lt h)⟩
theorem st_ok {i : Int32} (h : vp_in i 4) : i.toNatClampNeg + 35 < 43 ∧ shX (i.toNatClampNeg + 35) = .inl 5 := ⟨by have := vp_in_lt h; omega, shX_st (vp_in_lt h)⟩
theorem it_ok {i j : Int32} (h : vp_in i 4) (h2 : vp_in j 60) : w_inA shX 43 0 (i.toNatClampNeg + 39) j := ⟨by have := vp_in_lt h; omega, 60, shX_it _, h2⟩
/-- System.arraycopy of a row of ints -/
def w_cp (μ : wM) (a b sp dp k : Nat) : wM := fun q j => if q = b then va_cpy (μ a) (μ b) sp dp k j else μ q j
def sCopy (sh : wSh) (n : Nat) : wS := (true, true, 5, fun as _ => ∃ a sp b dp k, as = [.ref a, .int sp, .ref b, .int dp, .int k] ∧ a < n ∧ b < n ∧ (∃ la lb, sh a = .inr (0, la) ∧ sh b = .inr (0, lb) ∧ ¬ sp < 0 ∧ ¬ dp < 0 ∧ ¬ k < 0 ∧ sp.toNatClampNeg + k.toNatClampNeg ≤ la ∧ dp.toNatClampNeg + k.toNatClampNeg ≤ lb), fun as μ _ μ' => match as with
  | [.ref a, .int sp, .ref b, .int dp, .int k] => μ' = w_cp μ a b sp.toNatClampNeg dp.toNatClampNeg k.toNatClampNeg
  | _ => False)
set_option maxHeartbeats 4000000 in
theorem w_callCopy {l : Launch} {sh : wSh} {rf : Nat → Nat → Nat} {n d o idx : Nat} (hd : 1 ≤ d) (hlink : Cond.methodLink (w_C o) idx arraycopyName ∈ w_tbl) (hnat : Cond.native arraycopyName ∈ w_tbl) (hst : Cond.static arraycopyName ∈ w_tbl) (hini : Cond.initialized "java/lang/System" ∈ w_tbl) : w_Call l o idx (sCopy sh n) d sh rf n := by
  intro p e s m args below meth c D kc ad A H0 cc nL rt Q E pc la as rest μ H locs hla hdg hlen hrest hpre hP hS kk
  obtain ⟨hx, hb, hml, hown, hts, hK0, hNL, hA, hap, hlocks, hr⟩ := id E
  obtain ⟨a, sp, b, dp, k, rfl, ha, hb2, lna, lnb, h1, h2, h3, h4, h5, h6, h7⟩ := hpre
  have hs := w_cat_sum (ad := ad) rest
  refine va_copyi hx hb (by rw [hml, hla]) hown (hts _ hlink) (hts _ hnat) (hts _ hst) (hts _ hini) hK0 hP (w_D hap μ) hS a b 0 0 ((w_w_at ha).trans (by rw [w_e_int h1])) ((w_w_at hb2).trans (by rw [w_e_int h2])) rfl rfl rfl h3 h4 h5 h6 h7 (fun _ _ => rfl) hd ?_ hdg (fun H1 locs1 hP1 hD1 hS1 => ?_)
  · show ((rest.map (w_tr ad)).map fun v => v.category).sum + (nativeFrameWords "java/lang/System" "arraycopy" 5 + 11) ≤ 40 * d
    have : nativeFrameWords "java/lang/System" "arraycopy" 5 + 11 ≤ 32 := by decide
    omega
  · refine kk 0 (w_cp μ a b sp.toNatClampNeg dp.toNatClampNeg k.toNatClampNeg) H1 locs1 rfl ?_ hS1
    have e : (w_w kc sh rf n ad μ).set b (ad b, .inl (kc 0, lnb, .inl (va_cpy (μ a) (μ b) sp.toNatClampNeg dp.toNatClampNeg k.toNatClampNeg))) = w_w kc sh rf n ad (w_cp μ a b sp.toNatClampNeg dp.toNatClampNeg k.toNatClampNeg) := by
      unfold w_w
      refine w_set hb2 ?_ ?_
      · have hf : w_cp μ a b sp.toNatClampNeg dp.toNatClampNeg k.toNatClampNeg b = va_cpy (μ a) (μ b) sp.toNatClampNeg dp.toNatClampNeg k.toNatClampNeg := by
          funext j
          simp [w_cp]
        rw [w_e_int h2, hf]
      · intro i hi
        rw [w_e_o]
        funext j
        simp [w_cp, hi]
    rw [← e]
    exact hP1
end
section
def sCopy_ok (sh : wSh) (n a : Nat) (sp : Int32) (b : Nat) (dp k : Int32) : Prop := ∃ a' sp' b' dp' k', [Value.ref a, .int sp, .ref b, .int dp, .int k] = [.ref a', .int sp', .ref b', .int dp', .int k'] ∧ a' < n ∧ b' < n ∧ (∃ la lb, sh a' = .inr (0, la) ∧ sh b' = .inr (0, lb) ∧ ¬ sp' < 0 ∧ ¬ dp' < 0 ∧ ¬ k' < 0 ∧ sp'.toNatClampNeg + k'.toNatClampNeg ≤ la ∧ dp'.toNatClampNeg + k'.toNatClampNeg ≤ lb)
theorem i_nlt {a b : Int32} : ¬ a < b ↔ b ≤ a := Int32.not_lt
theorem i_nle {a b : Int32} : ¬ a ≤ b ↔ b < a := Int32.not_le
theorem i_lt {a b : Int32} : a < b ↔ a.toInt < b.toInt := Int32.lt_iff_toInt_lt
theorem i_le {a b : Int32} : a ≤ b ↔ a.toInt ≤ b.toInt := Int32.le_iff_toInt_le
theorem i_eq {a b : Int32} : a = b ↔ a.toInt = b.toInt := Int32.toInt_inj.symm
def w_B01 (b : Bool) : Int32 := match b with
  | true => 1
  | false => 0
theorem w_B01_bit (b : Bool) : w_bit (w_B01 b) := by
  cases b
  · exact Or.inl rfl
  · exact Or.inr rfl
theorem w_B01_t {b : Bool} (h : b = true) : 1 = w_B01 b := by rw [h]; rfl
theorem w_B01_f {b : Bool} (h : ¬ b = true) : 0 = w_B01 b := by
  cases b
  · rfl
  · exact absurd rfl h
theorem w_B01_0 {b : Bool} : w_B01 b = 0 ↔ b = false := by cases b <;> decide
theorem w_B01_1 {b : Bool} : w_B01 b = 1 ↔ b = true := by cases b <;> decide
theorem w_B01_n {b : Bool} : ¬ w_B01 b = 0 ↔ b = true := by cases b <;> decide
def w_inB (a b c : Int32) : Bool := decide (b ≤ a) && decide (a ≤ c)
theorem w_inB_t {a b c : Int32} : w_inB a b c = true ↔ b ≤ a ∧ a ≤ c := by simp [w_inB]
theorem w_inB_f {a b c : Int32} : w_inB a b c = false ↔ ¬ (b ≤ a ∧ a ≤ c) := by simp [w_inB]
def w_hasB (n e : Int32) : Bool := decide (0 ≤ e) && decide (e < n)
theorem w_hasB_t {n e : Int32} : w_hasB n e = true ↔ 0 ≤ e ∧ e < n := by simp [w_hasB]
theorem w_hasB_f {n e : Int32} : w_hasB n e = false ↔ ¬ (0 ≤ e ∧ e < n) := by simp [w_hasB]
def w_mx (a b : Int32) : Int32 := if a < b then b else a
def w_mn (a b : Int32) : Int32 := if b < a then b else a
def w_men (men man is : Int32) : Int32 := if is = 0 then men &&& (((1 : Int32) <<< (man &&& 31)) ^^^ (-1)) else men ||| ((1 : Int32) <<< (man &&& 31))
def w_bt (x i : Int32) : Bool := decide (((x >>> (i &&& 31)) &&& 1) = 1)
def w_hm (men man : Int32) : Bool := w_inB man 0 9 && w_bt men man
/-! J9_max_7cf53 -/
def pJ9_max_7cf53 (a : Int32) (b : Int32) (μ : wM) : Prop := True
def qJ9_max_7cf53 (a : Int32) (b : Int32) (μ : wM) (r : Int32) (μ' : wM) : Prop := r = (w_mx a b) ∧ μ' = μ
def sJ9_max_7cf53 : wS := (true, false, 2, fun as μ => ∃ a, ∃ b, as = [.int a, .int b] ∧ pJ9_max_7cf53 a b μ, fun as μ r μ' => match as with
  | [.int a, .int b] => qJ9_max_7cf53 a b μ r μ'
  | _ => False)

/-! J9_min_7cf53 -/
def pJ9_min_7cf53 (a : Int32) (b : Int32) (μ : wM) : Prop := True
def qJ9_min_7cf53 (a : Int32) (b : Int32) (μ : wM) (r : Int32) (μ' : wM) : Prop := r = (w_mn a b) ∧ μ' = μ
def sJ9_min_7cf53 : wS := (true, false, 2, fun as μ => ∃ a, ∃ b, as = [.int a, .int b] ∧ pJ9_min_7cf53 a b μ, fun as μ r μ' => match as with
  | [.int a, .int b] => qJ9_min_7cf53 a b μ r μ'
  | _ => False)

set_option maxHeartbeats 4000000 in
theorem w_callMax {l : Launch} {sh : wSh} {rf : Nat → Nat → Nat} {n d o idx : Nat} (hd : 1 ≤ d) (hlink : Cond.methodLink (w_C o) idx Lib.Math.max.name ∈ w_tbl) (hst : Cond.static Lib.Math.max.name ∈ w_tbl) (hini : Cond.initialized "java/lang/Math" ∈ w_tbl) (hcode : Cond.code Lib.Math.max.name Lib.Math.max.code 2 (some .int) ∈ w_tbl) : w_Call l o idx sJ9_max_7cf53 d sh rf n := by
  intro p e s m args below meth c D kc ad A H0 cc nL rt Q E pc la as rest μ H locs hla hdg hlen hrest hpre hP hS kk
  obtain ⟨hx, hb, hml, hown, hts, hK0, hNL, hA, hap, hlocks, hr⟩ := id E
  obtain ⟨a, b, rfl, -⟩ := hpre
  have hs := w_cat_sum (ad := ad) rest
  refine va_mmax hx hb (by rw [hml, hla]) hown (hts _ hlink) (hts _ hst) (hts _ hini) (hts _ hcode) hd ?_ (Nat.le_refl _) (Nat.le_refl _) hdg ?_
  · show ((rest.map (w_tr ad)).map fun v => v.category).sum + 13 ≤ 40 * d
    omega
  · exact kk _ μ H locs ⟨rfl, rfl⟩ hP hS
set_option maxHeartbeats 4000000 in
theorem w_callMin {l : Launch} {sh : wSh} {rf : Nat → Nat → Nat} {n d o idx : Nat} (hd : 1 ≤ d) (hlink : Cond.methodLink (w_C o) idx Lib.Math.min.name ∈ w_tbl) (hst : Cond.static Lib.Math.min.name ∈ w_tbl) (hini : Cond.initialized "java/lang/Math" ∈ w_tbl) (hcode : Cond.code Lib.Math.min.name Lib.Math.min.code 2 (some .int) ∈ w_tbl) : w_Call l o idx sJ9_min_7cf53 d sh rf n := by
  intro p e s m args below meth c D kc ad A H0 cc nL rt Q E pc la as rest μ H locs hla hdg hlen hrest hpre hP hS kk
  obtain ⟨hx, hb, hml, hown, hts, hK0, hNL, hA, hap, hlocks, hr⟩ := id E
  obtain ⟨a, b, rfl, -⟩ := hpre
  have hs := w_cat_sum (ad := ad) rest
  refine va_mmin hx hb (by rw [hml, hla]) hown (hts _ hlink) (hts _ hst) (hts _ hini) (hts _ hcode) hd ?_ (Nat.le_refl _) (Nat.le_refl _) hdg ?_
  · show ((rest.map (w_tr ad)).map fun v => v.category).sum + 13 ≤ 40 * d
    omega
  · exact kk _ μ H locs ⟨rfl, rfl⟩ hP hS
def w_bc (x : Int32) : Int32 := ((((((((x - ((((x : Int32).toUInt32 >>> ((1 : Int32).toUInt32 &&& Int32.toUInt32 31)).toInt32) &&& 1431655765)) &&& 858993459) + (((((x - ((((x : Int32).toUInt32 >>> ((1 : Int32).toUInt32 &&& Int32.toUInt32 31)).toInt32) &&& 1431655765)) : Int32).toUInt32 >>> ((2 : Int32).toUInt32 &&& Int32.toUInt32 31)).toInt32) &&& 858993459)) + ((((((x - ((((x : Int32).toUInt32 >>> ((1 : Int32).toUInt32 &&& Int32.toUInt32 31)).toInt32) &&& 1431655765)) &&& 858993459) + (((((x - ((((x : Int32).toUInt32 >>> ((1 : Int32).toUInt32 &&& Int32.toUInt32 31)).toInt32) &&& 1431655765)) : Int32).toUInt32 >>> ((2 : Int32).toUInt32 &&& Int32.toUInt32 31)).toInt32) &&& 858993459)) : Int32).toUInt32 >>> ((4 : Int32).toUInt32 &&& Int32.toUInt32 31)).toInt32)) &&& 252645135) + ((((((((x - ((((x : Int32).toUInt32 >>> ((1 : Int32).toUInt32 &&& Int32.toUInt32 31)).toInt32) &&& 1431655765)) &&& 858993459) + (((((x - ((((x : Int32).toUInt32 >>> ((1 : Int32).toUInt32 &&& Int32.toUInt32 31)).toInt32) &&& 1431655765)) : Int32).toUInt32 >>> ((2 : Int32).toUInt32 &&& Int32.toUInt32 31)).toInt32) &&& 858993459)) + ((((((x - ((((x : Int32).toUInt32 >>> ((1 : Int32).toUInt32 &&& Int32.toUInt32 31)).toInt32) &&& 1431655765)) &&& 858993459) + (((((x - ((((x : Int32).toUInt32 >>> ((1 : Int32).toUInt32 &&& Int32.toUInt32 31)).toInt32) &&& 1431655765)) : Int32).toUInt32 >>> ((2 : Int32).toUInt32 &&& Int32.toUInt32 31)).toInt32) &&& 858993459)) : Int32).toUInt32 >>> ((4 : Int32).toUInt32 &&& Int32.toUInt32 31)).toInt32)) &&& 252645135) : Int32).toUInt32 >>> ((8 : Int32).toUInt32 &&& Int32.toUInt32 31)).toInt32)) + (((((((((x - ((((x : Int32).toUInt32 >>> ((1 : Int32).toUInt32 &&& Int32.toUInt32 31)).toInt32) &&& 1431655765)) &&& 858993459) + (((((x - ((((x : Int32).toUInt32 >>> ((1 : Int32).toUInt32 &&& Int32.toUInt32 31)).toInt32) &&& 1431655765)) : Int32).toUInt32 >>> ((2 : Int32).toUInt32 &&& Int32.toUInt32 31)).toInt32) &&& 858993459)) + ((((((x - ((((x : Int32).toUInt32 >>> ((1 : Int32).toUInt32 &&& Int32.toUInt32 31)).toInt32) &&& 1431655765)) &&& 858993459) + (((((x - ((((x : Int32).toUInt32 >>> ((1 : Int32).toUInt32 &&& Int32.toUInt32 31)).toInt32) &&& 1431655765)) : Int32).toUInt32 >>> ((2 : Int32).toUInt32 &&& Int32.toUInt32 31)).toInt32) &&& 858993459)) : Int32).toUInt32 >>> ((4 : Int32).toUInt32 &&& Int32.toUInt32 31)).toInt32)) &&& 252645135) + ((((((((x - ((((x : Int32).toUInt32 >>> ((1 : Int32).toUInt32 &&& Int32.toUInt32 31)).toInt32) &&& 1431655765)) &&& 858993459) + (((((x - ((((x : Int32).toUInt32 >>> ((1 : Int32).toUInt32 &&& Int32.toUInt32 31)).toInt32) &&& 1431655765)) : Int32).toUInt32 >>> ((2 : Int32).toUInt32 &&& Int32.toUInt32 31)).toInt32) &&& 858993459)) + ((((((x - ((((x : Int32).toUInt32 >>> ((1 : Int32).toUInt32 &&& Int32.toUInt32 31)).toInt32) &&& 1431655765)) &&& 858993459) + (((((x - ((((x : Int32).toUInt32 >>> ((1 : Int32).toUInt32 &&& Int32.toUInt32 31)).toInt32) &&& 1431655765)) : Int32).toUInt32 >>> ((2 : Int32).toUInt32 &&& Int32.toUInt32 31)).toInt32) &&& 858993459)) : Int32).toUInt32 >>> ((4 : Int32).toUInt32 &&& Int32.toUInt32 31)).toInt32)) &&& 252645135) : Int32).toUInt32 >>> ((8 : Int32).toUInt32 &&& Int32.toUInt32 31)).toInt32)) : Int32).toUInt32 >>> ((16 : Int32).toUInt32 &&& Int32.toUInt32 31)).toInt32)) &&& 63)
/-! J6_bitCount_0f7a4 -/
def pJ6_bitCount_0f7a4 (x : Int32) (μ : wM) : Prop := True
def qJ6_bitCount_0f7a4 (x : Int32) (μ : wM) (r : Int32) (μ' : wM) : Prop := r = (w_bc x) ∧ μ' = μ
def sJ6_bitCount_0f7a4 : wS := (true, false, 1, fun as μ => ∃ x, as = [.int x] ∧ pJ6_bitCount_0f7a4 x μ, fun as μ r μ' => match as with
  | [.int x] => qJ6_bitCount_0f7a4 x μ r μ'
  | _ => False)
def gJ6_bitCount_0f7a4 : Nat → Option wS := fun k => match k with
  | _ => none
def uJ6_bitCount_0f7a4 : Nat → Option (List Nat) := fun _ => none
set_option maxHeartbeats 4000000 in
set_option maxRecDepth 100000 in
theorem vcJ6_bitCount_0f7a4_0 (K : wK) (R : Int32 → wM → Prop) (x : Int32) (μ : wM) (h : R ((((((((x - ((((x : Int32).toUInt32 >>> ((1 : Int32).toUInt32 &&& Int32.toUInt32 31)).toInt32) &&& 1431655765)) &&& 858993459) + (((((x - ((((x : Int32).toUInt32 >>> ((1 : Int32).toUInt32 &&& Int32.toUInt32 31)).toInt32) &&& 1431655765)) : Int32).toUInt32 >>> ((2 : Int32).toUInt32 &&& Int32.toUInt32 31)).toInt32) &&& 858993459)) + ((((((x - ((((x : Int32).toUInt32 >>> ((1 : Int32).toUInt32 &&& Int32.toUInt32 31)).toInt32) &&& 1431655765)) &&& 858993459) + (((((x - ((((x : Int32).toUInt32 >>> ((1 : Int32).toUInt32 &&& Int32.toUInt32 31)).toInt32) &&& 1431655765)) : Int32).toUInt32 >>> ((2 : Int32).toUInt32 &&& Int32.toUInt32 31)).toInt32) &&& 858993459)) : Int32).toUInt32 >>> ((4 : Int32).toUInt32 &&& Int32.toUInt32 31)).toInt32)) &&& 252645135) + ((((((((x - ((((x : Int32).toUInt32 >>> ((1 : Int32).toUInt32 &&& Int32.toUInt32 31)).toInt32) &&& 1431655765)) &&& 858993459) + (((((x - ((((x : Int32).toUInt32 >>> ((1 : Int32).toUInt32 &&& Int32.toUInt32 31)).toInt32) &&& 1431655765)) : Int32).toUInt32 >>> ((2 : Int32).toUInt32 &&& Int32.toUInt32 31)).toInt32) &&& 858993459)) + ((((((x - ((((x : Int32).toUInt32 >>> ((1 : Int32).toUInt32 &&& Int32.toUInt32 31)).toInt32) &&& 1431655765)) &&& 858993459) + (((((x - ((((x : Int32).toUInt32 >>> ((1 : Int32).toUInt32 &&& Int32.toUInt32 31)).toInt32) &&& 1431655765)) : Int32).toUInt32 >>> ((2 : Int32).toUInt32 &&& Int32.toUInt32 31)).toInt32) &&& 858993459)) : Int32).toUInt32 >>> ((4 : Int32).toUInt32 &&& Int32.toUInt32 31)).toInt32)) &&& 252645135) : Int32).toUInt32 >>> ((8 : Int32).toUInt32 &&& Int32.toUInt32 31)).toInt32)) + (((((((((x - ((((x : Int32).toUInt32 >>> ((1 : Int32).toUInt32 &&& Int32.toUInt32 31)).toInt32) &&& 1431655765)) &&& 858993459) + (((((x - ((((x : Int32).toUInt32 >>> ((1 : Int32).toUInt32 &&& Int32.toUInt32 31)).toInt32) &&& 1431655765)) : Int32).toUInt32 >>> ((2 : Int32).toUInt32 &&& Int32.toUInt32 31)).toInt32) &&& 858993459)) + ((((((x - ((((x : Int32).toUInt32 >>> ((1 : Int32).toUInt32 &&& Int32.toUInt32 31)).toInt32) &&& 1431655765)) &&& 858993459) + (((((x - ((((x : Int32).toUInt32 >>> ((1 : Int32).toUInt32 &&& Int32.toUInt32 31)).toInt32) &&& 1431655765)) : Int32).toUInt32 >>> ((2 : Int32).toUInt32 &&& Int32.toUInt32 31)).toInt32) &&& 858993459)) : Int32).toUInt32 >>> ((4 : Int32).toUInt32 &&& Int32.toUInt32 31)).toInt32)) &&& 252645135) + ((((((((x - ((((x : Int32).toUInt32 >>> ((1 : Int32).toUInt32 &&& Int32.toUInt32 31)).toInt32) &&& 1431655765)) &&& 858993459) + (((((x - ((((x : Int32).toUInt32 >>> ((1 : Int32).toUInt32 &&& Int32.toUInt32 31)).toInt32) &&& 1431655765)) : Int32).toUInt32 >>> ((2 : Int32).toUInt32 &&& Int32.toUInt32 31)).toInt32) &&& 858993459)) + ((((((x - ((((x : Int32).toUInt32 >>> ((1 : Int32).toUInt32 &&& Int32.toUInt32 31)).toInt32) &&& 1431655765)) &&& 858993459) + (((((x - ((((x : Int32).toUInt32 >>> ((1 : Int32).toUInt32 &&& Int32.toUInt32 31)).toInt32) &&& 1431655765)) : Int32).toUInt32 >>> ((2 : Int32).toUInt32 &&& Int32.toUInt32 31)).toInt32) &&& 858993459)) : Int32).toUInt32 >>> ((4 : Int32).toUInt32 &&& Int32.toUInt32 31)).toInt32)) &&& 252645135) : Int32).toUInt32 >>> ((8 : Int32).toUInt32 &&& Int32.toUInt32 31)).toInt32)) : Int32).toUInt32 >>> ((16 : Int32).toUInt32 &&& Int32.toUInt32 31)).toInt32)) &&& 63) μ) : w_n 9 gJ6_bitCount_0f7a4 shX rfX 43 (some .int) R tJ6_bitCount_0f7a4 uJ6_bitCount_0f7a4 K 43 0 [some (.int x)] [] μ :=
  And.intro trivial (h)
set_option maxHeartbeats 4000000 in
theorem vJ6_bitCount_0f7a4 (x : Int32) (μ : wM) (h : pJ6_bitCount_0f7a4 x μ) (K : wK) (hK : w_cl 9 gJ6_bitCount_0f7a4 shX rfX 43 (some .int) (qJ6_bitCount_0f7a4 x μ) tJ6_bitCount_0f7a4 K) : K 0 [some (.int x)] [] μ := by
  refine hK uJ6_bitCount_0f7a4 43 _ _ _ _ (vcJ6_bitCount_0f7a4_0 K _ x μ ?_)
  clear hK
  unfold pJ6_bitCount_0f7a4 at h
  unfold qJ6_bitCount_0f7a4
  exact ⟨rfl, rfl⟩
set_option maxRecDepth 100000 in
theorem zJ6_bitCount_0f7a4 (l : Launch) : ∀ (idx : Nat) (S : wS), gJ6_bitCount_0f7a4 idx = some S → w_Call l 9 idx S 1 shX rfX 43 := by
  intro idx S hS
  unfold gJ6_bitCount_0f7a4 at hS
  split at hS
  · cases hS
theorem mJ6_bitCount_0f7a4 (l : Launch) : w_Met l yJ6_bitCount_0f7a4 cJ6_bitCount_0f7a4 1 (some .int) 1 shX rfX 43 sJ6_bitCount_0f7a4.2.2.2.1 sJ6_bitCount_0f7a4.2.2.2.2 :=
  w_meth (o := 9) (Γ := gJ6_bitCount_0f7a4) (tb := tJ6_bitCount_0f7a4) (by decide +kernel) rfl kJ6_bitCount_0f7a4 rfl (zJ6_bitCount_0f7a4 l) (fun as μ h => by obtain ⟨x, rfl, h⟩ := h; exact Nat.le_of_ble_eq_true rfl) (fun as μ h K hK => by obtain ⟨x, rfl, h⟩ := h; exact vJ6_bitCount_0f7a4 x μ h K hK)
set_option maxRecDepth 100000 in
theorem eJ6_bitCount_0f7a4 : Cond.code yJ6_bitCount_0f7a4 cJ6_bitCount_0f7a4 1 (some .int) ∈ w_tbl ∧ Cond.static yJ6_bitCount_0f7a4 ∈ w_tbl ∧ Cond.initialized yJ6_bitCount_0f7a4.cls ∈ w_tbl := ⟨by decide +kernel, by decide +kernel, by decide +kernel⟩

def w_bcl (x : Int64) : Int32 := (((((((((((x - ((((x : Int64).toUInt64 >>> ((1 : Int32).toInt64.toUInt64 &&& Int64.toUInt64 63)).toInt64) &&& 6148914691236517205)) &&& 3689348814741910323) + (((((x - ((((x : Int64).toUInt64 >>> ((1 : Int32).toInt64.toUInt64 &&& Int64.toUInt64 63)).toInt64) &&& 6148914691236517205)) : Int64).toUInt64 >>> ((2 : Int32).toInt64.toUInt64 &&& Int64.toUInt64 63)).toInt64) &&& 3689348814741910323)) + ((((((x - ((((x : Int64).toUInt64 >>> ((1 : Int32).toInt64.toUInt64 &&& Int64.toUInt64 63)).toInt64) &&& 6148914691236517205)) &&& 3689348814741910323) + (((((x - ((((x : Int64).toUInt64 >>> ((1 : Int32).toInt64.toUInt64 &&& Int64.toUInt64 63)).toInt64) &&& 6148914691236517205)) : Int64).toUInt64 >>> ((2 : Int32).toInt64.toUInt64 &&& Int64.toUInt64 63)).toInt64) &&& 3689348814741910323)) : Int64).toUInt64 >>> ((4 : Int32).toInt64.toUInt64 &&& Int64.toUInt64 63)).toInt64)) &&& 1085102592571150095) + ((((((((x - ((((x : Int64).toUInt64 >>> ((1 : Int32).toInt64.toUInt64 &&& Int64.toUInt64 63)).toInt64) &&& 6148914691236517205)) &&& 3689348814741910323) + (((((x - ((((x : Int64).toUInt64 >>> ((1 : Int32).toInt64.toUInt64 &&& Int64.toUInt64 63)).toInt64) &&& 6148914691236517205)) : Int64).toUInt64 >>> ((2 : Int32).toInt64.toUInt64 &&& Int64.toUInt64 63)).toInt64) &&& 3689348814741910323)) + ((((((x - ((((x : Int64).toUInt64 >>> ((1 : Int32).toInt64.toUInt64 &&& Int64.toUInt64 63)).toInt64) &&& 6148914691236517205)) &&& 3689348814741910323) + (((((x - ((((x : Int64).toUInt64 >>> ((1 : Int32).toInt64.toUInt64 &&& Int64.toUInt64 63)).toInt64) &&& 6148914691236517205)) : Int64).toUInt64 >>> ((2 : Int32).toInt64.toUInt64 &&& Int64.toUInt64 63)).toInt64) &&& 3689348814741910323)) : Int64).toUInt64 >>> ((4 : Int32).toInt64.toUInt64 &&& Int64.toUInt64 63)).toInt64)) &&& 1085102592571150095) : Int64).toUInt64 >>> ((8 : Int32).toInt64.toUInt64 &&& Int64.toUInt64 63)).toInt64)) + (((((((((x - ((((x : Int64).toUInt64 >>> ((1 : Int32).toInt64.toUInt64 &&& Int64.toUInt64 63)).toInt64) &&& 6148914691236517205)) &&& 3689348814741910323) + (((((x - ((((x : Int64).toUInt64 >>> ((1 : Int32).toInt64.toUInt64 &&& Int64.toUInt64 63)).toInt64) &&& 6148914691236517205)) : Int64).toUInt64 >>> ((2 : Int32).toInt64.toUInt64 &&& Int64.toUInt64 63)).toInt64) &&& 3689348814741910323)) + ((((((x - ((((x : Int64).toUInt64 >>> ((1 : Int32).toInt64.toUInt64 &&& Int64.toUInt64 63)).toInt64) &&& 6148914691236517205)) &&& 3689348814741910323) + (((((x - ((((x : Int64).toUInt64 >>> ((1 : Int32).toInt64.toUInt64 &&& Int64.toUInt64 63)).toInt64) &&& 6148914691236517205)) : Int64).toUInt64 >>> ((2 : Int32).toInt64.toUInt64 &&& Int64.toUInt64 63)).toInt64) &&& 3689348814741910323)) : Int64).toUInt64 >>> ((4 : Int32).toInt64.toUInt64 &&& Int64.toUInt64 63)).toInt64)) &&& 1085102592571150095) + ((((((((x - ((((x : Int64).toUInt64 >>> ((1 : Int32).toInt64.toUInt64 &&& Int64.toUInt64 63)).toInt64) &&& 6148914691236517205)) &&& 3689348814741910323) + (((((x - ((((x : Int64).toUInt64 >>> ((1 : Int32).toInt64.toUInt64 &&& Int64.toUInt64 63)).toInt64) &&& 6148914691236517205)) : Int64).toUInt64 >>> ((2 : Int32).toInt64.toUInt64 &&& Int64.toUInt64 63)).toInt64) &&& 3689348814741910323)) + ((((((x - ((((x : Int64).toUInt64 >>> ((1 : Int32).toInt64.toUInt64 &&& Int64.toUInt64 63)).toInt64) &&& 6148914691236517205)) &&& 3689348814741910323) + (((((x - ((((x : Int64).toUInt64 >>> ((1 : Int32).toInt64.toUInt64 &&& Int64.toUInt64 63)).toInt64) &&& 6148914691236517205)) : Int64).toUInt64 >>> ((2 : Int32).toInt64.toUInt64 &&& Int64.toUInt64 63)).toInt64) &&& 3689348814741910323)) : Int64).toUInt64 >>> ((4 : Int32).toInt64.toUInt64 &&& Int64.toUInt64 63)).toInt64)) &&& 1085102592571150095) : Int64).toUInt64 >>> ((8 : Int32).toInt64.toUInt64 &&& Int64.toUInt64 63)).toInt64)) : Int64).toUInt64 >>> ((16 : Int32).toInt64.toUInt64 &&& Int64.toUInt64 63)).toInt64)) + ((((((((((x - ((((x : Int64).toUInt64 >>> ((1 : Int32).toInt64.toUInt64 &&& Int64.toUInt64 63)).toInt64) &&& 6148914691236517205)) &&& 3689348814741910323) + (((((x - ((((x : Int64).toUInt64 >>> ((1 : Int32).toInt64.toUInt64 &&& Int64.toUInt64 63)).toInt64) &&& 6148914691236517205)) : Int64).toUInt64 >>> ((2 : Int32).toInt64.toUInt64 &&& Int64.toUInt64 63)).toInt64) &&& 3689348814741910323)) + ((((((x - ((((x : Int64).toUInt64 >>> ((1 : Int32).toInt64.toUInt64 &&& Int64.toUInt64 63)).toInt64) &&& 6148914691236517205)) &&& 3689348814741910323) + (((((x - ((((x : Int64).toUInt64 >>> ((1 : Int32).toInt64.toUInt64 &&& Int64.toUInt64 63)).toInt64) &&& 6148914691236517205)) : Int64).toUInt64 >>> ((2 : Int32).toInt64.toUInt64 &&& Int64.toUInt64 63)).toInt64) &&& 3689348814741910323)) : Int64).toUInt64 >>> ((4 : Int32).toInt64.toUInt64 &&& Int64.toUInt64 63)).toInt64)) &&& 1085102592571150095) + ((((((((x - ((((x : Int64).toUInt64 >>> ((1 : Int32).toInt64.toUInt64 &&& Int64.toUInt64 63)).toInt64) &&& 6148914691236517205)) &&& 3689348814741910323) + (((((x - ((((x : Int64).toUInt64 >>> ((1 : Int32).toInt64.toUInt64 &&& Int64.toUInt64 63)).toInt64) &&& 6148914691236517205)) : Int64).toUInt64 >>> ((2 : Int32).toInt64.toUInt64 &&& Int64.toUInt64 63)).toInt64) &&& 3689348814741910323)) + ((((((x - ((((x : Int64).toUInt64 >>> ((1 : Int32).toInt64.toUInt64 &&& Int64.toUInt64 63)).toInt64) &&& 6148914691236517205)) &&& 3689348814741910323) + (((((x - ((((x : Int64).toUInt64 >>> ((1 : Int32).toInt64.toUInt64 &&& Int64.toUInt64 63)).toInt64) &&& 6148914691236517205)) : Int64).toUInt64 >>> ((2 : Int32).toInt64.toUInt64 &&& Int64.toUInt64 63)).toInt64) &&& 3689348814741910323)) : Int64).toUInt64 >>> ((4 : Int32).toInt64.toUInt64 &&& Int64.toUInt64 63)).toInt64)) &&& 1085102592571150095) : Int64).toUInt64 >>> ((8 : Int32).toInt64.toUInt64 &&& Int64.toUInt64 63)).toInt64)) + (((((((((x - ((((x : Int64).toUInt64 >>> ((1 : Int32).toInt64.toUInt64 &&& Int64.toUInt64 63)).toInt64) &&& 6148914691236517205)) &&& 3689348814741910323) + (((((x - ((((x : Int64).toUInt64 >>> ((1 : Int32).toInt64.toUInt64 &&& Int64.toUInt64 63)).toInt64) &&& 6148914691236517205)) : Int64).toUInt64 >>> ((2 : Int32).toInt64.toUInt64 &&& Int64.toUInt64 63)).toInt64) &&& 3689348814741910323)) + ((((((x - ((((x : Int64).toUInt64 >>> ((1 : Int32).toInt64.toUInt64 &&& Int64.toUInt64 63)).toInt64) &&& 6148914691236517205)) &&& 3689348814741910323) + (((((x - ((((x : Int64).toUInt64 >>> ((1 : Int32).toInt64.toUInt64 &&& Int64.toUInt64 63)).toInt64) &&& 6148914691236517205)) : Int64).toUInt64 >>> ((2 : Int32).toInt64.toUInt64 &&& Int64.toUInt64 63)).toInt64) &&& 3689348814741910323)) : Int64).toUInt64 >>> ((4 : Int32).toInt64.toUInt64 &&& Int64.toUInt64 63)).toInt64)) &&& 1085102592571150095) + ((((((((x - ((((x : Int64).toUInt64 >>> ((1 : Int32).toInt64.toUInt64 &&& Int64.toUInt64 63)).toInt64) &&& 6148914691236517205)) &&& 3689348814741910323) + (((((x - ((((x : Int64).toUInt64 >>> ((1 : Int32).toInt64.toUInt64 &&& Int64.toUInt64 63)).toInt64) &&& 6148914691236517205)) : Int64).toUInt64 >>> ((2 : Int32).toInt64.toUInt64 &&& Int64.toUInt64 63)).toInt64) &&& 3689348814741910323)) + ((((((x - ((((x : Int64).toUInt64 >>> ((1 : Int32).toInt64.toUInt64 &&& Int64.toUInt64 63)).toInt64) &&& 6148914691236517205)) &&& 3689348814741910323) + (((((x - ((((x : Int64).toUInt64 >>> ((1 : Int32).toInt64.toUInt64 &&& Int64.toUInt64 63)).toInt64) &&& 6148914691236517205)) : Int64).toUInt64 >>> ((2 : Int32).toInt64.toUInt64 &&& Int64.toUInt64 63)).toInt64) &&& 3689348814741910323)) : Int64).toUInt64 >>> ((4 : Int32).toInt64.toUInt64 &&& Int64.toUInt64 63)).toInt64)) &&& 1085102592571150095) : Int64).toUInt64 >>> ((8 : Int32).toInt64.toUInt64 &&& Int64.toUInt64 63)).toInt64)) : Int64).toUInt64 >>> ((16 : Int32).toInt64.toUInt64 &&& Int64.toUInt64 63)).toInt64)) : Int64).toUInt64 >>> ((32 : Int32).toInt64.toUInt64 &&& Int64.toUInt64 63)).toInt64)) : Int64).toInt32) &&& 127)
/-! J13_bitCount_95d88 -/
def pJ13_bitCount_95d88 (x : Int64) (μ : wM) : Prop := True
def qJ13_bitCount_95d88 (x : Int64) (μ : wM) (r : Int32) (μ' : wM) : Prop := r = (w_bcl x) ∧ μ' = μ
def sJ13_bitCount_95d88 : wS := (true, false, 1, fun as μ => ∃ x, as = [.long x] ∧ pJ13_bitCount_95d88 x μ, fun as μ r μ' => match as with
  | [.long x] => qJ13_bitCount_95d88 x μ r μ'
  | _ => False)
def gJ13_bitCount_95d88 : Nat → Option wS := fun k => match k with
  | _ => none
def uJ13_bitCount_95d88 : Nat → Option (List Nat) := fun _ => none
set_option maxHeartbeats 4000000 in
set_option maxRecDepth 100000 in
theorem vcJ13_bitCount_95d88_0 (K : wK) (R : Int32 → wM → Prop) (x : Int64) (μ : wM) (h : R (((((((((((x - ((((x : Int64).toUInt64 >>> ((1 : Int32).toInt64.toUInt64 &&& Int64.toUInt64 63)).toInt64) &&& 6148914691236517205)) &&& 3689348814741910323) + (((((x - ((((x : Int64).toUInt64 >>> ((1 : Int32).toInt64.toUInt64 &&& Int64.toUInt64 63)).toInt64) &&& 6148914691236517205)) : Int64).toUInt64 >>> ((2 : Int32).toInt64.toUInt64 &&& Int64.toUInt64 63)).toInt64) &&& 3689348814741910323)) + ((((((x - ((((x : Int64).toUInt64 >>> ((1 : Int32).toInt64.toUInt64 &&& Int64.toUInt64 63)).toInt64) &&& 6148914691236517205)) &&& 3689348814741910323) + (((((x - ((((x : Int64).toUInt64 >>> ((1 : Int32).toInt64.toUInt64 &&& Int64.toUInt64 63)).toInt64) &&& 6148914691236517205)) : Int64).toUInt64 >>> ((2 : Int32).toInt64.toUInt64 &&& Int64.toUInt64 63)).toInt64) &&& 3689348814741910323)) : Int64).toUInt64 >>> ((4 : Int32).toInt64.toUInt64 &&& Int64.toUInt64 63)).toInt64)) &&& 1085102592571150095) + ((((((((x - ((((x : Int64).toUInt64 >>> ((1 : Int32).toInt64.toUInt64 &&& Int64.toUInt64 63)).toInt64) &&& 6148914691236517205)) &&& 3689348814741910323) + (((((x - ((((x : Int64).toUInt64 >>> ((1 : Int32).toInt64.toUInt64 &&& Int64.toUInt64 63)).toInt64) &&& 6148914691236517205)) : Int64).toUInt64 >>> ((2 : Int32).toInt64.toUInt64 &&& Int64.toUInt64 63)).toInt64) &&& 3689348814741910323)) + ((((((x - ((((x : Int64).toUInt64 >>> ((1 : Int32).toInt64.toUInt64 &&& Int64.toUInt64 63)).toInt64) &&& 6148914691236517205)) &&& 3689348814741910323) + (((((x - ((((x : Int64).toUInt64 >>> ((1 : Int32).toInt64.toUInt64 &&& Int64.toUInt64 63)).toInt64) &&& 6148914691236517205)) : Int64).toUInt64 >>> ((2 : Int32).toInt64.toUInt64 &&& Int64.toUInt64 63)).toInt64) &&& 3689348814741910323)) : Int64).toUInt64 >>> ((4 : Int32).toInt64.toUInt64 &&& Int64.toUInt64 63)).toInt64)) &&& 1085102592571150095) : Int64).toUInt64 >>> ((8 : Int32).toInt64.toUInt64 &&& Int64.toUInt64 63)).toInt64)) + (((((((((x - ((((x : Int64).toUInt64 >>> ((1 : Int32).toInt64.toUInt64 &&& Int64.toUInt64 63)).toInt64) &&& 6148914691236517205)) &&& 3689348814741910323) + (((((x - ((((x : Int64).toUInt64 >>> ((1 : Int32).toInt64.toUInt64 &&& Int64.toUInt64 63)).toInt64) &&& 6148914691236517205)) : Int64).toUInt64 >>> ((2 : Int32).toInt64.toUInt64 &&& Int64.toUInt64 63)).toInt64) &&& 3689348814741910323)) + ((((((x - ((((x : Int64).toUInt64 >>> ((1 : Int32).toInt64.toUInt64 &&& Int64.toUInt64 63)).toInt64) &&& 6148914691236517205)) &&& 3689348814741910323) + (((((x - ((((x : Int64).toUInt64 >>> ((1 : Int32).toInt64.toUInt64 &&& Int64.toUInt64 63)).toInt64) &&& 6148914691236517205)) : Int64).toUInt64 >>> ((2 : Int32).toInt64.toUInt64 &&& Int64.toUInt64 63)).toInt64) &&& 3689348814741910323)) : Int64).toUInt64 >>> ((4 : Int32).toInt64.toUInt64 &&& Int64.toUInt64 63)).toInt64)) &&& 1085102592571150095) + ((((((((x - ((((x : Int64).toUInt64 >>> ((1 : Int32).toInt64.toUInt64 &&& Int64.toUInt64 63)).toInt64) &&& 6148914691236517205)) &&& 3689348814741910323) + (((((x - ((((x : Int64).toUInt64 >>> ((1 : Int32).toInt64.toUInt64 &&& Int64.toUInt64 63)).toInt64) &&& 6148914691236517205)) : Int64).toUInt64 >>> ((2 : Int32).toInt64.toUInt64 &&& Int64.toUInt64 63)).toInt64) &&& 3689348814741910323)) + ((((((x - ((((x : Int64).toUInt64 >>> ((1 : Int32).toInt64.toUInt64 &&& Int64.toUInt64 63)).toInt64) &&& 6148914691236517205)) &&& 3689348814741910323) + (((((x - ((((x : Int64).toUInt64 >>> ((1 : Int32).toInt64.toUInt64 &&& Int64.toUInt64 63)).toInt64) &&& 6148914691236517205)) : Int64).toUInt64 >>> ((2 : Int32).toInt64.toUInt64 &&& Int64.toUInt64 63)).toInt64) &&& 3689348814741910323)) : Int64).toUInt64 >>> ((4 : Int32).toInt64.toUInt64 &&& Int64.toUInt64 63)).toInt64)) &&& 1085102592571150095) : Int64).toUInt64 >>> ((8 : Int32).toInt64.toUInt64 &&& Int64.toUInt64 63)).toInt64)) : Int64).toUInt64 >>> ((16 : Int32).toInt64.toUInt64 &&& Int64.toUInt64 63)).toInt64)) + ((((((((((x - ((((x : Int64).toUInt64 >>> ((1 : Int32).toInt64.toUInt64 &&& Int64.toUInt64 63)).toInt64) &&& 6148914691236517205)) &&& 3689348814741910323) + (((((x - ((((x : Int64).toUInt64 >>> ((1 : Int32).toInt64.toUInt64 &&& Int64.toUInt64 63)).toInt64) &&& 6148914691236517205)) : Int64).toUInt64 >>> ((2 : Int32).toInt64.toUInt64 &&& Int64.toUInt64 63)).toInt64) &&& 3689348814741910323)) + ((((((x - ((((x : Int64).toUInt64 >>> ((1 : Int32).toInt64.toUInt64 &&& Int64.toUInt64 63)).toInt64) &&& 6148914691236517205)) &&& 3689348814741910323) + (((((x - ((((x : Int64).toUInt64 >>> ((1 : Int32).toInt64.toUInt64 &&& Int64.toUInt64 63)).toInt64) &&& 6148914691236517205)) : Int64).toUInt64 >>> ((2 : Int32).toInt64.toUInt64 &&& Int64.toUInt64 63)).toInt64) &&& 3689348814741910323)) : Int64).toUInt64 >>> ((4 : Int32).toInt64.toUInt64 &&& Int64.toUInt64 63)).toInt64)) &&& 1085102592571150095) + ((((((((x - ((((x : Int64).toUInt64 >>> ((1 : Int32).toInt64.toUInt64 &&& Int64.toUInt64 63)).toInt64) &&& 6148914691236517205)) &&& 3689348814741910323) + (((((x - ((((x : Int64).toUInt64 >>> ((1 : Int32).toInt64.toUInt64 &&& Int64.toUInt64 63)).toInt64) &&& 6148914691236517205)) : Int64).toUInt64 >>> ((2 : Int32).toInt64.toUInt64 &&& Int64.toUInt64 63)).toInt64) &&& 3689348814741910323)) + ((((((x - ((((x : Int64).toUInt64 >>> ((1 : Int32).toInt64.toUInt64 &&& Int64.toUInt64 63)).toInt64) &&& 6148914691236517205)) &&& 3689348814741910323) + (((((x - ((((x : Int64).toUInt64 >>> ((1 : Int32).toInt64.toUInt64 &&& Int64.toUInt64 63)).toInt64) &&& 6148914691236517205)) : Int64).toUInt64 >>> ((2 : Int32).toInt64.toUInt64 &&& Int64.toUInt64 63)).toInt64) &&& 3689348814741910323)) : Int64).toUInt64 >>> ((4 : Int32).toInt64.toUInt64 &&& Int64.toUInt64 63)).toInt64)) &&& 1085102592571150095) : Int64).toUInt64 >>> ((8 : Int32).toInt64.toUInt64 &&& Int64.toUInt64 63)).toInt64)) + (((((((((x - ((((x : Int64).toUInt64 >>> ((1 : Int32).toInt64.toUInt64 &&& Int64.toUInt64 63)).toInt64) &&& 6148914691236517205)) &&& 3689348814741910323) + (((((x - ((((x : Int64).toUInt64 >>> ((1 : Int32).toInt64.toUInt64 &&& Int64.toUInt64 63)).toInt64) &&& 6148914691236517205)) : Int64).toUInt64 >>> ((2 : Int32).toInt64.toUInt64 &&& Int64.toUInt64 63)).toInt64) &&& 3689348814741910323)) + ((((((x - ((((x : Int64).toUInt64 >>> ((1 : Int32).toInt64.toUInt64 &&& Int64.toUInt64 63)).toInt64) &&& 6148914691236517205)) &&& 3689348814741910323) + (((((x - ((((x : Int64).toUInt64 >>> ((1 : Int32).toInt64.toUInt64 &&& Int64.toUInt64 63)).toInt64) &&& 6148914691236517205)) : Int64).toUInt64 >>> ((2 : Int32).toInt64.toUInt64 &&& Int64.toUInt64 63)).toInt64) &&& 3689348814741910323)) : Int64).toUInt64 >>> ((4 : Int32).toInt64.toUInt64 &&& Int64.toUInt64 63)).toInt64)) &&& 1085102592571150095) + ((((((((x - ((((x : Int64).toUInt64 >>> ((1 : Int32).toInt64.toUInt64 &&& Int64.toUInt64 63)).toInt64) &&& 6148914691236517205)) &&& 3689348814741910323) + (((((x - ((((x : Int64).toUInt64 >>> ((1 : Int32).toInt64.toUInt64 &&& Int64.toUInt64 63)).toInt64) &&& 6148914691236517205)) : Int64).toUInt64 >>> ((2 : Int32).toInt64.toUInt64 &&& Int64.toUInt64 63)).toInt64) &&& 3689348814741910323)) + ((((((x - ((((x : Int64).toUInt64 >>> ((1 : Int32).toInt64.toUInt64 &&& Int64.toUInt64 63)).toInt64) &&& 6148914691236517205)) &&& 3689348814741910323) + (((((x - ((((x : Int64).toUInt64 >>> ((1 : Int32).toInt64.toUInt64 &&& Int64.toUInt64 63)).toInt64) &&& 6148914691236517205)) : Int64).toUInt64 >>> ((2 : Int32).toInt64.toUInt64 &&& Int64.toUInt64 63)).toInt64) &&& 3689348814741910323)) : Int64).toUInt64 >>> ((4 : Int32).toInt64.toUInt64 &&& Int64.toUInt64 63)).toInt64)) &&& 1085102592571150095) : Int64).toUInt64 >>> ((8 : Int32).toInt64.toUInt64 &&& Int64.toUInt64 63)).toInt64)) : Int64).toUInt64 >>> ((16 : Int32).toInt64.toUInt64 &&& Int64.toUInt64 63)).toInt64)) : Int64).toUInt64 >>> ((32 : Int32).toInt64.toUInt64 &&& Int64.toUInt64 63)).toInt64)) : Int64).toInt32) &&& 127) μ) : w_n 10 gJ13_bitCount_95d88 shX rfX 43 (some .int) R tJ13_bitCount_95d88 uJ13_bitCount_95d88 K 50 0 [some (.long x), none] [] μ :=
  And.intro trivial (h)
set_option maxHeartbeats 4000000 in
theorem vJ13_bitCount_95d88 (x : Int64) (μ : wM) (h : pJ13_bitCount_95d88 x μ) (K : wK) (hK : w_cl 10 gJ13_bitCount_95d88 shX rfX 43 (some .int) (qJ13_bitCount_95d88 x μ) tJ13_bitCount_95d88 K) : K 0 [some (.long x), none] [] μ := by
  refine hK uJ13_bitCount_95d88 50 _ _ _ _ (vcJ13_bitCount_95d88_0 K _ x μ ?_)
  clear hK
  unfold pJ13_bitCount_95d88 at h
  unfold qJ13_bitCount_95d88
  exact ⟨rfl, rfl⟩
set_option maxRecDepth 100000 in
theorem zJ13_bitCount_95d88 (l : Launch) : ∀ (idx : Nat) (S : wS), gJ13_bitCount_95d88 idx = some S → w_Call l 10 idx S 1 shX rfX 43 := by
  intro idx S hS
  unfold gJ13_bitCount_95d88 at hS
  split at hS
  · cases hS
theorem mJ13_bitCount_95d88 (l : Launch) : w_Met l yJ13_bitCount_95d88 cJ13_bitCount_95d88 2 (some .int) 1 shX rfX 43 sJ13_bitCount_95d88.2.2.2.1 sJ13_bitCount_95d88.2.2.2.2 :=
  w_meth (o := 10) (Γ := gJ13_bitCount_95d88) (tb := tJ13_bitCount_95d88) (by decide +kernel) rfl kJ13_bitCount_95d88 rfl (zJ13_bitCount_95d88 l) (fun as μ h => by obtain ⟨x, rfl, h⟩ := h; exact Nat.le_of_ble_eq_true rfl) (fun as μ h K hK => by obtain ⟨x, rfl, h⟩ := h; exact vJ13_bitCount_95d88 x μ h K hK)
set_option maxRecDepth 100000 in
theorem eJ13_bitCount_95d88 : Cond.code yJ13_bitCount_95d88 cJ13_bitCount_95d88 2 (some .int) ∈ w_tbl ∧ Cond.static yJ13_bitCount_95d88 ∈ w_tbl ∧ Cond.initialized yJ13_bitCount_95d88.cls ∈ w_tbl := ⟨by decide +kernel, by decide +kernel, by decide +kernel⟩

/-! X7_within -/
def pX7_within (a : Int32) (b : Int32) (c : Int32) (μ : wM) : Prop := True
def qX7_within (a : Int32) (b : Int32) (c : Int32) (μ : wM) (r : Int32) (μ' : wM) : Prop := r = (w_B01 (w_inB a b c)) ∧ μ' = μ
def sX7_within : wS := (true, false, 3, fun as μ => ∃ a, ∃ b, ∃ c, as = [.int a, .int b, .int c] ∧ pX7_within a b c μ, fun as μ r μ' => match as with
  | [.int a, .int b, .int c] => qX7_within a b c μ r μ'
  | _ => False)
def gX7_within : Nat → Option wS := fun k => match k with
  | _ => none
def uX7_within : Nat → Option (List Nat) := fun _ => none
set_option maxHeartbeats 4000000 in
set_option maxRecDepth 100000 in
theorem vcX7_within_0 (K : wK) (R : Int32 → wM → Prop) (a : Int32) (b : Int32) (c : Int32) (μ : wM) (h : (
    (((a : Int32) < b) → R 0 μ) ∧
    (¬ ((a : Int32) < b) → (
      (((c : Int32) < a) → R 0 μ) ∧
      (¬ ((c : Int32) < a) → R 1 μ))))) : w_n 7 gX7_within shX rfX 43 (some .boolean) R tX7_within uX7_within K 10 0 [some (.int a), some (.int b), some (.int c)] [] μ :=
  And.intro (fun z5 => And.intro (Or.inl rfl) ((h.1 z5))) (fun z6 => And.intro (fun z7 => And.intro (Or.inl rfl) (((h.2 z6).1 z7))) (fun z8 => And.intro (Or.inr rfl) (((h.2 z6).2 z8))))
set_option maxHeartbeats 4000000 in
theorem vX7_within (a : Int32) (b : Int32) (c : Int32) (μ : wM) (h : pX7_within a b c μ) (K : wK) (hK : w_cl 7 gX7_within shX rfX 43 (some .boolean) (qX7_within a b c μ) tX7_within K) : K 0 [some (.int a), some (.int b), some (.int c)] [] μ := by
  refine hK uX7_within 10 _ _ _ _ (vcX7_within_0 K _ a b c μ ?_)
  clear hK
  unfold pX7_within at h
  unfold qX7_within
  refine ⟨fun c1 => ⟨w_B01_f ?_, rfl⟩, fun c1 => ⟨fun c2 => ⟨w_B01_f ?_, rfl⟩, fun c2 => ⟨w_B01_t ?_, rfl⟩⟩⟩
  · rw [w_inB_t]; intro z; exact i_nle.mpr c1 z.1
  · rw [w_inB_t]; intro z; exact i_nle.mpr c2 z.2
  · rw [w_inB_t]; exact ⟨i_nlt.mp c1, i_nlt.mp c2⟩
set_option maxRecDepth 100000 in
theorem zX7_within (l : Launch) : ∀ (idx : Nat) (S : wS), gX7_within idx = some S → w_Call l 7 idx S 1 shX rfX 43 := by
  intro idx S hS
  unfold gX7_within at hS
  split at hS
  · cases hS
theorem mX7_within (l : Launch) : w_Met l yX7_within cX7_within 3 (some .boolean) 1 shX rfX 43 sX7_within.2.2.2.1 sX7_within.2.2.2.2 :=
  w_meth (o := 7) (Γ := gX7_within) (tb := tX7_within) (by decide +kernel) rfl kX7_within rfl (zX7_within l) (fun as μ h => by obtain ⟨a, b, c, rfl, h⟩ := h; exact Nat.le_of_ble_eq_true rfl) (fun as μ h K hK => by obtain ⟨a, b, c, rfl, h⟩ := h; exact vX7_within a b c μ h K hK)
set_option maxRecDepth 100000 in
theorem eX7_within : Cond.code yX7_within cX7_within 3 (some .boolean) ∈ w_tbl ∧ Cond.static yX7_within ∈ w_tbl ∧ Cond.initialized yX7_within.cls ∈ w_tbl := ⟨by decide +kernel, by decide +kernel, by decide +kernel⟩

/-! X7_isMan -/
def pX7_isMan (a : Int32) (μ : wM) : Prop := True
def qX7_isMan (a : Int32) (μ : wM) (r : Int32) (μ' : wM) : Prop := r = (w_B01 (w_inB a 0 9)) ∧ μ' = μ
def sX7_isMan : wS := (true, false, 1, fun as μ => ∃ a, as = [.int a] ∧ pX7_isMan a μ, fun as μ r μ' => match as with
  | [.int a] => qX7_isMan a μ r μ'
  | _ => False)
def gX7_isMan : Nat → Option wS := fun k => match k with
  | 55 => some sX7_within
  | _ => none
def uX7_isMan : Nat → Option (List Nat) := fun _ => none
set_option maxHeartbeats 4000000 in
set_option maxRecDepth 100000 in
theorem vcX7_isMan_0 (K : wK) (R : Int32 → wM → Prop) (a : Int32) (μ : wM) (h : R (w_B01 (w_inB a 0 9)) μ) : w_n 7 gX7_isMan shX rfX 43 (some .boolean) R tX7_isMan uX7_isMan K 6 0 [some (.int a)] [] μ :=
  And.intro (Exists.intro _ (Exists.intro _ (Exists.intro _ (And.intro rfl (trivial))))) (fun _ _ z14 => by obtain ⟨z12, z13⟩ := z14; subst z12; subst z13; exact And.intro (w_B01_bit _) (h))
set_option maxHeartbeats 4000000 in
theorem vX7_isMan (a : Int32) (μ : wM) (h : pX7_isMan a μ) (K : wK) (hK : w_cl 7 gX7_isMan shX rfX 43 (some .boolean) (qX7_isMan a μ) tX7_isMan K) : K 0 [some (.int a)] [] μ := by
  refine hK uX7_isMan 6 _ _ _ _ (vcX7_isMan_0 K _ a μ ?_)
  clear hK
  unfold pX7_isMan at h
  unfold qX7_isMan
  exact ⟨rfl, rfl⟩
set_option maxRecDepth 100000 in
theorem zX7_isMan (l : Launch) : ∀ (idx : Nat) (S : wS), gX7_isMan idx = some S → w_Call l 7 idx S 2 shX rfX 43 := by
  intro idx S hS
  unfold gX7_isMan at hS
  split at hS
  · cases hS
    exact w_callS (mX7_within l) eX7_within.1 (by decide +kernel) eX7_within.2.1 eX7_within.2.2 (by decide +kernel) (by decide) (by decide)
  · cases hS
theorem mX7_isMan (l : Launch) : w_Met l yX7_isMan cX7_isMan 1 (some .boolean) 2 shX rfX 43 sX7_isMan.2.2.2.1 sX7_isMan.2.2.2.2 :=
  w_meth (o := 7) (Γ := gX7_isMan) (tb := tX7_isMan) (by decide +kernel) rfl kX7_isMan rfl (zX7_isMan l) (fun as μ h => by obtain ⟨a, rfl, h⟩ := h; exact Nat.le_of_ble_eq_true rfl) (fun as μ h K hK => by obtain ⟨a, rfl, h⟩ := h; exact vX7_isMan a μ h K hK)
set_option maxRecDepth 100000 in
theorem eX7_isMan : Cond.code yX7_isMan cX7_isMan 1 (some .boolean) ∈ w_tbl ∧ Cond.static yX7_isMan ∈ w_tbl ∧ Cond.initialized yX7_isMan.cls ∈ w_tbl := ⟨by decide +kernel, by decide +kernel, by decide +kernel⟩

/-! X7_isSheet -/
def pX7_isSheet (a : Int32) (μ : wM) : Prop := True
def qX7_isSheet (a : Int32) (μ : wM) (r : Int32) (μ' : wM) : Prop := r = (w_B01 (w_inB a 0 3)) ∧ μ' = μ
def sX7_isSheet : wS := (true, false, 1, fun as μ => ∃ a, as = [.int a] ∧ pX7_isSheet a μ, fun as μ r μ' => match as with
  | [.int a] => qX7_isSheet a μ r μ'
  | _ => False)
def gX7_isSheet : Nat → Option wS := fun k => match k with
  | 55 => some sX7_within
  | _ => none
def uX7_isSheet : Nat → Option (List Nat) := fun _ => none
set_option maxHeartbeats 4000000 in
set_option maxRecDepth 100000 in
theorem vcX7_isSheet_0 (K : wK) (R : Int32 → wM → Prop) (a : Int32) (μ : wM) (h : R (w_B01 (w_inB a 0 3)) μ) : w_n 7 gX7_isSheet shX rfX 43 (some .boolean) R tX7_isSheet uX7_isSheet K 6 0 [some (.int a)] [] μ :=
  And.intro (Exists.intro _ (Exists.intro _ (Exists.intro _ (And.intro rfl (trivial))))) (fun _ _ z20 => by obtain ⟨z18, z19⟩ := z20; subst z18; subst z19; exact And.intro (w_B01_bit _) (h))
set_option maxHeartbeats 4000000 in
theorem vX7_isSheet (a : Int32) (μ : wM) (h : pX7_isSheet a μ) (K : wK) (hK : w_cl 7 gX7_isSheet shX rfX 43 (some .boolean) (qX7_isSheet a μ) tX7_isSheet K) : K 0 [some (.int a)] [] μ := by
  refine hK uX7_isSheet 6 _ _ _ _ (vcX7_isSheet_0 K _ a μ ?_)
  clear hK
  unfold pX7_isSheet at h
  unfold qX7_isSheet
  exact ⟨rfl, rfl⟩
set_option maxRecDepth 100000 in
theorem zX7_isSheet (l : Launch) : ∀ (idx : Nat) (S : wS), gX7_isSheet idx = some S → w_Call l 7 idx S 2 shX rfX 43 := by
  intro idx S hS
  unfold gX7_isSheet at hS
  split at hS
  · cases hS
    exact w_callS (mX7_within l) eX7_within.1 (by decide +kernel) eX7_within.2.1 eX7_within.2.2 (by decide +kernel) (by decide) (by decide)
  · cases hS
theorem mX7_isSheet (l : Launch) : w_Met l yX7_isSheet cX7_isSheet 1 (some .boolean) 2 shX rfX 43 sX7_isSheet.2.2.2.1 sX7_isSheet.2.2.2.2 :=
  w_meth (o := 7) (Γ := gX7_isSheet) (tb := tX7_isSheet) (by decide +kernel) rfl kX7_isSheet rfl (zX7_isSheet l) (fun as μ h => by obtain ⟨a, rfl, h⟩ := h; exact Nat.le_of_ble_eq_true rfl) (fun as μ h K hK => by obtain ⟨a, rfl, h⟩ := h; exact vX7_isSheet a μ h K hK)
set_option maxRecDepth 100000 in
theorem eX7_isSheet : Cond.code yX7_isSheet cX7_isSheet 1 (some .boolean) ∈ w_tbl ∧ Cond.static yX7_isSheet ∈ w_tbl ∧ Cond.initialized yX7_isSheet.cls ∈ w_tbl := ⟨by decide +kernel, by decide +kernel, by decide +kernel⟩

/-! X7_isLane -/
def pX7_isLane (a : Int32) (μ : wM) : Prop := True
def qX7_isLane (a : Int32) (μ : wM) (r : Int32) (μ' : wM) : Prop := r = (w_B01 (w_inB a 0 2)) ∧ μ' = μ
def sX7_isLane : wS := (true, false, 1, fun as μ => ∃ a, as = [.int a] ∧ pX7_isLane a μ, fun as μ r μ' => match as with
  | [.int a] => qX7_isLane a μ r μ'
  | _ => False)
def gX7_isLane : Nat → Option wS := fun k => match k with
  | 55 => some sX7_within
  | _ => none
def uX7_isLane : Nat → Option (List Nat) := fun _ => none
set_option maxHeartbeats 4000000 in
set_option maxRecDepth 100000 in
theorem vcX7_isLane_0 (K : wK) (R : Int32 → wM → Prop) (a : Int32) (μ : wM) (h : R (w_B01 (w_inB a 0 2)) μ) : w_n 7 gX7_isLane shX rfX 43 (some .boolean) R tX7_isLane uX7_isLane K 6 0 [some (.int a)] [] μ :=
  And.intro (Exists.intro _ (Exists.intro _ (Exists.intro _ (And.intro rfl (trivial))))) (fun _ _ z26 => by obtain ⟨z24, z25⟩ := z26; subst z24; subst z25; exact And.intro (w_B01_bit _) (h))
set_option maxHeartbeats 4000000 in
theorem vX7_isLane (a : Int32) (μ : wM) (h : pX7_isLane a μ) (K : wK) (hK : w_cl 7 gX7_isLane shX rfX 43 (some .boolean) (qX7_isLane a μ) tX7_isLane K) : K 0 [some (.int a)] [] μ := by
  refine hK uX7_isLane 6 _ _ _ _ (vcX7_isLane_0 K _ a μ ?_)
  clear hK
  unfold pX7_isLane at h
  unfold qX7_isLane
  exact ⟨rfl, rfl⟩
set_option maxRecDepth 100000 in
theorem zX7_isLane (l : Launch) : ∀ (idx : Nat) (S : wS), gX7_isLane idx = some S → w_Call l 7 idx S 2 shX rfX 43 := by
  intro idx S hS
  unfold gX7_isLane at hS
  split at hS
  · cases hS
    exact w_callS (mX7_within l) eX7_within.1 (by decide +kernel) eX7_within.2.1 eX7_within.2.2 (by decide +kernel) (by decide) (by decide)
  · cases hS
theorem mX7_isLane (l : Launch) : w_Met l yX7_isLane cX7_isLane 1 (some .boolean) 2 shX rfX 43 sX7_isLane.2.2.2.1 sX7_isLane.2.2.2.2 :=
  w_meth (o := 7) (Γ := gX7_isLane) (tb := tX7_isLane) (by decide +kernel) rfl kX7_isLane rfl (zX7_isLane l) (fun as μ h => by obtain ⟨a, rfl, h⟩ := h; exact Nat.le_of_ble_eq_true rfl) (fun as μ h K hK => by obtain ⟨a, rfl, h⟩ := h; exact vX7_isLane a μ h K hK)
set_option maxRecDepth 100000 in
theorem eX7_isLane : Cond.code yX7_isLane cX7_isLane 1 (some .boolean) ∈ w_tbl ∧ Cond.static yX7_isLane ∈ w_tbl ∧ Cond.initialized yX7_isLane.cls ∈ w_tbl := ⟨by decide +kernel, by decide +kernel, by decide +kernel⟩

/-! X7_isAsOf -/
def pX7_isAsOf (a : Int32) (μ : wM) : Prop := True
def qX7_isAsOf (a : Int32) (μ : wM) (r : Int32) (μ' : wM) : Prop := r = (w_B01 (w_inB a 0 (μ 2 5))) ∧ μ' = μ
def sX7_isAsOf : wS := (false, false, 2, fun as μ => ∃ a, as = [.ref 0, .int a] ∧ pX7_isAsOf a μ, fun as μ r μ' => match as with
  | [.ref _, .int a] => qX7_isAsOf a μ r μ'
  | _ => False)
def gX7_isAsOf : Nat → Option wS := fun k => match k with
  | 55 => some sX7_within
  | _ => none
def uX7_isAsOf : Nat → Option (List Nat) := fun _ => none
set_option maxHeartbeats 4000000 in
set_option maxRecDepth 100000 in
theorem vcX7_isAsOf_0 (K : wK) (R : Int32 → wM → Prop) (a : Int32) (μ : wM) (h : R (w_B01 (w_inB a 0 (μ 2 5))) μ) : w_n 7 gX7_isAsOf shX rfX 43 (some .boolean) R tX7_isAsOf uX7_isAsOf K 8 0 [some (.ref 0), some (.int a)] [] μ :=
  And.intro (And.intro (of_decide_eq_true rfl) rfl) (And.intro (And.intro (of_decide_eq_true rfl) rfl) (And.intro (Exists.intro _ (Exists.intro _ (Exists.intro _ (And.intro rfl (trivial))))) (fun _ _ z32 => by obtain ⟨z30, z31⟩ := z32; subst z30; subst z31; exact And.intro (w_B01_bit _) (h))))
set_option maxHeartbeats 4000000 in
theorem vX7_isAsOf (a : Int32) (μ : wM) (h : pX7_isAsOf a μ) (K : wK) (hK : w_cl 7 gX7_isAsOf shX rfX 43 (some .boolean) (qX7_isAsOf a μ) tX7_isAsOf K) : K 0 [some (.ref 0), some (.int a)] [] μ := by
  refine hK uX7_isAsOf 8 _ _ _ _ (vcX7_isAsOf_0 K _ a μ ?_)
  clear hK
  unfold pX7_isAsOf at h
  unfold qX7_isAsOf
  exact ⟨rfl, rfl⟩
set_option maxRecDepth 100000 in
theorem zX7_isAsOf (l : Launch) : ∀ (idx : Nat) (S : wS), gX7_isAsOf idx = some S → w_Call l 7 idx S 2 shX rfX 43 := by
  intro idx S hS
  unfold gX7_isAsOf at hS
  split at hS
  · cases hS
    exact w_callS (mX7_within l) eX7_within.1 (by decide +kernel) eX7_within.2.1 eX7_within.2.2 (by decide +kernel) (by decide) (by decide)
  · cases hS
theorem mX7_isAsOf (l : Launch) : w_Met l yX7_isAsOf cX7_isAsOf 2 (some .boolean) 2 shX rfX 43 sX7_isAsOf.2.2.2.1 sX7_isAsOf.2.2.2.2 :=
  w_meth (o := 7) (Γ := gX7_isAsOf) (tb := tX7_isAsOf) (by decide +kernel) rfl kX7_isAsOf rfl (zX7_isAsOf l) (fun as μ h => by obtain ⟨a, rfl, h⟩ := h; exact Nat.le_of_ble_eq_true rfl) (fun as μ h K hK => by obtain ⟨a, rfl, h⟩ := h; exact vX7_isAsOf a μ h K hK)
set_option maxRecDepth 100000 in
theorem eX7_isAsOf : Cond.code yX7_isAsOf cX7_isAsOf 2 (some .boolean) ∈ w_tbl ∧ Cond.instanceMethod yX7_isAsOf ∈ w_tbl ∧ Cond.selects (w_C 7) yX7_isAsOf yX7_isAsOf ∈ w_tbl ∧ Cond.initialized yX7_isAsOf.cls ∈ w_tbl := ⟨by decide +kernel, by decide +kernel, by decide +kernel, by decide +kernel⟩
theorem rX7_isAsOf : ∀ as μ, sX7_isAsOf.2.2.2.1 as μ → ∃ q as', as = .ref q :: as' ∧ q < 43 ∧ shX q = .inl 7 := by
  intro as μ h
  obtain ⟨a, rfl, h⟩ := h
  exact ⟨_, _, rfl, by decide, rfl⟩

/-! X3_has -/
def pX3_has (e : Int32) (μ : wM) : Prop := True
def qX3_has (e : Int32) (μ : wM) (r : Int32) (μ' : wM) : Prop := r = (w_B01 (w_hasB (μ 1 1) e)) ∧ μ' = μ
def sX3_has : wS := (false, false, 2, fun as μ => ∃ e, as = [.ref 1, .int e] ∧ pX3_has e μ, fun as μ r μ' => match as with
  | [.ref _, .int e] => qX3_has e μ r μ'
  | _ => False)
def gX3_has : Nat → Option wS := fun k => match k with
  | _ => none
def uX3_has : Nat → Option (List Nat) := fun _ => none
set_option maxHeartbeats 4000000 in
set_option maxRecDepth 100000 in
theorem vcX3_has_0 (K : wK) (R : Int32 → wM → Prop) (e : Int32) (μ : wM) (h : (
    (((e : Int32) < 0) → R 0 μ) ∧
    (¬ ((e : Int32) < 0) → (
      ((((μ 1 1) : Int32) ≤ e) → R 0 μ) ∧
      (¬ (((μ 1 1) : Int32) ≤ e) → R 1 μ))))) : w_n 3 gX3_has shX rfX 43 (some .boolean) R tX3_has uX3_has K 10 0 [some (.ref 1), some (.int e)] [] μ :=
  And.intro (fun z37 => And.intro (Or.inl rfl) ((h.1 z37))) (fun z38 => And.intro (And.intro (of_decide_eq_true rfl) rfl) (And.intro (fun z39 => And.intro (Or.inl rfl) (((h.2 z38).1 z39))) (fun z40 => And.intro (Or.inr rfl) (((h.2 z38).2 z40)))))
set_option maxHeartbeats 4000000 in
theorem vX3_has (e : Int32) (μ : wM) (h : pX3_has e μ) (K : wK) (hK : w_cl 3 gX3_has shX rfX 43 (some .boolean) (qX3_has e μ) tX3_has K) : K 0 [some (.ref 1), some (.int e)] [] μ := by
  refine hK uX3_has 10 _ _ _ _ (vcX3_has_0 K _ e μ ?_)
  clear hK
  unfold pX3_has at h
  unfold qX3_has
  refine ⟨fun c1 => ⟨w_B01_f ?_, rfl⟩, fun c1 => ⟨fun c2 => ⟨w_B01_f ?_, rfl⟩, fun c2 => ⟨w_B01_t ?_, rfl⟩⟩⟩
  · rw [w_hasB_t]; intro z; exact i_nle.mpr c1 z.1
  · rw [w_hasB_t]; intro z; exact i_nlt.mpr c2 z.2
  · rw [w_hasB_t]; exact ⟨i_nlt.mp c1, i_nle.mp c2⟩
set_option maxRecDepth 100000 in
theorem zX3_has (l : Launch) : ∀ (idx : Nat) (S : wS), gX3_has idx = some S → w_Call l 3 idx S 1 shX rfX 43 := by
  intro idx S hS
  unfold gX3_has at hS
  split at hS
  · cases hS
theorem mX3_has (l : Launch) : w_Met l yX3_has cX3_has 2 (some .boolean) 1 shX rfX 43 sX3_has.2.2.2.1 sX3_has.2.2.2.2 :=
  w_meth (o := 3) (Γ := gX3_has) (tb := tX3_has) (by decide +kernel) rfl kX3_has rfl (zX3_has l) (fun as μ h => by obtain ⟨e, rfl, h⟩ := h; exact Nat.le_of_ble_eq_true rfl) (fun as μ h K hK => by obtain ⟨e, rfl, h⟩ := h; exact vX3_has e μ h K hK)
set_option maxRecDepth 100000 in
theorem eX3_has : Cond.code yX3_has cX3_has 2 (some .boolean) ∈ w_tbl ∧ Cond.instanceMethod yX3_has ∈ w_tbl ∧ Cond.selects (w_C 3) yX3_has yX3_has ∈ w_tbl ∧ Cond.initialized yX3_has.cls ∈ w_tbl := ⟨by decide +kernel, by decide +kernel, by decide +kernel, by decide +kernel⟩
theorem rX3_has : ∀ as μ, sX3_has.2.2.2.1 as μ → ∃ q as', as = .ref q :: as' ∧ q < 43 ∧ shX q = .inl 3 := by
  intro as μ h
  obtain ⟨e, rfl, h⟩ := h
  exact ⟨_, _, rfl, by decide, rfl⟩

/-! X3_isFull -/
def pX3_isFull (μ : wM) : Prop := True
def qX3_isFull (μ : wM) (r : Int32) (μ' : wM) : Prop := r = (w_B01 (decide (8 ≤ μ 1 1))) ∧ μ' = μ
def sX3_isFull : wS := (false, false, 1, fun as μ => as = [.ref 1] ∧ pX3_isFull μ, fun as μ r μ' => match as with
  | [.ref _] => qX3_isFull μ r μ'
  | _ => False)
def gX3_isFull : Nat → Option wS := fun k => match k with
  | _ => none
def uX3_isFull : Nat → Option (List Nat) := fun _ => none
set_option maxHeartbeats 4000000 in
set_option maxRecDepth 100000 in
theorem vcX3_isFull_0 (K : wK) (R : Int32 → wM → Prop) (μ : wM) (h : (
    ((((μ 1 1) : Int32) < 8) → R 0 μ) ∧
    (¬ (((μ 1 1) : Int32) < 8) → R 1 μ))) : w_n 3 gX3_isFull shX rfX 43 (some .boolean) R tX3_isFull uX3_isFull K 8 0 [some (.ref 1)] [] μ :=
  And.intro (And.intro (of_decide_eq_true rfl) rfl) (And.intro (fun z43 => And.intro (Or.inl rfl) ((h.1 z43))) (fun z44 => And.intro (Or.inr rfl) ((h.2 z44))))
set_option maxHeartbeats 4000000 in
theorem vX3_isFull (μ : wM) (h : pX3_isFull μ) (K : wK) (hK : w_cl 3 gX3_isFull shX rfX 43 (some .boolean) (qX3_isFull μ) tX3_isFull K) : K 0 [some (.ref 1)] [] μ := by
  refine hK uX3_isFull 8 _ _ _ _ (vcX3_isFull_0 K _ μ ?_)
  clear hK
  unfold pX3_isFull at h
  unfold qX3_isFull
  refine ⟨fun c => ⟨w_B01_f ?_, rfl⟩, fun c => ⟨w_B01_t ?_, rfl⟩⟩
  · simp only [decide_eq_true_eq]; exact i_nle.mpr c
  · simp only [decide_eq_true_eq]; exact i_nlt.mp c
set_option maxRecDepth 100000 in
theorem zX3_isFull (l : Launch) : ∀ (idx : Nat) (S : wS), gX3_isFull idx = some S → w_Call l 3 idx S 1 shX rfX 43 := by
  intro idx S hS
  unfold gX3_isFull at hS
  split at hS
  · cases hS
theorem mX3_isFull (l : Launch) : w_Met l yX3_isFull cX3_isFull 1 (some .boolean) 1 shX rfX 43 sX3_isFull.2.2.2.1 sX3_isFull.2.2.2.2 :=
  w_meth (o := 3) (Γ := gX3_isFull) (tb := tX3_isFull) (by decide +kernel) rfl kX3_isFull rfl (zX3_isFull l) (fun as μ h => by obtain ⟨rfl, h⟩ := h; exact Nat.le_of_ble_eq_true rfl) (fun as μ h K hK => by obtain ⟨rfl, h⟩ := h; exact vX3_isFull  μ h K hK)
set_option maxRecDepth 100000 in
theorem eX3_isFull : Cond.code yX3_isFull cX3_isFull 1 (some .boolean) ∈ w_tbl ∧ Cond.instanceMethod yX3_isFull ∈ w_tbl ∧ Cond.selects (w_C 3) yX3_isFull yX3_isFull ∈ w_tbl ∧ Cond.initialized yX3_isFull.cls ∈ w_tbl := ⟨by decide +kernel, by decide +kernel, by decide +kernel, by decide +kernel⟩
theorem rX3_isFull : ∀ as μ, sX3_isFull.2.2.2.1 as μ → ∃ q as', as = .ref q :: as' ∧ q < 43 ∧ shX q = .inl 3 := by
  intro as μ h
  obtain ⟨rfl, h⟩ := h
  exact ⟨_, _, rfl, by decide, rfl⟩

/-! X3_isLaid -/
def pX3_isLaid (e : Int32) (μ : wM) : Prop := True
def qX3_isLaid (e : Int32) (μ : wM) (r : Int32) (μ' : wM) : Prop := r = (w_B01 (w_bt (μ 1 8) e)) ∧ μ' = μ
def sX3_isLaid : wS := (false, false, 2, fun as μ => ∃ e, as = [.ref 1, .int e] ∧ pX3_isLaid e μ, fun as μ r μ' => match as with
  | [.ref _, .int e] => qX3_isLaid e μ r μ'
  | _ => False)
def gX3_isLaid : Nat → Option wS := fun k => match k with
  | _ => none
def uX3_isLaid : Nat → Option (List Nat) := fun _ => none
set_option maxHeartbeats 4000000 in
set_option maxRecDepth 100000 in
theorem vcX3_isLaid_0 (K : wK) (R : Int32 → wM → Prop) (e : Int32) (μ : wM) (h : (
    ((((((μ 1 8) >>> (e &&& 31)) &&& 1) : Int32) = 1) → R 1 μ) ∧
    (¬ (((((μ 1 8) >>> (e &&& 31)) &&& 1) : Int32) = 1) → R 0 μ))) : w_n 3 gX3_isLaid shX rfX 43 (some .boolean) R tX3_isLaid uX3_isLaid K 12 0 [some (.ref 1), some (.int e)] [] μ :=
  And.intro (And.intro (of_decide_eq_true rfl) rfl) (And.intro (fun z47 => And.intro (Or.inr rfl) ((h.1 z47))) (fun z48 => And.intro (Or.inl rfl) ((h.2 z48))))
set_option maxHeartbeats 4000000 in
theorem vX3_isLaid (e : Int32) (μ : wM) (h : pX3_isLaid e μ) (K : wK) (hK : w_cl 3 gX3_isLaid shX rfX 43 (some .boolean) (qX3_isLaid e μ) tX3_isLaid K) : K 0 [some (.ref 1), some (.int e)] [] μ := by
  refine hK uX3_isLaid 12 _ _ _ _ (vcX3_isLaid_0 K _ e μ ?_)
  clear hK
  unfold pX3_isLaid at h
  unfold qX3_isLaid
  repeat' (first | apply And.intro | intro)
  all_goals (first | rfl | assumption | (simp_all [w_bt, w_B01]; done) | skip)
set_option maxRecDepth 100000 in
theorem zX3_isLaid (l : Launch) : ∀ (idx : Nat) (S : wS), gX3_isLaid idx = some S → w_Call l 3 idx S 1 shX rfX 43 := by
  intro idx S hS
  unfold gX3_isLaid at hS
  split at hS
  · cases hS
theorem mX3_isLaid (l : Launch) : w_Met l yX3_isLaid cX3_isLaid 2 (some .boolean) 1 shX rfX 43 sX3_isLaid.2.2.2.1 sX3_isLaid.2.2.2.2 :=
  w_meth (o := 3) (Γ := gX3_isLaid) (tb := tX3_isLaid) (by decide +kernel) rfl kX3_isLaid rfl (zX3_isLaid l) (fun as μ h => by obtain ⟨e, rfl, h⟩ := h; exact Nat.le_of_ble_eq_true rfl) (fun as μ h K hK => by obtain ⟨e, rfl, h⟩ := h; exact vX3_isLaid e μ h K hK)
set_option maxRecDepth 100000 in
theorem eX3_isLaid : Cond.code yX3_isLaid cX3_isLaid 2 (some .boolean) ∈ w_tbl ∧ Cond.instanceMethod yX3_isLaid ∈ w_tbl ∧ Cond.selects (w_C 3) yX3_isLaid yX3_isLaid ∈ w_tbl ∧ Cond.initialized yX3_isLaid.cls ∈ w_tbl := ⟨by decide +kernel, by decide +kernel, by decide +kernel, by decide +kernel⟩
theorem rX3_isLaid : ∀ as μ, sX3_isLaid.2.2.2.1 as μ → ∃ q as', as = .ref q :: as' ∧ q < 43 ∧ shX q = .inl 3 := by
  intro as μ h
  obtain ⟨e, rfl, h⟩ := h
  exact ⟨_, _, rfl, by decide, rfl⟩

/-! X3_add -/
def pX3_add (k : Int32) (p : Int32) (s : Int32) (μ : wM) : Prop := vp_in (μ 1 1) 8
def qX3_add (k : Int32) (p : Int32) (s : Int32) (μ : wM) (r : Int32) (μ' : wM) : Prop := r = μ ((μ 1 1).toNatClampNeg + 27) 0 ∧ μ' = w_up (w_up (w_up (w_up μ ((μ 1 1).toNatClampNeg + 27) 1 k) ((μ 1 1).toNatClampNeg + 27) 2 p) ((μ 1 1).toNatClampNeg + 27) 3 s) 1 1 (μ 1 1 + 1)
def sX3_add : wS := (false, false, 4, fun as μ => ∃ k, ∃ p, ∃ s, as = [.ref 1, .int k, .int p, .int s] ∧ pX3_add k p s μ, fun as μ r μ' => match as with
  | [.ref _, .int k, .int p, .int s] => qX3_add k p s μ r μ'
  | _ => False)
def gX3_add : Nat → Option wS := fun k => match k with
  | _ => none
def uX3_add : Nat → Option (List Nat) := fun _ => none
set_option maxHeartbeats 4000000 in
set_option maxRecDepth 100000 in
theorem vcX3_add_0 (K : wK) (R : Int32 → wM → Prop) (k : Int32) (p : Int32) (s : Int32) (μ : wM) (h : (vp_in (μ 1 1) 8) ∧ R ((w_up (w_up (w_up (w_up μ (Int32.toNatClampNeg (μ 1 1) + 27) 1 k) (Int32.toNatClampNeg (μ 1 1) + 27) 2 p) (Int32.toNatClampNeg (μ 1 1) + 27) 3 s) 1 1 (((w_up (w_up (w_up μ (Int32.toNatClampNeg (μ 1 1) + 27) 1 k) (Int32.toNatClampNeg (μ 1 1) + 27) 2 p) (Int32.toNatClampNeg (μ 1 1) + 27) 3 s) 1 1) + 1)) (Int32.toNatClampNeg (μ 1 1) + 27) 0) (w_up (w_up (w_up (w_up μ (Int32.toNatClampNeg (μ 1 1) + 27) 1 k) (Int32.toNatClampNeg (μ 1 1) + 27) 2 p) (Int32.toNatClampNeg (μ 1 1) + 27) 3 s) 1 1 (((w_up (w_up (w_up μ (Int32.toNatClampNeg (μ 1 1) + 27) 1 k) (Int32.toNatClampNeg (μ 1 1) + 27) 2 p) (Int32.toNatClampNeg (μ 1 1) + 27) 3 s) 1 1) + 1))) : w_n 3 gX3_add shX rfX 43 (some .int) R tX3_add uX3_add K 25 0 [some (.ref 1), some (.int k), some (.int p), some (.int s), none] [] μ :=
  And.intro (And.intro (of_decide_eq_true rfl) rfl) (And.intro (And.intro (of_decide_eq_true rfl) rfl) (And.intro (Or.inl (And.intro (of_decide_eq_true rfl) (Exists.intro _ (And.intro rfl (h.1))))) (And.intro (And.intro (ev_ok (h.1)).1 (And.intro (ev_ok (h.1)).2 (trivial))) (And.intro (And.intro (ev_ok (h.1)).1 (And.intro (ev_ok (h.1)).2 (trivial))) (And.intro (And.intro (ev_ok (h.1)).1 (And.intro (ev_ok (h.1)).2 (trivial))) (And.intro (And.intro (of_decide_eq_true rfl) rfl) (And.intro (And.intro (of_decide_eq_true rfl) (And.intro rfl (trivial))) (And.intro (ev_ok (h.1)) (And.intro trivial (h.2))))))))))
set_option maxHeartbeats 4000000 in
theorem vX3_add (k : Int32) (p : Int32) (s : Int32) (μ : wM) (h : pX3_add k p s μ) (K : wK) (hK : w_cl 3 gX3_add shX rfX 43 (some .int) (qX3_add k p s μ) tX3_add K) : K 0 [some (.ref 1), some (.int k), some (.int p), some (.int s), none] [] μ := by
  refine hK uX3_add 25 _ _ _ _ (vcX3_add_0 K _ k p s μ ?_)
  clear hK
  unfold pX3_add at h
  unfold qX3_add
  refine ⟨h, ?_, ?_⟩
  · simp [w_up]
  · have e : ∀ x : Nat, ¬ 1 = x + 27 := fun x => by omega
    simp [w_up, e]
set_option maxRecDepth 100000 in
theorem zX3_add (l : Launch) : ∀ (idx : Nat) (S : wS), gX3_add idx = some S → w_Call l 3 idx S 1 shX rfX 43 := by
  intro idx S hS
  unfold gX3_add at hS
  split at hS
  · cases hS
theorem mX3_add (l : Launch) : w_Met l yX3_add cX3_add 5 (some .int) 1 shX rfX 43 sX3_add.2.2.2.1 sX3_add.2.2.2.2 :=
  w_meth (o := 3) (Γ := gX3_add) (tb := tX3_add) (by decide +kernel) rfl kX3_add rfl (zX3_add l) (fun as μ h => by obtain ⟨k, p, s, rfl, h⟩ := h; exact Nat.le_of_ble_eq_true rfl) (fun as μ h K hK => by obtain ⟨k, p, s, rfl, h⟩ := h; exact vX3_add k p s μ h K hK)
set_option maxRecDepth 100000 in
theorem eX3_add : Cond.code yX3_add cX3_add 5 (some .int) ∈ w_tbl ∧ Cond.instanceMethod yX3_add ∈ w_tbl ∧ Cond.selects (w_C 3) yX3_add yX3_add ∈ w_tbl ∧ Cond.initialized yX3_add.cls ∈ w_tbl := ⟨by decide +kernel, by decide +kernel, by decide +kernel, by decide +kernel⟩
theorem rX3_add : ∀ as μ, sX3_add.2.2.2.1 as μ → ∃ q as', as = .ref q :: as' ∧ q < 43 ∧ shX q = .inl 3 := by
  intro as μ h
  obtain ⟨k, p, s, rfl, h⟩ := h
  exact ⟨_, _, rfl, by decide, rfl⟩

/-! X3_pair -/
def pX3_pair (e : Int32) (o : Int32) (μ : wM) : Prop := vp_in o 8
def qX3_pair (e : Int32) (o : Int32) (μ : wM) (r : Int32) (μ' : wM) : Prop := r = μ 1 4 + 1 ∧ μ' = w_up (w_up μ 11 o.toNatClampNeg (μ 11 o.toNatClampNeg ||| ((1 : Int32) <<< (e &&& 31)))) 1 4 (μ 1 4 + 1)
def sX3_pair : wS := (false, false, 3, fun as μ => ∃ e, ∃ o, as = [.ref 1, .int e, .int o] ∧ pX3_pair e o μ, fun as μ r μ' => match as with
  | [.ref _, .int e, .int o] => qX3_pair e o μ r μ'
  | _ => False)
def gX3_pair : Nat → Option wS := fun k => match k with
  | _ => none
def uX3_pair : Nat → Option (List Nat) := fun _ => none
set_option maxHeartbeats 4000000 in
set_option maxRecDepth 100000 in
theorem vcX3_pair_0 (K : wK) (R : Int32 → wM → Prop) (e : Int32) (o : Int32) (μ : wM) (h : (vp_in o 8) ∧ R ((μ 1 4) + 1) (w_up (w_up μ 11 (o : Int32).toNatClampNeg ((μ 11 (o : Int32).toNatClampNeg) ||| (1 <<< (e &&& 31)))) 1 4 ((μ 1 4) + 1))) : w_n 3 gX3_pair shX rfX 43 (some .int) R tX3_pair uX3_pair K 20 0 [some (.ref 1), some (.int e), some (.int o)] [] μ :=
  And.intro (And.intro (of_decide_eq_true rfl) rfl) (And.intro (And.intro (of_decide_eq_true rfl) (Exists.intro _ (And.intro rfl (h.1)))) (And.intro (And.intro (of_decide_eq_true rfl) (Exists.intro _ (And.intro rfl (h.1)))) (And.intro (And.intro (of_decide_eq_true rfl) rfl) (And.intro (And.intro (of_decide_eq_true rfl) (And.intro rfl (trivial))) (And.intro (And.intro (of_decide_eq_true rfl) rfl) (And.intro trivial (h.2)))))))
set_option maxHeartbeats 4000000 in
theorem vX3_pair (e : Int32) (o : Int32) (μ : wM) (h : pX3_pair e o μ) (K : wK) (hK : w_cl 3 gX3_pair shX rfX 43 (some .int) (qX3_pair e o μ) tX3_pair K) : K 0 [some (.ref 1), some (.int e), some (.int o)] [] μ := by
  refine hK uX3_pair 20 _ _ _ _ (vcX3_pair_0 K _ e o μ ?_)
  clear hK
  unfold pX3_pair at h
  unfold qX3_pair
  exact ⟨h, rfl, rfl⟩
set_option maxRecDepth 100000 in
theorem zX3_pair (l : Launch) : ∀ (idx : Nat) (S : wS), gX3_pair idx = some S → w_Call l 3 idx S 1 shX rfX 43 := by
  intro idx S hS
  unfold gX3_pair at hS
  split at hS
  · cases hS
theorem mX3_pair (l : Launch) : w_Met l yX3_pair cX3_pair 3 (some .int) 1 shX rfX 43 sX3_pair.2.2.2.1 sX3_pair.2.2.2.2 :=
  w_meth (o := 3) (Γ := gX3_pair) (tb := tX3_pair) (by decide +kernel) rfl kX3_pair rfl (zX3_pair l) (fun as μ h => by obtain ⟨e, o, rfl, h⟩ := h; exact Nat.le_of_ble_eq_true rfl) (fun as μ h K hK => by obtain ⟨e, o, rfl, h⟩ := h; exact vX3_pair e o μ h K hK)
set_option maxRecDepth 100000 in
theorem eX3_pair : Cond.code yX3_pair cX3_pair 3 (some .int) ∈ w_tbl ∧ Cond.instanceMethod yX3_pair ∈ w_tbl ∧ Cond.selects (w_C 3) yX3_pair yX3_pair ∈ w_tbl ∧ Cond.initialized yX3_pair.cls ∈ w_tbl := ⟨by decide +kernel, by decide +kernel, by decide +kernel, by decide +kernel⟩
theorem rX3_pair : ∀ as μ, sX3_pair.2.2.2.1 as μ → ∃ q as', as = .ref q :: as' ∧ q < 43 ∧ shX q = .inl 3 := by
  intro as μ h
  obtain ⟨e, o, rfl, h⟩ := h
  exact ⟨_, _, rfl, by decide, rfl⟩

/-! X1_put -/
def pX1_put (q : Nat) (man : Int32) (is : Int32) (μ : wM) : Prop := q < 43 ∧ shX q = .inl 1 ∧ True
def qX1_put (q : Nat) (man : Int32) (is : Int32) (μ : wM) (r : Int32) (μ' : wM) : Prop := r = w_bc (w_men (μ q 4) man is) ∧ μ' = w_up μ q 4 (w_men (μ q 4) man is)
def sX1_put : wS := (false, false, 3, fun as μ => ∃ q, ∃ man, ∃ is, as = [.ref q, .int man, .int is] ∧ pX1_put q man is μ, fun as μ r μ' => match as with
  | [.ref q, .int man, .int is] => qX1_put q man is μ r μ'
  | _ => False)
def gX1_put : Nat → Option wS := fun k => match k with
  | 24 => some sJ6_bitCount_0f7a4
  | _ => none
def uX1_put : Nat → Option (List Nat) := fun _ => none
set_option maxHeartbeats 4000000 in
set_option maxRecDepth 100000 in
theorem vcX1_put_0 (K : wK) (R : Int32 → wM → Prop) (q : Nat) (man : Int32) (is : Int32) (μ : wM) (h : (
    (((is : Int32) = 0) → (q < 43 ∧ shX q = .inl 1) ∧ R (w_bc ((w_up μ q 4 ((μ q 4) &&& ((1 <<< (man &&& 31)) ^^^ (-1)))) q 4)) (w_up μ q 4 ((μ q 4) &&& ((1 <<< (man &&& 31)) ^^^ (-1))))) ∧
    (¬ ((is : Int32) = 0) → (q < 43 ∧ shX q = .inl 1) ∧ R (w_bc ((w_up μ q 4 ((μ q 4) ||| (1 <<< (man &&& 31)))) q 4)) (w_up μ q 4 ((μ q 4) ||| (1 <<< (man &&& 31))))))) : w_n 1 gX1_put shX rfX 43 (some .int) R tX1_put uX1_put K 17 0 [some (.ref q), some (.int man), some (.int is)] [] μ :=
  And.intro (fun z57 => And.intro ((h.1 z57).1) (And.intro (And.intro ((h.1 z57).1).1 (And.intro ((h.1 z57).1).2 (trivial))) (And.intro ((h.1 z57).1) (And.intro (Exists.intro _ (And.intro rfl (trivial))) (fun _ _ z61 => by obtain ⟨z59, z60⟩ := z61; subst z59; subst z60; exact And.intro trivial ((h.1 z57).2)))))) (fun z58 => And.intro ((h.2 z58).1) (And.intro (And.intro ((h.2 z58).1).1 (And.intro ((h.2 z58).1).2 (trivial))) (And.intro ((h.2 z58).1) (And.intro (Exists.intro _ (And.intro rfl (trivial))) (fun _ _ z64 => by obtain ⟨z62, z63⟩ := z64; subst z62; subst z63; exact And.intro trivial ((h.2 z58).2))))))
set_option maxHeartbeats 4000000 in
theorem vX1_put (q : Nat) (man : Int32) (is : Int32) (μ : wM) (h : pX1_put q man is μ) (K : wK) (hK : w_cl 1 gX1_put shX rfX 43 (some .int) (qX1_put q man is μ) tX1_put K) : K 0 [some (.ref q), some (.int man), some (.int is)] [] μ := by
  refine hK uX1_put 17 _ _ _ _ (vcX1_put_0 K _ q man is μ ?_)
  clear hK
  unfold pX1_put at h
  unfold qX1_put
  have hq : q < 43 ∧ shX q = .inl 1 := ⟨h.1, h.2.1⟩
  unfold w_men
  refine ⟨fun c => ⟨hq, ?_⟩, fun c => ⟨hq, ?_⟩⟩
  · simp [c, w_up]
  · simp [c, w_up]
set_option maxRecDepth 100000 in
theorem zX1_put (l : Launch) : ∀ (idx : Nat) (S : wS), gX1_put idx = some S → w_Call l 1 idx S 2 shX rfX 43 := by
  intro idx S hS
  unfold gX1_put at hS
  split at hS
  · cases hS
    exact w_callS (mJ6_bitCount_0f7a4 l) eJ6_bitCount_0f7a4.1 (by decide +kernel) eJ6_bitCount_0f7a4.2.1 eJ6_bitCount_0f7a4.2.2 (by decide +kernel) (by decide) (by decide)
  · cases hS
theorem mX1_put (l : Launch) : w_Met l yX1_put cX1_put 3 (some .int) 2 shX rfX 43 sX1_put.2.2.2.1 sX1_put.2.2.2.2 :=
  w_meth (o := 1) (Γ := gX1_put) (tb := tX1_put) (by decide +kernel) rfl kX1_put rfl (zX1_put l) (fun as μ h => by obtain ⟨q, man, is, rfl, h⟩ := h; exact Nat.le_of_ble_eq_true rfl) (fun as μ h K hK => by obtain ⟨q, man, is, rfl, h⟩ := h; exact vX1_put q man is μ h K hK)
set_option maxRecDepth 100000 in
theorem eX1_put : Cond.code yX1_put cX1_put 3 (some .int) ∈ w_tbl ∧ Cond.instanceMethod yX1_put ∈ w_tbl ∧ Cond.selects (w_C 1) yX1_put yX1_put ∈ w_tbl ∧ Cond.initialized yX1_put.cls ∈ w_tbl := ⟨by decide +kernel, by decide +kernel, by decide +kernel, by decide +kernel⟩
theorem rX1_put : ∀ as μ, sX1_put.2.2.2.1 as μ → ∃ q as', as = .ref q :: as' ∧ q < 43 ∧ shX q = .inl 1 := by
  intro as μ h
  obtain ⟨q, man, is, rfl, h⟩ := h
  exact ⟨_, _, rfl, h.1, h.2.1⟩

/-! X1_hasMan -/
def pX1_hasMan (q : Nat) (man : Int32) (μ : wM) : Prop := q < 43 ∧ shX q = .inl 1 ∧ True
def qX1_hasMan (q : Nat) (man : Int32) (μ : wM) (r : Int32) (μ' : wM) : Prop := r = (w_B01 (w_hm (μ q 4) man)) ∧ μ' = μ
def sX1_hasMan : wS := (false, false, 2, fun as μ => ∃ q, ∃ man, as = [.ref q, .int man] ∧ pX1_hasMan q man μ, fun as μ r μ' => match as with
  | [.ref q, .int man] => qX1_hasMan q man μ r μ'
  | _ => False)
def gX1_hasMan : Nat → Option wS := fun k => match k with
  | 30 => some sX7_within
  | _ => none
def uX1_hasMan : Nat → Option (List Nat) := fun _ => none
set_option maxHeartbeats 4000000 in
set_option maxRecDepth 100000 in
theorem vcX1_hasMan_0 (K : wK) (R : Int32 → wM → Prop) (q : Nat) (man : Int32) (μ : wM) (h : (
    ((w_inB man 0 9) = false → R 0 μ) ∧
    ((w_inB man 0 9) = true → (q < 43 ∧ shX q = .inl 1) ∧ (
      ((((((μ q 4) >>> (man &&& 31)) &&& 1) : Int32) = 1) → R 1 μ) ∧
      (¬ (((((μ q 4) >>> (man &&& 31)) &&& 1) : Int32) = 1) → R 0 μ))))) : w_n 1 gX1_hasMan shX rfX 43 (some .boolean) R tX1_hasMan uX1_hasMan K 17 0 [some (.ref q), some (.int man)] [] μ :=
  And.intro (Exists.intro _ (Exists.intro _ (Exists.intro _ (And.intro rfl (trivial))))) (fun _ _ z74 => by obtain ⟨z72, z73⟩ := z74; subst z72; subst z73; exact And.intro (fun z75 => And.intro (Or.inl rfl) ((h.1 (w_B01_0.mp z75)))) (fun z76 => And.intro ((h.2 (w_B01_n.mp z76)).1) (And.intro (fun z77 => And.intro (Or.inr rfl) (((h.2 (w_B01_n.mp z76)).2.1 z77))) (fun z78 => And.intro (Or.inl rfl) (((h.2 (w_B01_n.mp z76)).2.2 z78))))))
set_option maxHeartbeats 4000000 in
theorem vX1_hasMan (q : Nat) (man : Int32) (μ : wM) (h : pX1_hasMan q man μ) (K : wK) (hK : w_cl 1 gX1_hasMan shX rfX 43 (some .boolean) (qX1_hasMan q man μ) tX1_hasMan K) : K 0 [some (.ref q), some (.int man)] [] μ := by
  refine hK uX1_hasMan 17 _ _ _ _ (vcX1_hasMan_0 K _ q man μ ?_)
  clear hK
  unfold pX1_hasMan at h
  unfold qX1_hasMan
  have hq : q < 43 ∧ shX q = .inl 1 := ⟨h.1, h.2.1⟩
  repeat' (first | apply And.intro | intro)
  all_goals (first | rfl | assumption | (simp_all [w_hm, w_bt, w_B01]; done) | skip)
set_option maxRecDepth 100000 in
theorem zX1_hasMan (l : Launch) : ∀ (idx : Nat) (S : wS), gX1_hasMan idx = some S → w_Call l 1 idx S 2 shX rfX 43 := by
  intro idx S hS
  unfold gX1_hasMan at hS
  split at hS
  · cases hS
    exact w_callSN (mX7_within l) eX7_within.1 (fun U hU => hU.1) eX7_within.2.1 eX7_within.2.2 (by decide +kernel) (by decide) (by decide)
  · cases hS
theorem mX1_hasMan (l : Launch) : w_Met l yX1_hasMan cX1_hasMan 2 (some .boolean) 2 shX rfX 43 sX1_hasMan.2.2.2.1 sX1_hasMan.2.2.2.2 :=
  w_meth (o := 1) (Γ := gX1_hasMan) (tb := tX1_hasMan) (by decide +kernel) rfl kX1_hasMan rfl (zX1_hasMan l) (fun as μ h => by obtain ⟨q, man, rfl, h⟩ := h; exact Nat.le_of_ble_eq_true rfl) (fun as μ h K hK => by obtain ⟨q, man, rfl, h⟩ := h; exact vX1_hasMan q man μ h K hK)
set_option maxRecDepth 100000 in
theorem eX1_hasMan : Cond.code yX1_hasMan cX1_hasMan 2 (some .boolean) ∈ w_tbl ∧ Cond.instanceMethod yX1_hasMan ∈ w_tbl ∧ Cond.selects (w_C 1) yX1_hasMan yX1_hasMan ∈ w_tbl ∧ Cond.initialized yX1_hasMan.cls ∈ w_tbl := ⟨by decide +kernel, by decide +kernel, by decide +kernel, by decide +kernel⟩
theorem rX1_hasMan : ∀ as μ, sX1_hasMan.2.2.2.1 as μ → ∃ q as', as = .ref q :: as' ∧ q < 43 ∧ shX q = .inl 1 := by
  intro as μ h
  obtain ⟨q, man, rfl, h⟩ := h
  exact ⟨_, _, rfl, h.1, h.2.1⟩

def w_tk (k men man a b : Int32) : Bool := w_hm men man && (if k = 0 then w_inB a (-1) 9999 && w_inB b (-20) 20 else if k = 1 then w_inB a 1 9999 && decide (b = 0) else w_inB a 0 2 && w_inB b 1 9)
def w_fair (g sl x w : Int32) : Int32 := if x < 0 then -1 else ((x.toInt64 * ((1000 - sl) - 2 * w).toInt64) * g.toInt64 / 10000000).toInt32
def w_race (way x y : Int32) : Int32 := if way - y < 1 then x else x * way / (way - y)
/-! X1_takes -/
def pX1_takes (q : Nat) (man : Int32) (a : Int32) (b : Int32) (μ : wM) : Prop := q < 43 ∧ shX q = .inl 1 ∧ True
def qX1_takes (q : Nat) (man : Int32) (a : Int32) (b : Int32) (μ : wM) (r : Int32) (μ' : wM) : Prop := r = (w_B01 (w_tk (μ q 1) (μ q 4) man a b)) ∧ μ' = μ
def sX1_takes : wS := (false, false, 4, fun as μ => ∃ q, ∃ man, ∃ a, ∃ b, as = [.ref q, .int man, .int a, .int b] ∧ pX1_takes q man a b μ, fun as μ r μ' => match as with
  | [.ref q, .int man, .int a, .int b] => qX1_takes q man a b μ r μ'
  | _ => False)
def gX1_takes : Nat → Option wS := fun k => match k with
  | 30 => some sX7_within
  | 34 => some sX1_hasMan
  | _ => none
def uX1_takes : Nat → Option (List Nat) := fun _ => none
set_option maxHeartbeats 4000000 in
set_option maxRecDepth 100000 in
theorem vcX1_takes_0 (K : wK) (R : Int32 → wM → Prop) (q : Nat) (man : Int32) (a : Int32) (b : Int32) (μ : wM) (h : pX1_hasMan q man μ ∧ (
    ((w_hm (μ q 4) man) = false → R 0 μ) ∧
    ((w_hm (μ q 4) man) = true → (q < 43 ∧ shX q = .inl 1) ∧ (
      ((((μ q 1) : Int32) = 0) → (
        ((w_inB a (-1) 9999) = false → R 0 μ) ∧
        ((w_inB a (-1) 9999) = true → (
          ((w_inB b (-20) 20) = false → R 0 μ) ∧
          ((w_inB b (-20) 20) = true → R 1 μ))))) ∧
      (¬ (((μ q 1) : Int32) = 0) → (
        ((((μ q 1) : Int32) = 1) → (
          ((w_inB a 1 9999) = false → R 0 μ) ∧
          ((w_inB a 1 9999) = true → (
            (((b : Int32) = 0) → R 1 μ) ∧
            (¬ ((b : Int32) = 0) → R 0 μ))))) ∧
        (¬ (((μ q 1) : Int32) = 1) → (
          ((w_inB a 0 2) = false → R 0 μ) ∧
          ((w_inB a 0 2) = true → (
            ((w_inB b 1 9) = false → R 0 μ) ∧
            ((w_inB b 1 9) = true → R 1 μ))))))))))) : w_n 1 gX1_takes shX rfX 43 (some .boolean) R tX1_takes uX1_takes K 25 0 [some (.ref q), some (.int man), some (.int a), some (.int b)] [] μ :=
  And.intro (Exists.intro _ (Exists.intro _ (And.intro rfl (h.1)))) (fun _ _ z117 => by obtain ⟨z115, z116⟩ := z117; subst z115; subst z116; exact And.intro (fun z118 => And.intro (Or.inl rfl) ((h.2.1 (w_B01_0.mp z118)))) (fun z119 => And.intro ((h.2.2 (w_B01_n.mp z119)).1) (And.intro (fun z120 => And.intro (Exists.intro _ (Exists.intro _ (Exists.intro _ (And.intro rfl (trivial))))) (fun _ _ z124 => by obtain ⟨z122, z123⟩ := z124; subst z122; subst z123; exact And.intro (fun z125 => And.intro (Or.inl rfl) ((((h.2.2 (w_B01_n.mp z119)).2.1 z120).1 (w_B01_0.mp z125)))) (fun z126 => And.intro (Exists.intro _ (Exists.intro _ (Exists.intro _ (And.intro rfl (trivial))))) (fun _ _ z129 => by obtain ⟨z127, z128⟩ := z129; subst z127; subst z128; exact And.intro (fun z130 => And.intro (Or.inl rfl) (((((h.2.2 (w_B01_n.mp z119)).2.1 z120).2 (w_B01_n.mp z126)).1 (w_B01_0.mp z130)))) (fun z131 => And.intro (Or.inr rfl) (((((h.2.2 (w_B01_n.mp z119)).2.1 z120).2 (w_B01_n.mp z126)).2 (w_B01_n.mp z131)))))))) (fun z121 => And.intro ((h.2.2 (w_B01_n.mp z119)).1) (And.intro (fun z132 => And.intro (Exists.intro _ (Exists.intro _ (Exists.intro _ (And.intro rfl (trivial))))) (fun _ _ z136 => by obtain ⟨z134, z135⟩ := z136; subst z134; subst z135; exact And.intro (fun z137 => And.intro (Or.inl rfl) (((((h.2.2 (w_B01_n.mp z119)).2.2 z121).1 z132).1 (w_B01_0.mp z137)))) (fun z138 => And.intro (fun z139 => And.intro (Or.inr rfl) ((((((h.2.2 (w_B01_n.mp z119)).2.2 z121).1 z132).2 (w_B01_n.mp z138)).1 z139))) (fun z140 => And.intro (Or.inl rfl) ((((((h.2.2 (w_B01_n.mp z119)).2.2 z121).1 z132).2 (w_B01_n.mp z138)).2 z140)))))) (fun z133 => And.intro (Exists.intro _ (Exists.intro _ (Exists.intro _ (And.intro rfl (trivial))))) (fun _ _ z143 => by obtain ⟨z141, z142⟩ := z143; subst z141; subst z142; exact And.intro (fun z144 => And.intro (Or.inl rfl) (((((h.2.2 (w_B01_n.mp z119)).2.2 z121).2 z133).1 (w_B01_0.mp z144)))) (fun z145 => And.intro (Exists.intro _ (Exists.intro _ (Exists.intro _ (And.intro rfl (trivial))))) (fun _ _ z148 => by obtain ⟨z146, z147⟩ := z148; subst z146; subst z147; exact And.intro (fun z149 => And.intro (Or.inl rfl) ((((((h.2.2 (w_B01_n.mp z119)).2.2 z121).2 z133).2 (w_B01_n.mp z145)).1 (w_B01_0.mp z149)))) (fun z150 => And.intro (Or.inr rfl) ((((((h.2.2 (w_B01_n.mp z119)).2.2 z121).2 z133).2 (w_B01_n.mp z145)).2 (w_B01_n.mp z150)))))))))))))
set_option maxHeartbeats 4000000 in
theorem vX1_takes (q : Nat) (man : Int32) (a : Int32) (b : Int32) (μ : wM) (h : pX1_takes q man a b μ) (K : wK) (hK : w_cl 1 gX1_takes shX rfX 43 (some .boolean) (qX1_takes q man a b μ) tX1_takes K) : K 0 [some (.ref q), some (.int man), some (.int a), some (.int b)] [] μ := by
  refine hK uX1_takes 25 _ _ _ _ (vcX1_takes_0 K _ q man a b μ ?_)
  clear hK
  unfold pX1_takes at h
  unfold qX1_takes
  have hq : q < 43 ∧ shX q = .inl 1 := ⟨h.1, h.2.1⟩
  repeat' (first | apply And.intro | intro)
  all_goals (first | rfl | assumption | (simp_all [w_tk, w_B01, pX1_hasMan]; done) | skip)
set_option maxRecDepth 100000 in
theorem zX1_takes (l : Launch) : ∀ (idx : Nat) (S : wS), gX1_takes idx = some S → w_Call l 1 idx S 3 shX rfX 43 := by
  intro idx S hS
  unfold gX1_takes at hS
  split at hS
  · cases hS
    exact w_callSN (mX7_within l) eX7_within.1 (fun U hU => hU.1) eX7_within.2.1 eX7_within.2.2 (by decide +kernel) (by decide) (by decide)
  · cases hS
    exact w_callV (ci := 1) (mX1_hasMan l) (by decide) rX1_hasMan eX1_hasMan.1 (by decide +kernel) eX1_hasMan.2.1 eX1_hasMan.2.2.1 eX1_hasMan.2.2.2 (by decide +kernel) (by decide) (by decide)
  · cases hS
theorem mX1_takes (l : Launch) : w_Met l yX1_takes cX1_takes 4 (some .boolean) 3 shX rfX 43 sX1_takes.2.2.2.1 sX1_takes.2.2.2.2 :=
  w_meth (o := 1) (Γ := gX1_takes) (tb := tX1_takes) (by decide +kernel) rfl kX1_takes rfl (zX1_takes l) (fun as μ h => by obtain ⟨q, man, a, b, rfl, h⟩ := h; exact Nat.le_of_ble_eq_true rfl) (fun as μ h K hK => by obtain ⟨q, man, a, b, rfl, h⟩ := h; exact vX1_takes q man a b μ h K hK)
set_option maxRecDepth 100000 in
theorem eX1_takes : Cond.code yX1_takes cX1_takes 4 (some .boolean) ∈ w_tbl ∧ Cond.instanceMethod yX1_takes ∈ w_tbl ∧ Cond.selects (w_C 1) yX1_takes yX1_takes ∈ w_tbl ∧ Cond.initialized yX1_takes.cls ∈ w_tbl := ⟨by decide +kernel, by decide +kernel, by decide +kernel, by decide +kernel⟩
theorem rX1_takes : ∀ as μ, sX1_takes.2.2.2.1 as μ → ∃ q as', as = .ref q :: as' ∧ q < 43 ∧ shX q = .inl 1 := by
  intro as μ h
  obtain ⟨q, man, a, b, rfl, h⟩ := h
  exact ⟨_, _, rfl, h.1, h.2.1⟩

/-! X1_width -/
def pX1_width (q : Nat) (μ : wM) : Prop := q < 43 ∧ shX q = .inl 1 ∧ True
def qX1_width (q : Nat) (μ : wM) (r : Int32) (μ' : wM) : Prop := r = (if μ q 1 = 1 then 2 else 3) ∧ μ' = μ
def sX1_width : wS := (false, false, 1, fun as μ => ∃ q, as = [.ref q] ∧ pX1_width q μ, fun as μ r μ' => match as with
  | [.ref q] => qX1_width q μ r μ'
  | _ => False)
def gX1_width : Nat → Option wS := fun k => match k with
  | _ => none
def uX1_width : Nat → Option (List Nat) := fun _ => none
set_option maxHeartbeats 4000000 in
set_option maxRecDepth 100000 in
theorem vcX1_width_0 (K : wK) (R : Int32 → wM → Prop) (q : Nat) (μ : wM) (h : (q < 43 ∧ shX q = .inl 1) ∧ (
    ((((μ q 1) : Int32) = 1) → R 2 μ) ∧
    (¬ (((μ q 1) : Int32) = 1) → R 3 μ))) : w_n 1 gX1_width shX rfX 43 (some .int) R tX1_width uX1_width K 8 0 [some (.ref q)] [] μ :=
  And.intro (h.1) (And.intro (fun z153 => And.intro trivial ((h.2.1 z153))) (fun z154 => And.intro trivial ((h.2.2 z154))))
set_option maxHeartbeats 4000000 in
theorem vX1_width (q : Nat) (μ : wM) (h : pX1_width q μ) (K : wK) (hK : w_cl 1 gX1_width shX rfX 43 (some .int) (qX1_width q μ) tX1_width K) : K 0 [some (.ref q)] [] μ := by
  refine hK uX1_width 8 _ _ _ _ (vcX1_width_0 K _ q μ ?_)
  clear hK
  unfold pX1_width at h
  unfold qX1_width
  have hq : q < 43 ∧ shX q = .inl 1 := ⟨h.1, h.2.1⟩
  repeat' (first | apply And.intro | intro)
  all_goals (first | rfl | assumption | (simp_all []; done) | skip)
set_option maxRecDepth 100000 in
theorem zX1_width (l : Launch) : ∀ (idx : Nat) (S : wS), gX1_width idx = some S → w_Call l 1 idx S 1 shX rfX 43 := by
  intro idx S hS
  unfold gX1_width at hS
  split at hS
  · cases hS
theorem mX1_width (l : Launch) : w_Met l yX1_width cX1_width 1 (some .int) 1 shX rfX 43 sX1_width.2.2.2.1 sX1_width.2.2.2.2 :=
  w_meth (o := 1) (Γ := gX1_width) (tb := tX1_width) (by decide +kernel) rfl kX1_width rfl (zX1_width l) (fun as μ h => by obtain ⟨q, rfl, h⟩ := h; exact Nat.le_of_ble_eq_true rfl) (fun as μ h K hK => by obtain ⟨q, rfl, h⟩ := h; exact vX1_width q μ h K hK)
set_option maxRecDepth 100000 in
theorem eX1_width : Cond.code yX1_width cX1_width 1 (some .int) ∈ w_tbl ∧ Cond.instanceMethod yX1_width ∈ w_tbl ∧ Cond.selects (w_C 1) yX1_width yX1_width ∈ w_tbl ∧ Cond.initialized yX1_width.cls ∈ w_tbl := ⟨by decide +kernel, by decide +kernel, by decide +kernel, by decide +kernel⟩
theorem rX1_width : ∀ as μ, sX1_width.2.2.2.1 as μ → ∃ q as', as = .ref q :: as' ∧ q < 43 ∧ shX q = .inl 1 := by
  intro as μ h
  obtain ⟨q, rfl, h⟩ := h
  exact ⟨_, _, rfl, h.1, h.2.1⟩

/-! X1_secondOf -/
def pX1_secondOf (q : Nat) (row : Nat) (i : Int32) (μ : wM) : Prop := q < 43 ∧ shX q = .inl 1 ∧ (row < 43 ∧ shX row = .inl 5 ∧ (¬ μ q 1 = 1 → w_inA shX 43 0 (rfX row 0) (i + 2)))
def qX1_secondOf (q : Nat) (row : Nat) (i : Int32) (μ : wM) (r : Int32) (μ' : wM) : Prop := r = (if μ q 1 = 1 then 0 else μ (rfX row 0) (i + 2).toNatClampNeg) ∧ μ' = μ
def sX1_secondOf : wS := (false, false, 3, fun as μ => ∃ q, ∃ row, ∃ i, as = [.ref q, .ref row, .int i] ∧ pX1_secondOf q row i μ, fun as μ r μ' => match as with
  | [.ref q, .ref row, .int i] => qX1_secondOf q row i μ r μ'
  | _ => False)
def gX1_secondOf : Nat → Option wS := fun k => match k with
  | _ => none
def uX1_secondOf : Nat → Option (List Nat) := fun _ => none
set_option maxHeartbeats 4000000 in
set_option maxRecDepth 100000 in
theorem vcX1_secondOf_0 (K : wK) (R : Int32 → wM → Prop) (q : Nat) (row : Nat) (i : Int32) (μ : wM) (h : (q < 43 ∧ shX q = .inl 1) ∧ (
    ((((μ q 1) : Int32) = 1) → R 0 μ) ∧
    (¬ (((μ q 1) : Int32) = 1) → (row < 43 ∧ shX row = .inl 5) ∧ (w_inA shX 43 0 (rfX row 0) (i + 2)) ∧ R (μ (rfX row 0) ((i + 2) : Int32).toNatClampNeg) μ))) : w_n 1 gX1_secondOf shX rfX 43 (some .int) R tX1_secondOf uX1_secondOf K 12 0 [some (.ref q), some (.ref row), some (.int i)] [] μ :=
  And.intro (h.1) (And.intro (fun z157 => And.intro trivial ((h.2.1 z157))) (fun z158 => And.intro ((h.2.2 z158).1) (And.intro ((h.2.2 z158).2.1) (And.intro trivial ((h.2.2 z158).2.2)))))
set_option maxHeartbeats 4000000 in
theorem vX1_secondOf (q : Nat) (row : Nat) (i : Int32) (μ : wM) (h : pX1_secondOf q row i μ) (K : wK) (hK : w_cl 1 gX1_secondOf shX rfX 43 (some .int) (qX1_secondOf q row i μ) tX1_secondOf K) : K 0 [some (.ref q), some (.ref row), some (.int i)] [] μ := by
  refine hK uX1_secondOf 12 _ _ _ _ (vcX1_secondOf_0 K _ q row i μ ?_)
  clear hK
  unfold pX1_secondOf at h
  unfold qX1_secondOf
  have hq : q < 43 ∧ shX q = .inl 1 := ⟨h.1, h.2.1⟩
  exact ⟨hq, fun c => ⟨by rw [if_pos c], rfl⟩, fun c => ⟨⟨h.2.2.1, h.2.2.2.1⟩, h.2.2.2.2 c, by rw [if_neg c], rfl⟩⟩
set_option maxRecDepth 100000 in
theorem zX1_secondOf (l : Launch) : ∀ (idx : Nat) (S : wS), gX1_secondOf idx = some S → w_Call l 1 idx S 1 shX rfX 43 := by
  intro idx S hS
  unfold gX1_secondOf at hS
  split at hS
  · cases hS
theorem mX1_secondOf (l : Launch) : w_Met l yX1_secondOf cX1_secondOf 3 (some .int) 1 shX rfX 43 sX1_secondOf.2.2.2.1 sX1_secondOf.2.2.2.2 :=
  w_meth (o := 1) (Γ := gX1_secondOf) (tb := tX1_secondOf) (by decide +kernel) rfl kX1_secondOf rfl (zX1_secondOf l) (fun as μ h => by obtain ⟨q, row, i, rfl, h⟩ := h; exact Nat.le_of_ble_eq_true rfl) (fun as μ h K hK => by obtain ⟨q, row, i, rfl, h⟩ := h; exact vX1_secondOf q row i μ h K hK)
set_option maxRecDepth 100000 in
theorem eX1_secondOf : Cond.code yX1_secondOf cX1_secondOf 3 (some .int) ∈ w_tbl ∧ Cond.instanceMethod yX1_secondOf ∈ w_tbl ∧ Cond.selects (w_C 1) yX1_secondOf yX1_secondOf ∈ w_tbl ∧ Cond.initialized yX1_secondOf.cls ∈ w_tbl := ⟨by decide +kernel, by decide +kernel, by decide +kernel, by decide +kernel⟩
theorem rX1_secondOf : ∀ as μ, sX1_secondOf.2.2.2.1 as μ → ∃ q as', as = .ref q :: as' ∧ q < 43 ∧ shX q = .inl 1 := by
  intro as μ h
  obtain ⟨q, row, i, rfl, h⟩ := h
  exact ⟨_, _, rfl, h.1, h.2.1⟩

/-! X1_fairMark -/
def pX1_fairMark (q : Nat) (x : Int32) (w : Int32) (μ : wM) : Prop := q < 43 ∧ shX q = .inl 1 ∧ True
def qX1_fairMark (q : Nat) (x : Int32) (w : Int32) (μ : wM) (r : Int32) (μ' : wM) : Prop := r = (w_fair (μ q 7) (μ q 8) x w) ∧ μ' = μ
def sX1_fairMark : wS := (false, false, 3, fun as μ => ∃ q, ∃ x, ∃ w, as = [.ref q, .int x, .int w] ∧ pX1_fairMark q x w μ, fun as μ r μ' => match as with
  | [.ref q, .int x, .int w] => qX1_fairMark q x w μ r μ'
  | _ => False)
def gX1_fairMark : Nat → Option wS := fun k => match k with
  | _ => none
def uX1_fairMark : Nat → Option (List Nat) := fun _ => none
set_option maxHeartbeats 4000000 in
set_option maxRecDepth 100000 in
theorem vcX1_fairMark_0 (K : wK) (R : Int32 → wM → Prop) (q : Nat) (x : Int32) (w : Int32) (μ : wM) (h : (
    (((0 : Int32) ≤ x) → (q < 43 ∧ shX q = .inl 1) ∧ R (((((((x : Int32).toInt64) * ((((1000 - (μ q 8)) - (2 * w)) : Int32).toInt64)) * (((μ q 7) : Int32).toInt64)) / 10000000) : Int64).toInt32) μ) ∧
    (¬ ((0 : Int32) ≤ x) → R (-1) μ))) : w_n 1 gX1_fairMark shX rfX 43 (some .int) R tX1_fairMark uX1_fairMark K 23 0 [some (.ref q), some (.int x), some (.int w)] [] μ :=
  And.intro (fun z161 => And.intro ((h.1 z161).1) (And.intro ((h.1 z161).1) (And.intro ((by decide)) (And.intro trivial ((h.1 z161).2))))) (fun z162 => And.intro trivial ((h.2 z162)))
set_option maxHeartbeats 4000000 in
theorem vX1_fairMark (q : Nat) (x : Int32) (w : Int32) (μ : wM) (h : pX1_fairMark q x w μ) (K : wK) (hK : w_cl 1 gX1_fairMark shX rfX 43 (some .int) (qX1_fairMark q x w μ) tX1_fairMark K) : K 0 [some (.ref q), some (.int x), some (.int w)] [] μ := by
  refine hK uX1_fairMark 23 _ _ _ _ (vcX1_fairMark_0 K _ q x w μ ?_)
  clear hK
  unfold pX1_fairMark at h
  unfold qX1_fairMark
  have hq : q < 43 ∧ shX q = .inl 1 := ⟨h.1, h.2.1⟩
  unfold w_fair
  refine ⟨fun c => ⟨hq, ?_, rfl⟩, fun c => ⟨?_, rfl⟩⟩
  · rw [if_neg (i_nlt.mpr c)]
  · rw [if_pos (i_nle.mp c)]
set_option maxRecDepth 100000 in
theorem zX1_fairMark (l : Launch) : ∀ (idx : Nat) (S : wS), gX1_fairMark idx = some S → w_Call l 1 idx S 1 shX rfX 43 := by
  intro idx S hS
  unfold gX1_fairMark at hS
  split at hS
  · cases hS
theorem mX1_fairMark (l : Launch) : w_Met l yX1_fairMark cX1_fairMark 3 (some .int) 1 shX rfX 43 sX1_fairMark.2.2.2.1 sX1_fairMark.2.2.2.2 :=
  w_meth (o := 1) (Γ := gX1_fairMark) (tb := tX1_fairMark) (by decide +kernel) rfl kX1_fairMark rfl (zX1_fairMark l) (fun as μ h => by obtain ⟨q, x, w, rfl, h⟩ := h; exact Nat.le_of_ble_eq_true rfl) (fun as μ h K hK => by obtain ⟨q, x, w, rfl, h⟩ := h; exact vX1_fairMark q x w μ h K hK)
set_option maxRecDepth 100000 in
theorem eX1_fairMark : Cond.code yX1_fairMark cX1_fairMark 3 (some .int) ∈ w_tbl ∧ Cond.instanceMethod yX1_fairMark ∈ w_tbl ∧ Cond.selects (w_C 1) yX1_fairMark yX1_fairMark ∈ w_tbl ∧ Cond.initialized yX1_fairMark.cls ∈ w_tbl := ⟨by decide +kernel, by decide +kernel, by decide +kernel, by decide +kernel⟩
theorem rX1_fairMark : ∀ as μ, sX1_fairMark.2.2.2.1 as μ → ∃ q as', as = .ref q :: as' ∧ q < 43 ∧ shX q = .inl 1 := by
  intro as μ h
  obtain ⟨q, x, w, rfl, h⟩ := h
  exact ⟨_, _, rfl, h.1, h.2.1⟩

/-! X1_raceMark -/
def pX1_raceMark (q : Nat) (x : Int32) (y : Int32) (μ : wM) : Prop := q < 43 ∧ shX q = .inl 1 ∧ True
def qX1_raceMark (q : Nat) (x : Int32) (y : Int32) (μ : wM) (r : Int32) (μ' : wM) : Prop := r = (w_race (μ q 9) x y) ∧ μ' = μ
def sX1_raceMark : wS := (false, false, 3, fun as μ => ∃ q, ∃ x, ∃ y, as = [.ref q, .int x, .int y] ∧ pX1_raceMark q x y μ, fun as μ r μ' => match as with
  | [.ref q, .int x, .int y] => qX1_raceMark q x y μ r μ'
  | _ => False)
def gX1_raceMark : Nat → Option wS := fun k => match k with
  | _ => none
def uX1_raceMark : Nat → Option (List Nat) := fun _ => none
set_option maxHeartbeats 4000000 in
set_option maxRecDepth 100000 in
theorem vcX1_raceMark_0 (K : wK) (R : Int32 → wM → Prop) (q : Nat) (x : Int32) (y : Int32) (μ : wM) (h : (q < 43 ∧ shX q = .inl 1) ∧ (
    (((1 : Int32) ≤ ((μ q 9) - y)) → (((μ q 9) - y) ≠ 0) ∧ R ((x * (μ q 9)) / ((μ q 9) - y)) μ) ∧
    (¬ ((1 : Int32) ≤ ((μ q 9) - y)) → R x μ))) : w_n 1 gX1_raceMark shX rfX 43 (some .int) R tX1_raceMark uX1_raceMark K 16 0 [some (.ref q), some (.int x), some (.int y), none] [] μ :=
  And.intro (h.1) (And.intro (fun z165 => And.intro (h.1) (And.intro ((h.2.1 z165).1) (And.intro trivial ((h.2.1 z165).2)))) (fun z166 => And.intro trivial ((h.2.2 z166))))
set_option maxHeartbeats 4000000 in
theorem vX1_raceMark (q : Nat) (x : Int32) (y : Int32) (μ : wM) (h : pX1_raceMark q x y μ) (K : wK) (hK : w_cl 1 gX1_raceMark shX rfX 43 (some .int) (qX1_raceMark q x y μ) tX1_raceMark K) : K 0 [some (.ref q), some (.int x), some (.int y), none] [] μ := by
  refine hK uX1_raceMark 16 _ _ _ _ (vcX1_raceMark_0 K _ q x y μ ?_)
  clear hK
  unfold pX1_raceMark at h
  unfold qX1_raceMark
  have hq : q < 43 ∧ shX q = .inl 1 := ⟨h.1, h.2.1⟩
  unfold w_race
  refine ⟨hq, fun c => ⟨?_, ?_, rfl⟩, fun c => ⟨?_, rfl⟩⟩
  · intro z
    rw [z] at c
    exact absurd c (by decide)
  · rw [if_neg (i_nlt.mpr c)]
  · rw [if_pos (i_nle.mp c)]
set_option maxRecDepth 100000 in
theorem zX1_raceMark (l : Launch) : ∀ (idx : Nat) (S : wS), gX1_raceMark idx = some S → w_Call l 1 idx S 1 shX rfX 43 := by
  intro idx S hS
  unfold gX1_raceMark at hS
  split at hS
  · cases hS
theorem mX1_raceMark (l : Launch) : w_Met l yX1_raceMark cX1_raceMark 4 (some .int) 1 shX rfX 43 sX1_raceMark.2.2.2.1 sX1_raceMark.2.2.2.2 :=
  w_meth (o := 1) (Γ := gX1_raceMark) (tb := tX1_raceMark) (by decide +kernel) rfl kX1_raceMark rfl (zX1_raceMark l) (fun as μ h => by obtain ⟨q, x, y, rfl, h⟩ := h; exact Nat.le_of_ble_eq_true rfl) (fun as μ h K hK => by obtain ⟨q, x, y, rfl, h⟩ := h; exact vX1_raceMark q x y μ h K hK)
set_option maxRecDepth 100000 in
theorem eX1_raceMark : Cond.code yX1_raceMark cX1_raceMark 4 (some .int) ∈ w_tbl ∧ Cond.instanceMethod yX1_raceMark ∈ w_tbl ∧ Cond.selects (w_C 1) yX1_raceMark yX1_raceMark ∈ w_tbl ∧ Cond.initialized yX1_raceMark.cls ∈ w_tbl := ⟨by decide +kernel, by decide +kernel, by decide +kernel, by decide +kernel⟩
theorem rX1_raceMark : ∀ as μ, sX1_raceMark.2.2.2.1 as μ → ∃ q as', as = .ref q :: as' ∧ q < 43 ∧ shX q = .inl 1 := by
  intro as μ h
  obtain ⟨q, x, y, rfl, h⟩ := h
  exact ⟨_, _, rfl, h.1, h.2.1⟩
end
section
def w_fill (μ : wM) (q k : Nat) (v : Int32) : wM := fun a b => if a = q ∧ b < k then v else μ a b
theorem w_fill_0 (μ : wM) (q : Nat) (v : Int32) : w_fill μ q 0 v = μ := by
  funext a b
  simp [w_fill]
theorem w_fill_s (μ : wM) (q k : Nat) (v : Int32) : w_up (w_fill μ q k v) q k v = w_fill μ q (k + 1) v := by
  funext a b
  unfold w_up w_fill
  by_cases ha : a = q
  · by_cases hb : b = k
    · simp [ha, hb]
    · have : (b < k + 1) ↔ b < k := by omega
      simp [ha, hb, this]
  · simp [ha]
def w_tells (f g : Nat → Int32) (ev man : Int32) : Nat → Bool
  | 0 => false
  | k + 1 => w_tells f g ev man k || (decide (f k = ev) && decide (g k = man))
theorem w_tells_at {f g : Nat → Int32} {ev man : Int32} {i n : Nat} (h : i < n) (h1 : f i = ev) (h2 : g i = man) : w_tells f g ev man n = true := by
  induction n with
  | zero => omega
  | succ n ih =>
    unfold w_tells
    by_cases e : i = n
    · subst e; simp [h1, h2]
    · simp [ih (by omega)]
theorem w_tells_no {f g : Nat → Int32} {ev man : Int32} {n : Nat} (h : ∀ j, j < n → ¬ (f j = ev ∧ g j = man)) : w_tells f g ev man n = false := by
  induction n with
  | zero => rfl
  | succ n ih =>
    unfold w_tells
    rw [ih (fun j hj => h j (by omega))]
    have := h n (by omega)
    by_cases e : f n = ev
    · have e2 : ¬ g n = man := fun z => this ⟨e, z⟩
      simp [e2]
    · simp [e]
theorem cl_le {k : Int32} {i : Nat} (hi : i < 2 ^ 31) : k ≤ nI i ↔ k.toNatClampNeg ≤ i := by
  rw [i_le, nI_toInt hi]
  show _ ↔ k.toInt.toNat ≤ i
  omega
def w_lane (l v : Int32) : Int32 := if l = 0 then v.toInt8.toInt32 else if l = 1 then v.toInt16.toInt32 else v
def w_found (hold la sz l i n : Int32) : Int32 := if hold = 0 then -11 else if ¬ la = l then -12 else if i < 0 ∨ sz - i < n then -13 else 0
def w_sum (f : Nat → Int32) : Nat → Int32
  | 0 => 0
  | k + 1 => w_sum f k + f k
def w_byte (w : Int64) (i : Int32) : Int32 := ((w >>> ((8 * i).toInt64 &&& 63)) &&& 255).toInt32
def w_typ (w : Int64) : Nat → Bool
  | 0 => true
  | k + 1 => w_typ w k && w_inB (w_byte w (nI k)) 32 126
theorem w_typ_le {w : Int64} {i n : Nat} (h : i ≤ n) (hy : w_typ w n = true) : w_typ w i = true := by
  induction n with
  | zero => rw [Nat.le_zero.mp h]; rfl
  | succ n ih =>
    by_cases e : i = n + 1
    · rw [e]; exact hy
    · refine ih (by omega) ?_
      unfold w_typ at hy
      rw [Bool.and_eq_true] at hy
      exact hy.1
theorem vp_in_le {i : Int32} {n : Nat} (h : vp_in i n) (hn : n < 2 ^ 31) : ∃ j : Nat, j < n ∧ i = nI j ∧ i.toNatClampNeg = j := by
  obtain ⟨j, hj, rfl⟩ := vp_in_of h hn
  exact ⟨j, hj, rfl, nI_clamp (by omega)⟩
/-! J7_fill_53178 -/
def pJ7_fill_53178 (q : Nat) (v : Int32) (μ : wM) : Prop := q < 43 ∧ shX q = .inr (0, w_al shX q) ∧ w_al shX q ≤ 160
def qJ7_fill_53178 (q : Nat) (v : Int32) (μ : wM) (r : Int32) (μ' : wM) : Prop := μ' = w_fill μ q (w_al shX q) v
def sJ7_fill_53178 : wS := (true, true, 2, fun as μ => ∃ q, ∃ v, as = [.ref q, .int v] ∧ pJ7_fill_53178 q v μ, fun as μ r μ' => match as with
  | [.ref q, .int v] => qJ7_fill_53178 q v μ r μ'
  | _ => False)
def gJ7_fill_53178 : Nat → Option wS := fun k => match k with
  | _ => none
def uJ7_fill_53178 : Nat → Option (List Nat) := fun j => match j with | 5 => some [] | _ => none
set_option maxHeartbeats 4000000 in
set_option maxRecDepth 100000 in
theorem vcJ7_fill_53178_0 (K : wK) (R : Int32 → wM → Prop) (q : Nat) (v : Int32) (μ : wM) (h : (q < 43 ∧ shX q = .inr (0, w_al shX q)) ∧ K 5 [some (.ref q), some (.int v), some (.int 0), some (.int (nI (w_al shX q)))] [] μ) : w_n 12 gJ7_fill_53178 shX rfX 43 none R tJ7_fill_53178 uJ7_fill_53178 K 11 0 [some (.ref q), some (.int v), none, none] [] μ :=
  And.intro (h.1) (h.2)
set_option maxHeartbeats 4000000 in
set_option maxRecDepth 100000 in
theorem vcJ7_fill_53178_5 (K : wK) (R : Int32 → wM → Prop) (q : Nat) (v : Int32) (l2 : Int32) (l3 : Int32) (μ : wM) (h : (
    (((l3 : Int32) ≤ l2) → R 0 μ) ∧
    (¬ ((l3 : Int32) ≤ l2) → (w_inA shX 43 0 q l2) ∧ K 5 [some (.ref q), some (.int v), some (.int (l2 + 1)), some (.int l3)] [] (w_up μ q (l2 : Int32).toNatClampNeg v)))) : w_n 12 gJ7_fill_53178 shX rfX 43 none R tJ7_fill_53178 uJ7_fill_53178 K 11 5 [some (.ref q), some (.int v), some (.int l2), some (.int l3)] [] μ :=
  And.intro (fun z169 => (h.1 z169)) (fun z170 => And.intro ((h.2 z170).1) ((h.2 z170).2))
set_option maxHeartbeats 4000000 in
theorem vJ7_fill_53178 (q : Nat) (v : Int32) (μ : wM) (h : pJ7_fill_53178 q v μ) (K : wK) (hK : w_cl 12 gJ7_fill_53178 shX rfX 43 none (qJ7_fill_53178 q v μ) tJ7_fill_53178 K) : K 0 [some (.ref q), some (.int v), none, none] [] μ := by
  unfold pJ7_fill_53178 at h
  obtain ⟨hq, hs, hl⟩ := h
  have loop : ∀ (k i : Nat), i + k = w_al shX q → K 5 [some (.ref q), some (.int v), some (.int (nI i)), some (.int (nI (w_al shX q)))] [] (w_fill μ q i v) := by
    intro k
    induction k with
    | zero =>
      intro i hi
      refine hK uJ7_fill_53178 11 _ _ _ _ (vcJ7_fill_53178_5 K _ q v (nI i) (nI (w_al shX q)) (w_fill μ q i v) ?_)
      refine ⟨fun _ => ?_, fun c => absurd (nI_le (by omega) (by omega)) c⟩
      show w_fill μ q i v = w_fill μ q (w_al shX q) v
      rw [show i = w_al shX q by omega]
    | succ k ih =>
      intro i hi
      refine hK uJ7_fill_53178 11 _ _ _ _ (vcJ7_fill_53178_5 K _ q v (nI i) (nI (w_al shX q)) (w_fill μ q i v) ?_)
      refine ⟨fun c => absurd c (nI_ge (by omega) (by omega)), fun c => ⟨⟨hq, _, hs, vp_in_nI (by omega) (by omega)⟩, ?_⟩⟩
      rw [nI_1, nI_clamp (by omega), w_fill_s]
      exact ih (i + 1) (by omega)
  refine hK uJ7_fill_53178 11 _ _ _ _ (vcJ7_fill_53178_0 K _ q v μ ?_)
  refine ⟨⟨hq, hs⟩, ?_⟩
  have z := loop (w_al shX q) 0 (by omega)
  rw [w_fill_0, nI_0] at z
  exact z
set_option maxRecDepth 100000 in
theorem zJ7_fill_53178 (l : Launch) : ∀ (idx : Nat) (S : wS), gJ7_fill_53178 idx = some S → w_Call l 12 idx S 1 shX rfX 43 := by
  intro idx S hS
  unfold gJ7_fill_53178 at hS
  split at hS
  · cases hS
theorem mJ7_fill_53178 (l : Launch) : w_Met l yJ7_fill_53178 cJ7_fill_53178 4 none 1 shX rfX 43 sJ7_fill_53178.2.2.2.1 sJ7_fill_53178.2.2.2.2 :=
  w_meth (o := 12) (Γ := gJ7_fill_53178) (tb := tJ7_fill_53178) (by decide +kernel) rfl kJ7_fill_53178 rfl (zJ7_fill_53178 l) (fun as μ h => by obtain ⟨q, v, rfl, h⟩ := h; exact Nat.le_of_ble_eq_true rfl) (fun as μ h K hK => by obtain ⟨q, v, rfl, h⟩ := h; exact vJ7_fill_53178 q v μ h K hK)
set_option maxRecDepth 100000 in
theorem eJ7_fill_53178 : Cond.code yJ7_fill_53178 cJ7_fill_53178 4 none ∈ w_tbl ∧ Cond.static yJ7_fill_53178 ∈ w_tbl ∧ Cond.initialized yJ7_fill_53178.cls ∈ w_tbl := ⟨by decide +kernel, by decide +kernel, by decide +kernel⟩

/-! X2_isFullFor -/
def pX2_isFullFor (n : Int32) (μ : wM) : Prop := True
def qX2_isFullFor (n : Int32) (μ : wM) (r : Int32) (μ' : wM) : Prop := r = (w_B01 (decide (160 < μ 2 5 + n))) ∧ μ' = μ
def sX2_isFullFor : wS := (false, false, 2, fun as μ => ∃ n, as = [.ref 2, .int n] ∧ pX2_isFullFor n μ, fun as μ r μ' => match as with
  | [.ref _, .int n] => qX2_isFullFor n μ r μ'
  | _ => False)
def gX2_isFullFor : Nat → Option wS := fun k => match k with
  | _ => none
def uX2_isFullFor : Nat → Option (List Nat) := fun _ => none
set_option maxHeartbeats 4000000 in
set_option maxRecDepth 100000 in
theorem vcX2_isFullFor_0 (K : wK) (R : Int32 → wM → Prop) (n : Int32) (μ : wM) (h : (
    (((((μ 2 5) + n) : Int32) ≤ 160) → R 0 μ) ∧
    (¬ ((((μ 2 5) + n) : Int32) ≤ 160) → R 1 μ))) : w_n 2 gX2_isFullFor shX rfX 43 (some .boolean) R tX2_isFullFor uX2_isFullFor K 10 0 [some (.ref 2), some (.int n)] [] μ :=
  And.intro (And.intro (of_decide_eq_true rfl) rfl) (And.intro (fun z173 => And.intro (Or.inl rfl) ((h.1 z173))) (fun z174 => And.intro (Or.inr rfl) ((h.2 z174))))
set_option maxHeartbeats 4000000 in
theorem vX2_isFullFor (n : Int32) (μ : wM) (h : pX2_isFullFor n μ) (K : wK) (hK : w_cl 2 gX2_isFullFor shX rfX 43 (some .boolean) (qX2_isFullFor n μ) tX2_isFullFor K) : K 0 [some (.ref 2), some (.int n)] [] μ := by
  refine hK uX2_isFullFor 10 _ _ _ _ (vcX2_isFullFor_0 K _ n μ ?_)
  clear hK
  unfold pX2_isFullFor at h
  unfold qX2_isFullFor
  refine ⟨fun c => ⟨w_B01_f ?_, rfl⟩, fun c => ⟨w_B01_t ?_, rfl⟩⟩
  · simp only [decide_eq_true_eq]; exact i_nlt.mpr c
  · simp only [decide_eq_true_eq]; exact i_nle.mp c
set_option maxRecDepth 100000 in
theorem zX2_isFullFor (l : Launch) : ∀ (idx : Nat) (S : wS), gX2_isFullFor idx = some S → w_Call l 2 idx S 1 shX rfX 43 := by
  intro idx S hS
  unfold gX2_isFullFor at hS
  split at hS
  · cases hS
theorem mX2_isFullFor (l : Launch) : w_Met l yX2_isFullFor cX2_isFullFor 2 (some .boolean) 1 shX rfX 43 sX2_isFullFor.2.2.2.1 sX2_isFullFor.2.2.2.2 :=
  w_meth (o := 2) (Γ := gX2_isFullFor) (tb := tX2_isFullFor) (by decide +kernel) rfl kX2_isFullFor rfl (zX2_isFullFor l) (fun as μ h => by obtain ⟨n, rfl, h⟩ := h; exact Nat.le_of_ble_eq_true rfl) (fun as μ h K hK => by obtain ⟨n, rfl, h⟩ := h; exact vX2_isFullFor n μ h K hK)
set_option maxRecDepth 100000 in
theorem eX2_isFullFor : Cond.code yX2_isFullFor cX2_isFullFor 2 (some .boolean) ∈ w_tbl ∧ Cond.instanceMethod yX2_isFullFor ∈ w_tbl ∧ Cond.selects (w_C 2) yX2_isFullFor yX2_isFullFor ∈ w_tbl ∧ Cond.initialized yX2_isFullFor.cls ∈ w_tbl := ⟨by decide +kernel, by decide +kernel, by decide +kernel, by decide +kernel⟩
theorem rX2_isFullFor : ∀ as μ, sX2_isFullFor.2.2.2.1 as μ → ∃ q as', as = .ref q :: as' ∧ q < 43 ∧ shX q = .inl 2 := by
  intro as μ h
  obtain ⟨n, rfl, h⟩ := h
  exact ⟨_, _, rfl, by decide, rfl⟩

/-! X2_add -/
def pX2_add (e : Int32) (x : Int32) (a : Int32) (b : Int32) (y : Int32) (μ : wM) : Prop := vp_in (μ 2 5) 160
def qX2_add (e : Int32) (x : Int32) (a : Int32) (b : Int32) (y : Int32) (μ : wM) (r : Int32) (μ' : wM) : Prop := r = μ 2 5 ∧ μ' = w_up (w_up (w_up (w_up (w_up (w_up μ 14 (μ 2 5).toNatClampNeg e) 15 (μ 2 5).toNatClampNeg x) 16 (μ 2 5).toNatClampNeg a) 17 (μ 2 5).toNatClampNeg b) 18 (μ 2 5).toNatClampNeg y) 2 5 (μ 2 5 + 1)
def sX2_add : wS := (false, false, 6, fun as μ => ∃ e, ∃ x, ∃ a, ∃ b, ∃ y, as = [.ref 2, .int e, .int x, .int a, .int b, .int y] ∧ pX2_add e x a b y μ, fun as μ r μ' => match as with
  | [.ref _, .int e, .int x, .int a, .int b, .int y] => qX2_add e x a b y μ r μ'
  | _ => False)
def gX2_add : Nat → Option wS := fun k => match k with
  | _ => none
def uX2_add : Nat → Option (List Nat) := fun _ => none
set_option maxHeartbeats 4000000 in
set_option maxRecDepth 100000 in
theorem vcX2_add_0 (K : wK) (R : Int32 → wM → Prop) (e : Int32) (x : Int32) (a : Int32) (b : Int32) (y : Int32) (μ : wM) (h : (vp_in (μ 2 5) 160) ∧ R (μ 2 5) (w_up (w_up (w_up (w_up (w_up (w_up μ 14 ((μ 2 5) : Int32).toNatClampNeg e) 15 ((μ 2 5) : Int32).toNatClampNeg x) 16 ((μ 2 5) : Int32).toNatClampNeg a) 17 ((μ 2 5) : Int32).toNatClampNeg b) 18 ((μ 2 5) : Int32).toNatClampNeg y) 2 5 ((μ 2 5) + 1))) : w_n 2 gX2_add shX rfX 43 (some .int) R tX2_add uX2_add K 37 0 [some (.ref 2), some (.int e), some (.int x), some (.int a), some (.int b), some (.int y), none] [] μ :=
  And.intro (And.intro (of_decide_eq_true rfl) rfl) (And.intro (And.intro (of_decide_eq_true rfl) rfl) (And.intro (And.intro (of_decide_eq_true rfl) (Exists.intro _ (And.intro rfl (h.1)))) (And.intro (And.intro (of_decide_eq_true rfl) rfl) (And.intro (And.intro (of_decide_eq_true rfl) (Exists.intro _ (And.intro rfl (h.1)))) (And.intro (And.intro (of_decide_eq_true rfl) rfl) (And.intro (And.intro (of_decide_eq_true rfl) (Exists.intro _ (And.intro rfl (h.1)))) (And.intro (And.intro (of_decide_eq_true rfl) rfl) (And.intro (And.intro (of_decide_eq_true rfl) (Exists.intro _ (And.intro rfl (h.1)))) (And.intro (And.intro (of_decide_eq_true rfl) rfl) (And.intro (And.intro (of_decide_eq_true rfl) (Exists.intro _ (And.intro rfl (h.1)))) (And.intro (And.intro (of_decide_eq_true rfl) rfl) (And.intro (And.intro (of_decide_eq_true rfl) (And.intro rfl (trivial))) (And.intro trivial (h.2))))))))))))))
set_option maxHeartbeats 4000000 in
theorem vX2_add (e : Int32) (x : Int32) (a : Int32) (b : Int32) (y : Int32) (μ : wM) (h : pX2_add e x a b y μ) (K : wK) (hK : w_cl 2 gX2_add shX rfX 43 (some .int) (qX2_add e x a b y μ) tX2_add K) : K 0 [some (.ref 2), some (.int e), some (.int x), some (.int a), some (.int b), some (.int y), none] [] μ := by
  refine hK uX2_add 37 _ _ _ _ (vcX2_add_0 K _ e x a b y μ ?_)
  clear hK
  unfold pX2_add at h
  unfold qX2_add
  exact ⟨h, rfl, rfl⟩
set_option maxRecDepth 100000 in
theorem zX2_add (l : Launch) : ∀ (idx : Nat) (S : wS), gX2_add idx = some S → w_Call l 2 idx S 1 shX rfX 43 := by
  intro idx S hS
  unfold gX2_add at hS
  split at hS
  · cases hS
theorem mX2_add (l : Launch) : w_Met l yX2_add cX2_add 7 (some .int) 1 shX rfX 43 sX2_add.2.2.2.1 sX2_add.2.2.2.2 :=
  w_meth (o := 2) (Γ := gX2_add) (tb := tX2_add) (by decide +kernel) rfl kX2_add rfl (zX2_add l) (fun as μ h => by obtain ⟨e, x, a, b, y, rfl, h⟩ := h; exact Nat.le_of_ble_eq_true rfl) (fun as μ h K hK => by obtain ⟨e, x, a, b, y, rfl, h⟩ := h; exact vX2_add e x a b y μ h K hK)
set_option maxRecDepth 100000 in
theorem eX2_add : Cond.code yX2_add cX2_add 7 (some .int) ∈ w_tbl ∧ Cond.instanceMethod yX2_add ∈ w_tbl ∧ Cond.selects (w_C 2) yX2_add yX2_add ∈ w_tbl ∧ Cond.initialized yX2_add.cls ∈ w_tbl := ⟨by decide +kernel, by decide +kernel, by decide +kernel, by decide +kernel⟩
theorem rX2_add : ∀ as μ, sX2_add.2.2.2.1 as μ → ∃ q as', as = .ref q :: as' ∧ q < 43 ∧ shX q = .inl 2 := by
  intro as μ h
  obtain ⟨e, x, a, b, y, rfl, h⟩ := h
  exact ⟨_, _, rfl, by decide, rfl⟩

/-! X2_tellsOf -/
def pX2_tellsOf (e : Int32) (x : Int32) (μ : wM) : Prop := vp_in (μ 2 5) 161
def qX2_tellsOf (e : Int32) (x : Int32) (μ : wM) (r : Int32) (μ' : wM) : Prop := r = (w_B01 (w_tells (μ 14) (μ 15) e x (μ 2 5).toNatClampNeg)) ∧ μ' = μ
def sX2_tellsOf : wS := (false, false, 3, fun as μ => ∃ e, ∃ x, as = [.ref 2, .int e, .int x] ∧ pX2_tellsOf e x μ, fun as μ r μ' => match as with
  | [.ref _, .int e, .int x] => qX2_tellsOf e x μ r μ'
  | _ => False)
def gX2_tellsOf : Nat → Option wS := fun k => match k with
  | _ => none
def uX2_tellsOf : Nat → Option (List Nat) := fun j => match j with | 2 => some [] | _ => none
set_option maxHeartbeats 4000000 in
set_option maxRecDepth 100000 in
theorem vcX2_tellsOf_0 (K : wK) (R : Int32 → wM → Prop) (e : Int32) (x : Int32) (μ : wM) (h : K 2 [some (.ref 2), some (.int e), some (.int x), some (.int 0)] [] μ) : w_n 2 gX2_tellsOf shX rfX 43 (some .boolean) R tX2_tellsOf uX2_tellsOf K 20 0 [some (.ref 2), some (.int e), some (.int x), none] [] μ :=
  h
set_option maxHeartbeats 4000000 in
set_option maxRecDepth 100000 in
theorem vcX2_tellsOf_2 (K : wK) (R : Int32 → wM → Prop) (e : Int32) (x : Int32) (l3 : Int32) (μ : wM) (h : (
    ((((μ 2 5) : Int32) ≤ l3) → R 0 μ) ∧
    (¬ (((μ 2 5) : Int32) ≤ l3) → (vp_in l3 160) ∧ (
      ((((μ 14 (l3 : Int32).toNatClampNeg) : Int32) = e) → (
        ((((μ 15 (l3 : Int32).toNatClampNeg) : Int32) = x) → R 1 μ) ∧
        (¬ (((μ 15 (l3 : Int32).toNatClampNeg) : Int32) = x) → K 2 [some (.ref 2), some (.int e), some (.int x), some (.int (l3 + 1))] [] μ))) ∧
      (¬ (((μ 14 (l3 : Int32).toNatClampNeg) : Int32) = e) → K 2 [some (.ref 2), some (.int e), some (.int x), some (.int (l3 + 1))] [] μ))))) : w_n 2 gX2_tellsOf shX rfX 43 (some .boolean) R tX2_tellsOf uX2_tellsOf K 20 2 [some (.ref 2), some (.int e), some (.int x), some (.int l3)] [] μ :=
  And.intro (And.intro (of_decide_eq_true rfl) rfl) (And.intro (fun z181 => And.intro (Or.inl rfl) ((h.1 z181))) (fun z182 => And.intro (And.intro (of_decide_eq_true rfl) rfl) (And.intro (And.intro (of_decide_eq_true rfl) (Exists.intro _ (And.intro rfl ((h.2 z182).1)))) (And.intro (fun z183 => And.intro (And.intro (of_decide_eq_true rfl) rfl) (And.intro (And.intro (of_decide_eq_true rfl) (Exists.intro _ (And.intro rfl ((h.2 z182).1)))) (And.intro (fun z185 => And.intro (Or.inr rfl) ((((h.2 z182).2.1 z183).1 z185))) (fun z186 => (((h.2 z182).2.1 z183).2 z186))))) (fun z184 => ((h.2 z182).2.2 z184))))))
set_option maxHeartbeats 4000000 in
theorem vX2_tellsOf (e : Int32) (x : Int32) (μ : wM) (h : pX2_tellsOf e x μ) (K : wK) (hK : w_cl 2 gX2_tellsOf shX rfX 43 (some .boolean) (qX2_tellsOf e x μ) tX2_tellsOf K) : K 0 [some (.ref 2), some (.int e), some (.int x), none] [] μ := by
  unfold pX2_tellsOf at h
  obtain ⟨c, hc, hcn, hcl⟩ := vp_in_le h (by decide)
  have loop : ∀ (k i : Nat), i + k = c → (∀ j, j < i → ¬ (μ 14 j = e ∧ μ 15 j = x)) → K 2 [some (.ref 2), some (.int e), some (.int x), some (.int (nI i))] [] μ := by
    intro k
    induction k with
    | zero =>
      intro i hi hno
      refine hK uX2_tellsOf 20 _ _ _ _ (vcX2_tellsOf_2 K _ e x (nI i) μ ?_)
      rw [hcn]
      refine ⟨fun _ => ⟨?_, rfl⟩, fun z => absurd (nI_le (by omega) (by omega)) z⟩
      rw [hcl, w_tells_no (by rw [← show i = c by omega]; exact hno)]
      rfl
    | succ k ih =>
      intro i hi hno
      refine hK uX2_tellsOf 20 _ _ _ _ (vcX2_tellsOf_2 K _ e x (nI i) μ ?_)
      rw [hcn, nI_clamp (by omega), nI_1]
      have nx : ¬ (μ 14 i = e ∧ μ 15 i = x) → K 2 [some (.ref 2), some (.int e), some (.int x), some (.int (nI (i + 1)))] [] μ := fun hn => ih (i + 1) (by omega) (fun j hj => by
        by_cases hji : j = i
        · rw [hji]; exact hn
        · exact hno j (by omega))
      refine ⟨fun z => absurd z (nI_ge (by omega) (by omega)), fun _ => ⟨vp_in_nI (by omega) (by omega), fun z1 => ⟨fun z2 => ⟨w_B01_t ?_, rfl⟩, fun z2 => nx (fun z => z2 z.2)⟩, fun z1 => nx (fun z => z1 z.1)⟩⟩
      rw [hcl]
      exact w_tells_at (i := i) (by omega) z1 z2
  refine hK uX2_tellsOf 20 _ _ _ _ (vcX2_tellsOf_0 K _ e x μ ?_)
  have z := loop c 0 (by omega) (fun j hj => absurd hj (Nat.not_lt_zero _))
  rw [nI_0] at z
  exact z
set_option maxRecDepth 100000 in
theorem zX2_tellsOf (l : Launch) : ∀ (idx : Nat) (S : wS), gX2_tellsOf idx = some S → w_Call l 2 idx S 1 shX rfX 43 := by
  intro idx S hS
  unfold gX2_tellsOf at hS
  split at hS
  · cases hS
theorem mX2_tellsOf (l : Launch) : w_Met l yX2_tellsOf cX2_tellsOf 4 (some .boolean) 1 shX rfX 43 sX2_tellsOf.2.2.2.1 sX2_tellsOf.2.2.2.2 :=
  w_meth (o := 2) (Γ := gX2_tellsOf) (tb := tX2_tellsOf) (by decide +kernel) rfl kX2_tellsOf rfl (zX2_tellsOf l) (fun as μ h => by obtain ⟨e, x, rfl, h⟩ := h; exact Nat.le_of_ble_eq_true rfl) (fun as μ h K hK => by obtain ⟨e, x, rfl, h⟩ := h; exact vX2_tellsOf e x μ h K hK)
set_option maxRecDepth 100000 in
theorem eX2_tellsOf : Cond.code yX2_tellsOf cX2_tellsOf 4 (some .boolean) ∈ w_tbl ∧ Cond.instanceMethod yX2_tellsOf ∈ w_tbl ∧ Cond.selects (w_C 2) yX2_tellsOf yX2_tellsOf ∈ w_tbl ∧ Cond.initialized yX2_tellsOf.cls ∈ w_tbl := ⟨by decide +kernel, by decide +kernel, by decide +kernel, by decide +kernel⟩
theorem rX2_tellsOf : ∀ as μ, sX2_tellsOf.2.2.2.1 as μ → ∃ q as', as = .ref q :: as' ∧ q < 43 ∧ shX q = .inl 2 := by
  intro as μ h
  obtain ⟨e, x, rfl, h⟩ := h
  exact ⟨_, _, rfl, by decide, rfl⟩

/-! X5_hold -/
def pX5_hold (q : Nat) (a : Int32) (n : Int32) (μ : wM) : Prop := q < 43 ∧ shX q = .inl 5 ∧ ∃ j, j < 4 ∧ q = j + 35
def qX5_hold (q : Nat) (a : Int32) (n : Int32) (μ : wM) (r : Int32) (μ' : wM) : Prop := r = n ∧ μ' = w_fill (w_up (w_up (w_up μ q 1 1) q 2 a) q 3 n) (q + 4) 60 0
def sX5_hold : wS := (false, false, 3, fun as μ => ∃ q, ∃ a, ∃ n, as = [.ref q, .int a, .int n] ∧ pX5_hold q a n μ, fun as μ r μ' => match as with
  | [.ref q, .int a, .int n] => qX5_hold q a n μ r μ'
  | _ => False)
def gX5_hold : Nat → Option wS := fun k => match k with
  | 26 => some sJ7_fill_53178
  | _ => none
def uX5_hold : Nat → Option (List Nat) := fun _ => none
set_option maxHeartbeats 4000000 in
set_option maxRecDepth 100000 in
theorem vcX5_hold_0 (K : wK) (R : Int32 → wM → Prop) (q : Nat) (a : Int32) (n : Int32) (μ : wM) (h : (q < 43 ∧ shX q = .inl 5) ∧ pJ7_fill_53178 (rfX q 0) 0 (w_up (w_up (w_up μ q 1 1) q 2 a) q 3 n) ∧ (∀ (r1 : Int32) (m2 : wM), qJ7_fill_53178 (rfX q 0) 0 (w_up (w_up (w_up μ q 1 1) q 2 a) q 3 n) r1 m2 →
    R n m2)) : w_n 5 gX5_hold shX rfX 43 (some .int) R tX5_hold uX5_hold K 16 0 [some (.ref q), some (.int a), some (.int n)] [] μ :=
  And.intro (And.intro (h.1).1 (And.intro (h.1).2 (Or.inr rfl))) (And.intro (And.intro (h.1).1 (And.intro (h.1).2 (trivial))) (And.intro (And.intro (h.1).1 (And.intro (h.1).2 (trivial))) (And.intro (h.1) (And.intro (Exists.intro _ (Exists.intro _ (And.intro rfl (h.2.1)))) (fun r1 m2 z188 => And.intro trivial ((h.2.2 r1 m2 z188)))))))
set_option maxHeartbeats 4000000 in
theorem vX5_hold (q : Nat) (a : Int32) (n : Int32) (μ : wM) (h : pX5_hold q a n μ) (K : wK) (hK : w_cl 5 gX5_hold shX rfX 43 (some .int) (qX5_hold q a n μ) tX5_hold K) : K 0 [some (.ref q), some (.int a), some (.int n)] [] μ := by
  refine hK uX5_hold 16 _ _ _ _ (vcX5_hold_0 K _ q a n μ ?_)
  clear hK
  unfold pX5_hold at h
  unfold qX5_hold
  obtain ⟨h1, h2, j, hj, rfl⟩ := h
  have hs : shX (rfX (j + 35) 0) = .inr (0, 60) := shX_it j
  have ha : w_al shX (rfX (j + 35) 0) = 60 := by unfold w_al; rw [hs]
  refine ⟨⟨h1, h2⟩, ⟨by show j + 39 < 43; omega, by rw [ha]; exact hs, by rw [ha]; decide⟩, fun r m z => ⟨rfl, ?_⟩⟩
  unfold qJ7_fill_53178 at z
  rw [ha] at z
  exact z
set_option maxRecDepth 100000 in
theorem zX5_hold (l : Launch) : ∀ (idx : Nat) (S : wS), gX5_hold idx = some S → w_Call l 5 idx S 2 shX rfX 43 := by
  intro idx S hS
  unfold gX5_hold at hS
  split at hS
  · cases hS
    exact w_callS (mJ7_fill_53178 l) eJ7_fill_53178.1 (by decide +kernel) eJ7_fill_53178.2.1 eJ7_fill_53178.2.2 (by decide +kernel) (by decide) (by decide)
  · cases hS
theorem mX5_hold (l : Launch) : w_Met l yX5_hold cX5_hold 3 (some .int) 2 shX rfX 43 sX5_hold.2.2.2.1 sX5_hold.2.2.2.2 :=
  w_meth (o := 5) (Γ := gX5_hold) (tb := tX5_hold) (by decide +kernel) rfl kX5_hold rfl (zX5_hold l) (fun as μ h => by obtain ⟨q, a, n, rfl, h⟩ := h; exact Nat.le_of_ble_eq_true rfl) (fun as μ h K hK => by obtain ⟨q, a, n, rfl, h⟩ := h; exact vX5_hold q a n μ h K hK)
set_option maxRecDepth 100000 in
theorem eX5_hold : Cond.code yX5_hold cX5_hold 3 (some .int) ∈ w_tbl ∧ Cond.instanceMethod yX5_hold ∈ w_tbl ∧ Cond.selects (w_C 5) yX5_hold yX5_hold ∈ w_tbl ∧ Cond.initialized yX5_hold.cls ∈ w_tbl := ⟨by decide +kernel, by decide +kernel, by decide +kernel, by decide +kernel⟩
theorem rX5_hold : ∀ as μ, sX5_hold.2.2.2.1 as μ → ∃ q as', as = .ref q :: as' ∧ q < 43 ∧ shX q = .inl 5 := by
  intro as μ h
  obtain ⟨q, a, n, rfl, h⟩ := h
  exact ⟨_, _, rfl, h.1, h.2.1⟩

/-! X5_let -/
def pX5_let (q : Nat) (μ : wM) : Prop := q < 43 ∧ shX q = .inl 5 ∧ True
def qX5_let (q : Nat) (μ : wM) (r : Int32) (μ' : wM) : Prop := r = μ q 3 ∧ μ' = w_up μ q 1 0
def sX5_let : wS := (false, false, 1, fun as μ => ∃ q, as = [.ref q] ∧ pX5_let q μ, fun as μ r μ' => match as with
  | [.ref q] => qX5_let q μ r μ'
  | _ => False)
def gX5_let : Nat → Option wS := fun k => match k with
  | _ => none
def uX5_let : Nat → Option (List Nat) := fun _ => none
set_option maxHeartbeats 4000000 in
set_option maxRecDepth 100000 in
theorem vcX5_let_0 (K : wK) (R : Int32 → wM → Prop) (q : Nat) (μ : wM) (h : (q < 43 ∧ shX q = .inl 5) ∧ R ((w_up μ q 1 0) q 3) (w_up μ q 1 0)) : w_n 5 gX5_let shX rfX 43 (some .int) R tX5_let uX5_let K 7 0 [some (.ref q)] [] μ :=
  And.intro (And.intro (h.1).1 (And.intro (h.1).2 (Or.inl rfl))) (And.intro (h.1) (And.intro trivial (h.2)))
set_option maxHeartbeats 4000000 in
theorem vX5_let (q : Nat) (μ : wM) (h : pX5_let q μ) (K : wK) (hK : w_cl 5 gX5_let shX rfX 43 (some .int) (qX5_let q μ) tX5_let K) : K 0 [some (.ref q)] [] μ := by
  refine hK uX5_let 7 _ _ _ _ (vcX5_let_0 K _ q μ ?_)
  clear hK
  unfold pX5_let at h
  unfold qX5_let
  refine ⟨⟨h.1, h.2.1⟩, ?_, rfl⟩
  simp [w_up]
set_option maxRecDepth 100000 in
theorem zX5_let (l : Launch) : ∀ (idx : Nat) (S : wS), gX5_let idx = some S → w_Call l 5 idx S 1 shX rfX 43 := by
  intro idx S hS
  unfold gX5_let at hS
  split at hS
  · cases hS
theorem mX5_let (l : Launch) : w_Met l yX5_let cX5_let 1 (some .int) 1 shX rfX 43 sX5_let.2.2.2.1 sX5_let.2.2.2.2 :=
  w_meth (o := 5) (Γ := gX5_let) (tb := tX5_let) (by decide +kernel) rfl kX5_let rfl (zX5_let l) (fun as μ h => by obtain ⟨q, rfl, h⟩ := h; exact Nat.le_of_ble_eq_true rfl) (fun as μ h K hK => by obtain ⟨q, rfl, h⟩ := h; exact vX5_let q μ h K hK)
set_option maxRecDepth 100000 in
theorem eX5_let : Cond.code yX5_let cX5_let 1 (some .int) ∈ w_tbl ∧ Cond.instanceMethod yX5_let ∈ w_tbl ∧ Cond.selects (w_C 5) yX5_let yX5_let ∈ w_tbl ∧ Cond.initialized yX5_let.cls ∈ w_tbl := ⟨by decide +kernel, by decide +kernel, by decide +kernel, by decide +kernel⟩
theorem rX5_let : ∀ as μ, sX5_let.2.2.2.1 as μ → ∃ q as', as = .ref q :: as' ∧ q < 43 ∧ shX q = .inl 5 := by
  intro as μ h
  obtain ⟨q, rfl, h⟩ := h
  exact ⟨_, _, rfl, h.1, h.2.1⟩

/-! X5_foundIn -/
def pX5_foundIn (q : Nat) (a : Int32) (i : Int32) (n : Int32) (μ : wM) : Prop := q < 43 ∧ shX q = .inl 5 ∧ True
def qX5_foundIn (q : Nat) (a : Int32) (i : Int32) (n : Int32) (μ : wM) (r : Int32) (μ' : wM) : Prop := r = (w_found (μ q 1) (μ q 2) (μ q 3) a i n) ∧ μ' = μ
def sX5_foundIn : wS := (false, false, 4, fun as μ => ∃ q, ∃ a, ∃ i, ∃ n, as = [.ref q, .int a, .int i, .int n] ∧ pX5_foundIn q a i n μ, fun as μ r μ' => match as with
  | [.ref q, .int a, .int i, .int n] => qX5_foundIn q a i n μ r μ'
  | _ => False)
def gX5_foundIn : Nat → Option wS := fun k => match k with
  | _ => none
def uX5_foundIn : Nat → Option (List Nat) := fun _ => none
set_option maxHeartbeats 4000000 in
set_option maxRecDepth 100000 in
theorem vcX5_foundIn_0 (K : wK) (R : Int32 → wM → Prop) (q : Nat) (a : Int32) (i : Int32) (n : Int32) (μ : wM) (h : (q < 43 ∧ shX q = .inl 5) ∧ (
    ((((μ q 1) : Int32) = 0) → R (-11) μ) ∧
    (¬ (((μ q 1) : Int32) = 0) → (
      ((((μ q 2) : Int32) = a) → (
        (((i : Int32) < 0) → R (-13) μ) ∧
        (¬ ((i : Int32) < 0) → (
          (((n : Int32) ≤ ((μ q 3) - i)) → R 0 μ) ∧
          (¬ ((n : Int32) ≤ ((μ q 3) - i)) → R (-13) μ))))) ∧
      (¬ (((μ q 2) : Int32) = a) → R (-12) μ))))) : w_n 5 gX5_foundIn shX rfX 43 (some .int) R tX5_foundIn uX5_foundIn K 19 0 [some (.ref q), some (.int a), some (.int i), some (.int n)] [] μ :=
  And.intro (h.1) (And.intro (fun z197 => And.intro trivial ((h.2.1 z197))) (fun z198 => And.intro (h.1) (And.intro (fun z199 => And.intro (fun z201 => And.intro trivial ((((h.2.2 z198).1 z199).1 z201))) (fun z202 => And.intro (h.1) (And.intro (fun z203 => And.intro trivial (((((h.2.2 z198).1 z199).2 z202).1 z203))) (fun z204 => And.intro trivial (((((h.2.2 z198).1 z199).2 z202).2 z204)))))) (fun z200 => And.intro trivial (((h.2.2 z198).2 z200))))))
set_option maxHeartbeats 4000000 in
theorem vX5_foundIn (q : Nat) (a : Int32) (i : Int32) (n : Int32) (μ : wM) (h : pX5_foundIn q a i n μ) (K : wK) (hK : w_cl 5 gX5_foundIn shX rfX 43 (some .int) (qX5_foundIn q a i n μ) tX5_foundIn K) : K 0 [some (.ref q), some (.int a), some (.int i), some (.int n)] [] μ := by
  refine hK uX5_foundIn 19 _ _ _ _ (vcX5_foundIn_0 K _ q a i n μ ?_)
  clear hK
  unfold pX5_foundIn at h
  unfold qX5_foundIn
  unfold w_found
  refine ⟨⟨h.1, h.2.1⟩, fun c1 => ⟨?_, rfl⟩, fun c1 => ⟨fun c2 => ⟨fun c3 => ⟨?_, rfl⟩, fun c3 => ⟨fun c4 => ⟨?_, rfl⟩, fun c4 => ⟨?_, rfl⟩⟩⟩, fun c2 => ⟨?_, rfl⟩⟩⟩
  · rw [if_pos c1]
  · rw [if_neg c1, if_neg (fun z => z c2), if_pos (Or.inl c3)]
  · rw [if_neg c1, if_neg (fun z => z c2), if_neg]
    rintro (z | z)
    · exact c3 z
    · exact i_nlt.mpr c4 z
  · rw [if_neg c1, if_neg (fun z => z c2), if_pos (Or.inr (i_nle.mp c4))]
  · rw [if_neg c1, if_pos c2]
set_option maxRecDepth 100000 in
theorem zX5_foundIn (l : Launch) : ∀ (idx : Nat) (S : wS), gX5_foundIn idx = some S → w_Call l 5 idx S 1 shX rfX 43 := by
  intro idx S hS
  unfold gX5_foundIn at hS
  split at hS
  · cases hS
theorem mX5_foundIn (l : Launch) : w_Met l yX5_foundIn cX5_foundIn 4 (some .int) 1 shX rfX 43 sX5_foundIn.2.2.2.1 sX5_foundIn.2.2.2.2 :=
  w_meth (o := 5) (Γ := gX5_foundIn) (tb := tX5_foundIn) (by decide +kernel) rfl kX5_foundIn rfl (zX5_foundIn l) (fun as μ h => by obtain ⟨q, a, i, n, rfl, h⟩ := h; exact Nat.le_of_ble_eq_true rfl) (fun as μ h K hK => by obtain ⟨q, a, i, n, rfl, h⟩ := h; exact vX5_foundIn q a i n μ h K hK)
set_option maxRecDepth 100000 in
theorem eX5_foundIn : Cond.code yX5_foundIn cX5_foundIn 4 (some .int) ∈ w_tbl ∧ Cond.instanceMethod yX5_foundIn ∈ w_tbl ∧ Cond.selects (w_C 5) yX5_foundIn yX5_foundIn ∈ w_tbl ∧ Cond.initialized yX5_foundIn.cls ∈ w_tbl := ⟨by decide +kernel, by decide +kernel, by decide +kernel, by decide +kernel⟩
theorem rX5_foundIn : ∀ as μ, sX5_foundIn.2.2.2.1 as μ → ∃ q as', as = .ref q :: as' ∧ q < 43 ∧ shX q = .inl 5 := by
  intro as μ h
  obtain ⟨q, a, i, n, rfl, h⟩ := h
  exact ⟨_, _, rfl, h.1, h.2.1⟩

/-! X5_put -/
def pX5_put (q : Nat) (i : Int32) (v : Int32) (μ : wM) : Prop := q < 43 ∧ shX q = .inl 5 ∧ w_inA shX 43 0 (rfX q 0) i
def qX5_put (q : Nat) (i : Int32) (v : Int32) (μ : wM) (r : Int32) (μ' : wM) : Prop := μ' = w_up μ (rfX q 0) i.toNatClampNeg (w_lane (μ q 2) v)
def sX5_put : wS := (false, true, 3, fun as μ => ∃ q, ∃ i, ∃ v, as = [.ref q, .int i, .int v] ∧ pX5_put q i v μ, fun as μ r μ' => match as with
  | [.ref q, .int i, .int v] => qX5_put q i v μ r μ'
  | _ => False)
def gX5_put : Nat → Option wS := fun k => match k with
  | _ => none
def uX5_put : Nat → Option (List Nat) := fun _ => none
set_option maxHeartbeats 4000000 in
set_option maxRecDepth 100000 in
theorem vcX5_put_0 (K : wK) (R : Int32 → wM → Prop) (q : Nat) (i : Int32) (v : Int32) (μ : wM) (h : (q < 43 ∧ shX q = .inl 5) ∧ (
    ((((μ q 2) : Int32) = 0) → (w_inA shX 43 0 (rfX q 0) i) ∧ R 0 (w_up μ (rfX q 0) (i : Int32).toNatClampNeg ((v : Int32).toInt8.toInt32))) ∧
    (¬ (((μ q 2) : Int32) = 0) → (
      ((((μ q 2) : Int32) = 1) → (w_inA shX 43 0 (rfX q 0) i) ∧ R 0 (w_up μ (rfX q 0) (i : Int32).toNatClampNeg ((v : Int32).toInt16.toInt32))) ∧
      (¬ (((μ q 2) : Int32) = 1) → (w_inA shX 43 0 (rfX q 0) i) ∧ R 0 (w_up μ (rfX q 0) (i : Int32).toNatClampNeg v)))))) : w_n 5 gX5_put shX rfX 43 none R tX5_put uX5_put K 16 0 [some (.ref q), some (.int i), some (.int v)] [] μ :=
  And.intro (h.1) (And.intro (h.1) (And.intro (fun z209 => And.intro ((h.2.1 z209).1) ((h.2.1 z209).2)) (fun z210 => And.intro (h.1) (And.intro (fun z211 => And.intro (((h.2.2 z210).1 z211).1) (((h.2.2 z210).1 z211).2)) (fun z212 => And.intro (((h.2.2 z210).2 z212).1) (((h.2.2 z210).2 z212).2))))))
set_option maxHeartbeats 4000000 in
theorem vX5_put (q : Nat) (i : Int32) (v : Int32) (μ : wM) (h : pX5_put q i v μ) (K : wK) (hK : w_cl 5 gX5_put shX rfX 43 none (qX5_put q i v μ) tX5_put K) : K 0 [some (.ref q), some (.int i), some (.int v)] [] μ := by
  refine hK uX5_put 16 _ _ _ _ (vcX5_put_0 K _ q i v μ ?_)
  clear hK
  unfold pX5_put at h
  unfold qX5_put
  unfold w_lane
  refine ⟨⟨h.1, h.2.1⟩, fun c1 => ⟨h.2.2, ?_⟩, fun c1 => ⟨fun c2 => ⟨h.2.2, ?_⟩, fun c2 => ⟨h.2.2, ?_⟩⟩⟩
  · rw [if_pos c1]
  · rw [if_neg c1, if_pos c2]
  · rw [if_neg c1, if_neg c2]
set_option maxRecDepth 100000 in
theorem zX5_put (l : Launch) : ∀ (idx : Nat) (S : wS), gX5_put idx = some S → w_Call l 5 idx S 1 shX rfX 43 := by
  intro idx S hS
  unfold gX5_put at hS
  split at hS
  · cases hS
theorem mX5_put (l : Launch) : w_Met l yX5_put cX5_put 3 none 1 shX rfX 43 sX5_put.2.2.2.1 sX5_put.2.2.2.2 :=
  w_meth (o := 5) (Γ := gX5_put) (tb := tX5_put) (by decide +kernel) rfl kX5_put rfl (zX5_put l) (fun as μ h => by obtain ⟨q, i, v, rfl, h⟩ := h; exact Nat.le_of_ble_eq_true rfl) (fun as μ h K hK => by obtain ⟨q, i, v, rfl, h⟩ := h; exact vX5_put q i v μ h K hK)
set_option maxRecDepth 100000 in
theorem eX5_put : Cond.code yX5_put cX5_put 3 none ∈ w_tbl ∧ Cond.instanceMethod yX5_put ∈ w_tbl ∧ Cond.selects (w_C 5) yX5_put yX5_put ∈ w_tbl ∧ Cond.initialized yX5_put.cls ∈ w_tbl := ⟨by decide +kernel, by decide +kernel, by decide +kernel, by decide +kernel⟩
theorem rX5_put : ∀ as μ, sX5_put.2.2.2.1 as μ → ∃ q as', as = .ref q :: as' ∧ q < 43 ∧ shX q = .inl 5 := by
  intro as μ h
  obtain ⟨q, i, v, rfl, h⟩ := h
  exact ⟨_, _, rfl, h.1, h.2.1⟩

/-! X4_become -/
def pX4_become (k : Int32) (μ : wM) : Prop := 0 ≤ k ∧ k ≤ 6
def qX4_become (k : Int32) (μ : wM) (r : Int32) (μ' : wM) : Prop := μ' = w_up (w_cp μ 24 26 0 0 k.toNatClampNeg) 5 1 k
def sX4_become : wS := (false, true, 3, fun as μ => ∃ k, as = [.ref 5, .ref 24, .int k] ∧ pX4_become k μ, fun as μ r μ' => match as with
  | [.ref _, .ref _, .int k] => qX4_become k μ r μ'
  | _ => False)
def gX4_become : Nat → Option wS := fun k => match k with
  | 19 => some (sCopy shX 43)
  | _ => none
def uX4_become : Nat → Option (List Nat) := fun _ => none
set_option maxHeartbeats 4000000 in
set_option maxRecDepth 100000 in
theorem vcX4_become_0 (K : wK) (R : Int32 → wM → Prop) (k : Int32) (μ : wM) (h : (sCopy_ok shX 43 24 0 26 0 k) ∧ R 0 (w_up (w_cp μ 24 26 (0 : Int32).toNatClampNeg (0 : Int32).toNatClampNeg (k : Int32).toNatClampNeg) 5 1 k)) : w_n 4 gX4_become shX rfX 43 none R tX4_become uX4_become K 12 0 [some (.ref 5), some (.ref 24), some (.int k)] [] μ :=
  And.intro (And.intro (of_decide_eq_true rfl) rfl) (And.intro (h.1) (fun _ _ z214 => by cases z214; exact And.intro (And.intro (of_decide_eq_true rfl) (And.intro rfl (trivial))) (h.2)))
set_option maxHeartbeats 4000000 in
theorem vX4_become (k : Int32) (μ : wM) (h : pX4_become k μ) (K : wK) (hK : w_cl 4 gX4_become shX rfX 43 none (qX4_become k μ) tX4_become K) : K 0 [some (.ref 5), some (.ref 24), some (.int k)] [] μ := by
  refine hK uX4_become 12 _ _ _ _ (vcX4_become_0 K _ k μ ?_)
  clear hK
  unfold pX4_become at h
  unfold qX4_become
  have h6 : k.toNatClampNeg ≤ 6 := (cl_le (i := 6) (by decide)).mp h.2
  exact ⟨⟨_, _, _, _, _, rfl, by decide, by decide, 6, 6, rfl, rfl, by decide, by decide, i_nlt.mpr h.1, by show 0 + _ ≤ 6; omega, by show 0 + _ ≤ 6; omega⟩, rfl⟩
set_option maxRecDepth 100000 in
theorem zX4_become (l : Launch) : ∀ (idx : Nat) (S : wS), gX4_become idx = some S → w_Call l 4 idx S 1 shX rfX 43 := by
  intro idx S hS
  unfold gX4_become at hS
  split at hS
  · cases hS
    exact w_callCopy (by decide) (by decide +kernel) (by decide +kernel) (by decide +kernel) (by decide +kernel)
  · cases hS
theorem mX4_become (l : Launch) : w_Met l yX4_become cX4_become 3 none 1 shX rfX 43 sX4_become.2.2.2.1 sX4_become.2.2.2.2 :=
  w_meth (o := 4) (Γ := gX4_become) (tb := tX4_become) (by decide +kernel) rfl kX4_become rfl (zX4_become l) (fun as μ h => by obtain ⟨k, rfl, h⟩ := h; exact Nat.le_of_ble_eq_true rfl) (fun as μ h K hK => by obtain ⟨k, rfl, h⟩ := h; exact vX4_become k μ h K hK)
set_option maxRecDepth 100000 in
theorem eX4_become : Cond.code yX4_become cX4_become 3 none ∈ w_tbl ∧ Cond.instanceMethod yX4_become ∈ w_tbl ∧ Cond.selects (w_C 4) yX4_become yX4_become ∈ w_tbl ∧ Cond.initialized yX4_become.cls ∈ w_tbl := ⟨by decide +kernel, by decide +kernel, by decide +kernel, by decide +kernel⟩
theorem rX4_become : ∀ as μ, sX4_become.2.2.2.1 as μ → ∃ q as', as = .ref q :: as' ∧ q < 43 ∧ shX q = .inl 4 := by
  intro as μ h
  obtain ⟨k, rfl, h⟩ := h
  exact ⟨_, _, rfl, by decide, rfl⟩

/-! X4_of -/
def pX4_of (p : Int32) (k : Int32) (μ : wM) : Prop := vp_in (μ 5 1) 7
def qX4_of (p : Int32) (k : Int32) (μ : wM) (r : Int32) (μ' : wM) : Prop := r = ((p * w_sum (μ 26) (min k.toNatClampNeg (μ 5 1).toNatClampNeg)) / 100) ∧ μ' = μ
def sX4_of : wS := (false, false, 3, fun as μ => ∃ p, ∃ k, as = [.ref 5, .int p, .int k] ∧ pX4_of p k μ, fun as μ r μ' => match as with
  | [.ref _, .int p, .int k] => qX4_of p k μ r μ'
  | _ => False)
def gX4_of : Nat → Option wS := fun k => match k with
  | _ => none
def uX4_of : Nat → Option (List Nat) := fun j => match j with | 4 => some [] | _ => none
set_option maxHeartbeats 4000000 in
set_option maxRecDepth 100000 in
theorem vcX4_of_0 (K : wK) (R : Int32 → wM → Prop) (p : Int32) (k : Int32) (μ : wM) (h : K 4 [some (.ref 5), some (.int p), some (.int k), some (.int 0), some (.int 0)] [] μ) : w_n 4 gX4_of shX rfX 43 (some .int) R tX4_of uX4_of K 18 0 [some (.ref 5), some (.int p), some (.int k), none, none] [] μ :=
  h
set_option maxHeartbeats 4000000 in
set_option maxRecDepth 100000 in
theorem vcX4_of_4 (K : wK) (R : Int32 → wM → Prop) (p : Int32) (k : Int32) (l3 : Int32) (l4 : Int32) (μ : wM) (h : (
    (((k : Int32) ≤ l4) → R ((p * l3) / 100) μ) ∧
    (¬ ((k : Int32) ≤ l4) → (
      ((((μ 5 1) : Int32) ≤ l4) → R ((p * l3) / 100) μ) ∧
      (¬ (((μ 5 1) : Int32) ≤ l4) → (vp_in l4 6) ∧ K 4 [some (.ref 5), some (.int p), some (.int k), some (.int (l3 + (μ 26 (l4 : Int32).toNatClampNeg))), some (.int (l4 + 1))] [] μ))))) : w_n 4 gX4_of shX rfX 43 (some .int) R tX4_of uX4_of K 18 4 [some (.ref 5), some (.int p), some (.int k), some (.int l3), some (.int l4)] [] μ :=
  And.intro (fun z219 => And.intro ((by decide)) (And.intro trivial ((h.1 z219)))) (fun z220 => And.intro (And.intro (of_decide_eq_true rfl) rfl) (And.intro (fun z221 => And.intro ((by decide)) (And.intro trivial (((h.2 z220).1 z221)))) (fun z222 => And.intro (And.intro (of_decide_eq_true rfl) rfl) (And.intro (And.intro (of_decide_eq_true rfl) (Exists.intro _ (And.intro rfl (((h.2 z220).2 z222).1)))) (((h.2 z220).2 z222).2)))))
set_option maxHeartbeats 4000000 in
theorem vX4_of (p : Int32) (k : Int32) (μ : wM) (h : pX4_of p k μ) (K : wK) (hK : w_cl 4 gX4_of shX rfX 43 (some .int) (qX4_of p k μ) tX4_of K) : K 0 [some (.ref 5), some (.int p), some (.int k), none, none] [] μ := by
  unfold pX4_of at h
  obtain ⟨c, hc, hcn, hcl⟩ := vp_in_le h (by decide)
  have loop : ∀ (j i : Nat), i + j = min k.toNatClampNeg c → K 4 [some (.ref 5), some (.int p), some (.int k), some (.int (w_sum (μ 26) i)), some (.int (nI i))] [] μ := by
    intro j
    induction j with
    | zero =>
      intro i hi
      refine hK uX4_of 18 _ _ _ _ (vcX4_of_4 K _ p k (w_sum (μ 26) i) (nI i) μ ?_)
      have e : i = min k.toNatClampNeg (μ 5 1).toNatClampNeg := by rw [hcl]; omega
      refine ⟨fun _ => ⟨by rw [← e], rfl⟩, fun z => ⟨fun _ => ⟨by rw [← e], rfl⟩, fun z2 => ?_⟩⟩
      rw [hcn] at z2
      rw [cl_le (by omega)] at z z2
      rw [nI_clamp (by omega)] at z2
      omega
    | succ j ih =>
      intro i hi
      refine hK uX4_of 18 _ _ _ _ (vcX4_of_4 K _ p k (w_sum (μ 26) i) (nI i) μ ?_)
      refine ⟨fun z => ?_, fun _ => ⟨fun z => ?_, fun _ => ⟨vp_in_nI (by omega) (by omega), ?_⟩⟩⟩
      · rw [cl_le (by omega)] at z
        omega
      · rw [hcn, cl_le (by omega), nI_clamp (by omega)] at z
        omega
      · rw [nI_1, nI_clamp (by omega)]
        exact ih (i + 1) (by omega)
  refine hK uX4_of 18 _ _ _ _ (vcX4_of_0 K _ p k μ ?_)
  exact loop (min k.toNatClampNeg c) 0 (by omega)
set_option maxRecDepth 100000 in
theorem zX4_of (l : Launch) : ∀ (idx : Nat) (S : wS), gX4_of idx = some S → w_Call l 4 idx S 1 shX rfX 43 := by
  intro idx S hS
  unfold gX4_of at hS
  split at hS
  · cases hS
theorem mX4_of (l : Launch) : w_Met l yX4_of cX4_of 5 (some .int) 1 shX rfX 43 sX4_of.2.2.2.1 sX4_of.2.2.2.2 :=
  w_meth (o := 4) (Γ := gX4_of) (tb := tX4_of) (by decide +kernel) rfl kX4_of rfl (zX4_of l) (fun as μ h => by obtain ⟨p, k, rfl, h⟩ := h; exact Nat.le_of_ble_eq_true rfl) (fun as μ h K hK => by obtain ⟨p, k, rfl, h⟩ := h; exact vX4_of p k μ h K hK)
set_option maxRecDepth 100000 in
theorem eX4_of : Cond.code yX4_of cX4_of 5 (some .int) ∈ w_tbl ∧ Cond.instanceMethod yX4_of ∈ w_tbl ∧ Cond.selects (w_C 4) yX4_of yX4_of ∈ w_tbl ∧ Cond.initialized yX4_of.cls ∈ w_tbl := ⟨by decide +kernel, by decide +kernel, by decide +kernel, by decide +kernel⟩
theorem rX4_of : ∀ as μ, sX4_of.2.2.2.1 as μ → ∃ q as', as = .ref q :: as' ∧ q < 43 ∧ shX q = .inl 4 := by
  intro as μ h
  obtain ⟨p, k, rfl, h⟩ := h
  exact ⟨_, _, rfl, by decide, rfl⟩

/-! X6_byteOf -/
def pX6_byteOf (w : Int64) (i : Int32) (μ : wM) : Prop := True
def qX6_byteOf (w : Int64) (i : Int32) (μ : wM) (r : Int32) (μ' : wM) : Prop := r = (w_byte w i) ∧ μ' = μ
def sX6_byteOf : wS := (true, false, 2, fun as μ => ∃ w, ∃ i, as = [.long w, .int i] ∧ pX6_byteOf w i μ, fun as μ r μ' => match as with
  | [.long w, .int i] => qX6_byteOf w i μ r μ'
  | _ => False)
def gX6_byteOf : Nat → Option wS := fun k => match k with
  | _ => none
def uX6_byteOf : Nat → Option (List Nat) := fun _ => none
set_option maxHeartbeats 4000000 in
set_option maxRecDepth 100000 in
theorem vcX6_byteOf_0 (K : wK) (R : Int32 → wM → Prop) (w : Int64) (i : Int32) (μ : wM) (h : R (((((w : Int64) >>> (((8 * i) : Int32).toInt64 &&& 63)) &&& 255) : Int64).toInt32) μ) : w_n 6 gX6_byteOf shX rfX 43 (some .int) R tX6_byteOf uX6_byteOf K 10 0 [some (.long w), none, some (.int i)] [] μ :=
  And.intro trivial (h)
set_option maxHeartbeats 4000000 in
theorem vX6_byteOf (w : Int64) (i : Int32) (μ : wM) (h : pX6_byteOf w i μ) (K : wK) (hK : w_cl 6 gX6_byteOf shX rfX 43 (some .int) (qX6_byteOf w i μ) tX6_byteOf K) : K 0 [some (.long w), none, some (.int i)] [] μ := by
  refine hK uX6_byteOf 10 _ _ _ _ (vcX6_byteOf_0 K _ w i μ ?_)
  clear hK
  unfold pX6_byteOf at h
  unfold qX6_byteOf
  exact ⟨rfl, rfl⟩
set_option maxRecDepth 100000 in
theorem zX6_byteOf (l : Launch) : ∀ (idx : Nat) (S : wS), gX6_byteOf idx = some S → w_Call l 6 idx S 1 shX rfX 43 := by
  intro idx S hS
  unfold gX6_byteOf at hS
  split at hS
  · cases hS
theorem mX6_byteOf (l : Launch) : w_Met l yX6_byteOf cX6_byteOf 3 (some .int) 1 shX rfX 43 sX6_byteOf.2.2.2.1 sX6_byteOf.2.2.2.2 :=
  w_meth (o := 6) (Γ := gX6_byteOf) (tb := tX6_byteOf) (by decide +kernel) rfl kX6_byteOf rfl (zX6_byteOf l) (fun as μ h => by obtain ⟨w, i, rfl, h⟩ := h; exact Nat.le_of_ble_eq_true rfl) (fun as μ h K hK => by obtain ⟨w, i, rfl, h⟩ := h; exact vX6_byteOf w i μ h K hK)
set_option maxRecDepth 100000 in
theorem eX6_byteOf : Cond.code yX6_byteOf cX6_byteOf 3 (some .int) ∈ w_tbl ∧ Cond.static yX6_byteOf ∈ w_tbl ∧ Cond.initialized yX6_byteOf.cls ∈ w_tbl := ⟨by decide +kernel, by decide +kernel, by decide +kernel⟩

/-! X6_isTypable -/
def pX6_isTypable (w : Int64) (n : Int32) (μ : wM) : Prop := 1 ≤ n ∧ n ≤ 8
def qX6_isTypable (w : Int64) (n : Int32) (μ : wM) (r : Int32) (μ' : wM) : Prop := r = (w_B01 (w_typ w n.toNatClampNeg)) ∧ μ' = μ
def sX6_isTypable : wS := (true, false, 2, fun as μ => ∃ w, ∃ n, as = [.long w, .int n] ∧ pX6_isTypable w n μ, fun as μ r μ' => match as with
  | [.long w, .int n] => qX6_isTypable w n μ r μ'
  | _ => False)
def gX6_isTypable : Nat → Option wS := fun k => match k with
  | 18 => some sX6_byteOf
  | 22 => some sX7_within
  | _ => none
def uX6_isTypable : Nat → Option (List Nat) := fun j => match j with | 2 => some [1] | _ => none
set_option maxHeartbeats 4000000 in
set_option maxRecDepth 100000 in
theorem vcX6_isTypable_0 (K : wK) (R : Int32 → wM → Prop) (w : Int64) (n : Int32) (μ : wM) (h : K 2 [some (.long w), none, some (.int n), some (.int 0)] [] μ) : w_n 6 gX6_isTypable shX rfX 43 (some .boolean) R tX6_isTypable uX6_isTypable K 14 0 [some (.long w), none, some (.int n), none] [] μ :=
  h
set_option maxHeartbeats 4000000 in
set_option maxRecDepth 100000 in
theorem vcX6_isTypable_2 (K : wK) (R : Int32 → wM → Prop) (w : Int64) (n : Int32) (l3 : Int32) (μ : wM) (h : (
    (((n : Int32) ≤ l3) → R 1 μ) ∧
    (¬ ((n : Int32) ≤ l3) → (
      ((w_inB (w_byte w l3) 32 126) = false → R 0 μ) ∧
      ((w_inB (w_byte w l3) 32 126) = true → K 2 [some (.long w), none, some (.int n), some (.int (l3 + 1))] [] μ))))) : w_n 6 gX6_isTypable shX rfX 43 (some .boolean) R tX6_isTypable uX6_isTypable K 14 2 [some (.long w), none, some (.int n), some (.int l3)] [] μ :=
  And.intro (fun z233 => And.intro (Or.inr rfl) ((h.1 z233))) (fun z234 => And.intro (Exists.intro _ (Exists.intro _ (And.intro rfl (trivial)))) (fun _ _ z237 => by obtain ⟨z235, z236⟩ := z237; subst z235; subst z236; exact And.intro (Exists.intro _ (Exists.intro _ (Exists.intro _ (And.intro rfl (trivial))))) (fun _ _ z240 => by obtain ⟨z238, z239⟩ := z240; subst z238; subst z239; exact And.intro (fun z241 => And.intro (Or.inl rfl) (((h.2 z234).1 (w_B01_0.mp z241)))) (fun z242 => ((h.2 z234).2 (w_B01_n.mp z242))))))
set_option maxHeartbeats 4000000 in
theorem vX6_isTypable (w : Int64) (n : Int32) (μ : wM) (h : pX6_isTypable w n μ) (K : wK) (hK : w_cl 6 gX6_isTypable shX rfX 43 (some .boolean) (qX6_isTypable w n μ) tX6_isTypable K) : K 0 [some (.long w), none, some (.int n), none] [] μ := by
  unfold pX6_isTypable at h
  have h8 : n.toNatClampNeg ≤ 8 := (cl_le (i := 8) (by decide)).mp h.2
  have loop : ∀ (k i : Nat), i + k = n.toNatClampNeg → w_typ w i = true → K 2 [some (.long w), none, some (.int n), some (.int (nI i))] [] μ := by
    intro k
    induction k with
    | zero =>
      intro i hi hy
      refine hK uX6_isTypable 14 _ _ _ _ (vcX6_isTypable_2 K _ w n (nI i) μ ?_)
      refine ⟨fun _ => ⟨w_B01_t (by rw [← show i = n.toNatClampNeg by omega]; exact hy), rfl⟩, fun z => absurd ((cl_le (by omega)).mpr (by omega)) z⟩
    | succ k ih =>
      intro i hi hy
      refine hK uX6_isTypable 14 _ _ _ _ (vcX6_isTypable_2 K _ w n (nI i) μ ?_)
      refine ⟨fun z => ?_, fun _ => ⟨fun z => ⟨w_B01_f ?_, rfl⟩, fun z => ?_⟩⟩
      · rw [cl_le (by omega)] at z
        omega
      · intro y
        have := w_typ_le (i := i + 1) (by omega) y
        unfold w_typ at this
        rw [z, Bool.and_false] at this
        cases this
      · rw [nI_1]
        refine ih (i + 1) (by omega) ?_
        unfold w_typ
        rw [hy, z]
        rfl
  refine hK uX6_isTypable 14 _ _ _ _ (vcX6_isTypable_0 K _ w n μ ?_)
  exact loop n.toNatClampNeg 0 (by omega) rfl
set_option maxRecDepth 100000 in
theorem zX6_isTypable (l : Launch) : ∀ (idx : Nat) (S : wS), gX6_isTypable idx = some S → w_Call l 6 idx S 2 shX rfX 43 := by
  intro idx S hS
  unfold gX6_isTypable at hS
  split at hS
  · cases hS
    exact w_callS (mX6_byteOf l) eX6_byteOf.1 (by decide +kernel) eX6_byteOf.2.1 eX6_byteOf.2.2 (by decide +kernel) (by decide) (by decide)
  · cases hS
    exact w_callSN (mX7_within l) eX7_within.1 (fun U hU => hU.2) eX7_within.2.1 eX7_within.2.2 (by decide +kernel) (by decide) (by decide)
  · cases hS
theorem mX6_isTypable (l : Launch) : w_Met l yX6_isTypable cX6_isTypable 4 (some .boolean) 2 shX rfX 43 sX6_isTypable.2.2.2.1 sX6_isTypable.2.2.2.2 :=
  w_meth (o := 6) (Γ := gX6_isTypable) (tb := tX6_isTypable) (by decide +kernel) rfl kX6_isTypable rfl (zX6_isTypable l) (fun as μ h => by obtain ⟨w, n, rfl, h⟩ := h; exact Nat.le_of_ble_eq_true rfl) (fun as μ h K hK => by obtain ⟨w, n, rfl, h⟩ := h; exact vX6_isTypable w n μ h K hK)
set_option maxRecDepth 100000 in
theorem eX6_isTypable : Cond.code yX6_isTypable cX6_isTypable 4 (some .boolean) ∈ w_tbl ∧ Cond.static yX6_isTypable ∈ w_tbl ∧ Cond.initialized yX6_isTypable.cls ∈ w_tbl := ⟨by decide +kernel, by decide +kernel, by decide +kernel⟩

/-! X6_isFullFor -/
def pX6_isFullFor (n : Int32) (μ : wM) : Prop := True
def qX6_isFullFor (n : Int32) (μ : wM) (r : Int32) (μ' : wM) : Prop := r = (w_B01 (decide (40 < μ 4 1 + n))) ∧ μ' = μ
def sX6_isFullFor : wS := (false, false, 2, fun as μ => ∃ n, as = [.ref 4, .int n] ∧ pX6_isFullFor n μ, fun as μ r μ' => match as with
  | [.ref _, .int n] => qX6_isFullFor n μ r μ'
  | _ => False)
def gX6_isFullFor : Nat → Option wS := fun k => match k with
  | _ => none
def uX6_isFullFor : Nat → Option (List Nat) := fun _ => none
set_option maxHeartbeats 4000000 in
set_option maxRecDepth 100000 in
theorem vcX6_isFullFor_0 (K : wK) (R : Int32 → wM → Prop) (n : Int32) (μ : wM) (h : (
    (((((μ 4 1) + n) : Int32) ≤ 40) → R 0 μ) ∧
    (¬ ((((μ 4 1) + n) : Int32) ≤ 40) → R 1 μ))) : w_n 6 gX6_isFullFor shX rfX 43 (some .boolean) R tX6_isFullFor uX6_isFullFor K 10 0 [some (.ref 4), some (.int n)] [] μ :=
  And.intro (And.intro (of_decide_eq_true rfl) rfl) (And.intro (fun z245 => And.intro (Or.inl rfl) ((h.1 z245))) (fun z246 => And.intro (Or.inr rfl) ((h.2 z246))))
set_option maxHeartbeats 4000000 in
theorem vX6_isFullFor (n : Int32) (μ : wM) (h : pX6_isFullFor n μ) (K : wK) (hK : w_cl 6 gX6_isFullFor shX rfX 43 (some .boolean) (qX6_isFullFor n μ) tX6_isFullFor K) : K 0 [some (.ref 4), some (.int n)] [] μ := by
  refine hK uX6_isFullFor 10 _ _ _ _ (vcX6_isFullFor_0 K _ n μ ?_)
  clear hK
  unfold pX6_isFullFor at h
  unfold qX6_isFullFor
  refine ⟨fun c => ⟨w_B01_f ?_, rfl⟩, fun c => ⟨w_B01_t ?_, rfl⟩⟩
  · simp only [decide_eq_true_eq]; exact i_nlt.mpr c
  · simp only [decide_eq_true_eq]; exact i_nle.mp c
set_option maxRecDepth 100000 in
theorem zX6_isFullFor (l : Launch) : ∀ (idx : Nat) (S : wS), gX6_isFullFor idx = some S → w_Call l 6 idx S 1 shX rfX 43 := by
  intro idx S hS
  unfold gX6_isFullFor at hS
  split at hS
  · cases hS
theorem mX6_isFullFor (l : Launch) : w_Met l yX6_isFullFor cX6_isFullFor 2 (some .boolean) 1 shX rfX 43 sX6_isFullFor.2.2.2.1 sX6_isFullFor.2.2.2.2 :=
  w_meth (o := 6) (Γ := gX6_isFullFor) (tb := tX6_isFullFor) (by decide +kernel) rfl kX6_isFullFor rfl (zX6_isFullFor l) (fun as μ h => by obtain ⟨n, rfl, h⟩ := h; exact Nat.le_of_ble_eq_true rfl) (fun as μ h K hK => by obtain ⟨n, rfl, h⟩ := h; exact vX6_isFullFor n μ h K hK)
set_option maxRecDepth 100000 in
theorem eX6_isFullFor : Cond.code yX6_isFullFor cX6_isFullFor 2 (some .boolean) ∈ w_tbl ∧ Cond.instanceMethod yX6_isFullFor ∈ w_tbl ∧ Cond.selects (w_C 6) yX6_isFullFor yX6_isFullFor ∈ w_tbl ∧ Cond.initialized yX6_isFullFor.cls ∈ w_tbl := ⟨by decide +kernel, by decide +kernel, by decide +kernel, by decide +kernel⟩
theorem rX6_isFullFor : ∀ as μ, sX6_isFullFor.2.2.2.1 as μ → ∃ q as', as = .ref q :: as' ∧ q < 43 ∧ shX q = .inl 6 := by
  intro as μ h
  obtain ⟨n, rfl, h⟩ := h
  exact ⟨_, _, rfl, by decide, rfl⟩
end
section
def w_tp (μ : wM) (w : Int64) (n L j : Nat) : wM := fun a b => if a = 25 ∧ L ≤ b ∧ b < L + j then w_byte w (nI (n - 1 - (b - L))) else if a = 4 ∧ b = 1 then nI (L + j) else μ a b
theorem w_tp_0 {μ : wM} {w : Int64} {n L : Nat} (h : μ 4 1 = nI L) : w_tp μ w n L 0 = μ := by
  funext a b
  unfold w_tp
  rw [if_neg (by omega)]
  by_cases e : a = 4 ∧ b = 1
  · rw [if_pos e, e.1, e.2, h]; rfl
  · rw [if_neg e]
theorem w_tp_s {μ : wM} {w : Int64} {n L j : Nat} (hj : j < n) : w_up (w_up (w_tp μ w n L j) 25 (L + j) (w_byte w (nI (n - 1 - j)))) 4 1 (nI (L + j + 1)) = w_tp μ w n L (j + 1) := by
  funext a b
  unfold w_up w_tp
  by_cases e4 : a = 4 ∧ b = 1
  · obtain ⟨rfl, rfl⟩ := e4
    simp
    rfl
  · rw [if_neg e4, if_neg e4, if_neg e4]
    by_cases e : a = 25 ∧ b = L + j
    · obtain ⟨rfl, rfl⟩ := e
      rw [if_pos ⟨rfl, rfl⟩, if_pos ⟨rfl, by omega, by omega⟩, Nat.add_sub_cancel_left]
    · rw [if_neg e]
      by_cases e2 : a = 25 ∧ L ≤ b ∧ b < L + j
      · rw [if_pos e2, if_pos ⟨e2.1, e2.2.1, by omega⟩]
      · rw [if_neg e2, if_neg (fun z => e2 ⟨z.1, z.2.1, by
          have := z.2.2
          have : b ≠ L + j := fun q => e ⟨z.1, q⟩
          omega⟩)]
def w_skip (p : Nat → Bool) (i : Nat) : Nat → Nat
  | 0 => i
  | k + 1 => if p i then w_skip p (i + 1) k else i
theorem w_skip_le (p : Nat → Bool) : ∀ (k i : Nat), i ≤ w_skip p i k ∧ w_skip p i k ≤ i + k := by
  intro k
  induction k with
  | zero => intro i; exact ⟨Nat.le_refl _, Nat.le_refl _⟩
  | succ k ih =>
    intro i
    unfold w_skip
    by_cases h : p i = true
    · rw [if_pos h]
      have := ih (i + 1)
      omega
    · rw [if_neg h]
      omega
def w_num (f : Nat → Int32) (i : Nat) : Nat → Int32
  | 0 => 0
  | k + 1 => w_num f i k * 10 + f (i + k) - 48
def w_bb (f : Nat → Int32) (L i : Nat) : Nat := w_skip (fun j => decide (f j = 32)) i (L - i)
def w_bd (f : Nat → Int32) (L i : Nat) : Nat := w_skip (fun j => w_inB (f j) 48 57) i (L - i)
theorem w_bb_le {f : Nat → Int32} {L i : Nat} (h : i ≤ L) : i ≤ w_bb f L i ∧ w_bb f L i ≤ L := by
  have := w_skip_le (fun j => decide (f j = 32)) (L - i) i
  unfold w_bb
  omega
theorem w_bd_le {f : Nat → Int32} {L i : Nat} (h : i ≤ L) : i ≤ w_bd f L i ∧ w_bd f L i ≤ L := by
  have := w_skip_le (fun j => w_inB (f j) 48 57) (L - i) i
  unfold w_bd
  omega
theorem w_skip_yes {p : Nat → Bool} {i k : Nat} (h : p i = true) : w_skip p i (k + 1) = w_skip p (i + 1) k := by
  rw [w_skip, if_pos h]
theorem w_skip_no {p : Nat → Bool} {i k : Nat} (h : ¬ p i = true) : w_skip p i k = i := by
  cases k with
  | zero => rfl
  | succ k => rw [w_skip, if_neg h]
/-- reading the tape: the answer, and the numbers so far -/
def w_rd (f : Nat → Int32) (L : Nat) : Nat → Nat → Nat → Int32 → (Nat → Int32) → Int32 × (Nat → Int32)
  | 0, _, i, _, g => (-20 - nI i, g)
  | k + 1, c, i, t, g =>
    let a := w_bb f L i
    let e := w_bd f L a
    if e = a ∨ 3 < e - a then (-20 - nI a, g) else
    let v := w_num f a (e - a)
    if ¬ t + v ≤ 100 then (-20 - nI a, upd g c v) else
    let z := w_bb f L e
    if z = L then (nI (c + 1), upd g c v) else
    if ¬ f z = 44 ∨ c = 5 then (-20 - nI z, upd g c v) else
    w_rd f L k (c + 1) (z + 1) (t + v) (upd g c v)
/-! X6_add -/
def pX6_add (w : Int64) (n : Int32) (μ : wM) : Prop := vp_in (μ 4 1) 41 ∧ 1 ≤ n ∧ n ≤ 8 ∧ (μ 4 1).toNatClampNeg + n.toNatClampNeg ≤ 40
def qX6_add (w : Int64) (n : Int32) (μ : wM) (r : Int32) (μ' : wM) : Prop := r = nI ((μ 4 1).toNatClampNeg + n.toNatClampNeg) ∧ μ' = w_tp μ w n.toNatClampNeg (μ 4 1).toNatClampNeg n.toNatClampNeg
def sX6_add : wS := (false, false, 3, fun as μ => ∃ w, ∃ n, as = [.ref 4, .long w, .int n] ∧ pX6_add w n μ, fun as μ r μ' => match as with
  | [.ref _, .long w, .int n] => qX6_add w n μ r μ'
  | _ => False)
def gX6_add : Nat → Option wS := fun k => match k with
  | 18 => some sX6_byteOf
  | _ => none
def uX6_add : Nat → Option (List Nat) := fun j => match j with | 4 => some [2] | _ => none
set_option maxHeartbeats 4000000 in
set_option maxRecDepth 100000 in
theorem vcX6_add_0 (K : wK) (R : Int32 → wM → Prop) (w : Int64) (n : Int32) (μ : wM) (h : K 4 [some (.ref 4), some (.long w), none, some (.int n), some (.int (n - 1))] [] μ) : w_n 6 gX6_add shX rfX 43 (some .int) R tX6_add uX6_add K 20 0 [some (.ref 4), some (.long w), none, some (.int n), none] [] μ :=
  h
set_option maxHeartbeats 4000000 in
set_option maxRecDepth 100000 in
theorem vcX6_add_4 (K : wK) (R : Int32 → wM → Prop) (w : Int64) (n : Int32) (l4 : Int32) (μ : wM) (h : (
    (((l4 : Int32) < 0) → R (μ 4 1) μ) ∧
    (¬ ((l4 : Int32) < 0) → (vp_in (μ 4 1) 40) ∧ (∀ (m3 : wM), m3 = (w_up (w_up μ 25 ((μ 4 1) : Int32).toNatClampNeg (w_byte w l4)) 4 1 ((μ 4 1) + 1)) → K 4 [some (.ref 4), some (.long w), none, some (.int n), some (.int (l4 + (-1)))] [] m3)))) : w_n 6 gX6_add shX rfX 43 (some .int) R tX6_add uX6_add K 20 4 [some (.ref 4), some (.long w), none, some (.int n), some (.int l4)] [] μ :=
  And.intro (fun z252 => And.intro (And.intro (of_decide_eq_true rfl) rfl) (And.intro trivial ((h.1 z252)))) (fun z253 => And.intro (And.intro (of_decide_eq_true rfl) rfl) (And.intro (And.intro (of_decide_eq_true rfl) rfl) (And.intro (Exists.intro _ (Exists.intro _ (And.intro rfl (trivial)))) (fun _ _ z256 => by obtain ⟨z254, z255⟩ := z256; subst z254; subst z255; exact And.intro (And.intro (of_decide_eq_true rfl) (Exists.intro _ (And.intro rfl ((h.2 z253).1)))) (And.intro (And.intro (of_decide_eq_true rfl) rfl) (And.intro (And.intro (of_decide_eq_true rfl) (And.intro rfl (trivial))) (((h.2 z253).2 _ rfl))))))))
set_option maxHeartbeats 4000000 in
theorem vX6_add (w : Int64) (n : Int32) (μ : wM) (h : pX6_add w n μ) (K : wK) (hK : w_cl 6 gX6_add shX rfX 43 (some .int) (qX6_add w n μ) tX6_add K) : K 0 [some (.ref 4), some (.long w), none, some (.int n), none] [] μ := by
  unfold pX6_add at h
  obtain ⟨h1, h2, h3, h4⟩ := h
  obtain ⟨L, hL, hLn, hLc⟩ := vp_in_le h1 (by decide)
  rw [hLc] at h4
  have h8 : n.toNatClampNeg ≤ 8 := (cl_le (i := 8) (by decide)).mp h3
  obtain ⟨N, hN, hNn⟩ : ∃ N : Nat, N ≤ 8 ∧ n = nI N := nI_of2 (M := 8) (n := 8) rfl (fun z => by
    have := i_le.mp h2
    have := i_lt.mp z
    have e1 : (1 : Int32).toInt = 1 := rfl
    have e0 : (0 : Int32).toInt = 0 := rfl
    omega) h3
  have hNc : n.toNatClampNeg = N := by rw [hNn]; exact nI_clamp (by omega)
  have loop : ∀ (k j : Nat), j + k = N → K 4 [some (.ref 4), some (.long w), none, some (.int n), some (.int (nI k - 1))] [] (w_tp μ w N L j) := by
    intro k
    induction k with
    | zero =>
      intro j hj
      refine hK uX6_add 20 _ _ _ _ (vcX6_add_4 K _ w n (nI 0 - 1) (w_tp μ w N L j) ?_)
      refine ⟨fun _ => ?_, fun z => absurd (by decide) z⟩
      show _ = nI _ ∧ _ = w_tp _ _ _ _ _
      rw [hLc, hNc, show j = N by omega]
      refine ⟨?_, rfl⟩
      unfold w_tp
      rw [if_neg (by omega), if_pos ⟨rfl, rfl⟩]
    | succ k ih =>
      intro j hj
      rw [nI_pred]
      refine hK uX6_add 20 _ _ _ _ (vcX6_add_4 K _ w n (nI k) (w_tp μ w N L j) ?_)
      have e1 : w_tp μ w N L j 4 1 = nI (L + j) := by
        unfold w_tp
        rw [if_neg (by omega), if_pos ⟨rfl, rfl⟩]
      refine ⟨fun z => absurd z (nI_pos (by omega)), fun _ => ⟨by rw [e1]; exact vp_in_nI (by omega) (by omega), fun m hm => ?_⟩⟩
      rw [e1, nI_clamp (by omega), nI_1, show nI k = nI (N - 1 - j) by rw [show k = N - 1 - j by omega], w_tp_s (by omega)] at hm
      rw [hm]
      have := ih (j + 1) (by omega)
      rw [show nI k + -1 = nI k - 1 from (Int32.sub_eq_add_neg _ _).symm]
      exact this
  refine hK uX6_add 20 _ _ _ _ (vcX6_add_0 K _ w n μ ?_)
  have z := loop N 0 (by omega)
  rw [w_tp_0 hLn, ← hNn] at z
  exact z
set_option maxRecDepth 100000 in
theorem zX6_add (l : Launch) : ∀ (idx : Nat) (S : wS), gX6_add idx = some S → w_Call l 6 idx S 2 shX rfX 43 := by
  intro idx S hS
  unfold gX6_add at hS
  split at hS
  · cases hS
    exact w_callS (mX6_byteOf l) eX6_byteOf.1 (by decide +kernel) eX6_byteOf.2.1 eX6_byteOf.2.2 (by decide +kernel) (by decide) (by decide)
  · cases hS
theorem mX6_add (l : Launch) : w_Met l yX6_add cX6_add 5 (some .int) 2 shX rfX 43 sX6_add.2.2.2.1 sX6_add.2.2.2.2 :=
  w_meth (o := 6) (Γ := gX6_add) (tb := tX6_add) (by decide +kernel) rfl kX6_add rfl (zX6_add l) (fun as μ h => by obtain ⟨w, n, rfl, h⟩ := h; exact Nat.le_of_ble_eq_true rfl) (fun as μ h K hK => by obtain ⟨w, n, rfl, h⟩ := h; exact vX6_add w n μ h K hK)
set_option maxRecDepth 100000 in
theorem eX6_add : Cond.code yX6_add cX6_add 5 (some .int) ∈ w_tbl ∧ Cond.instanceMethod yX6_add ∈ w_tbl ∧ Cond.selects (w_C 6) yX6_add yX6_add ∈ w_tbl ∧ Cond.initialized yX6_add.cls ∈ w_tbl := ⟨by decide +kernel, by decide +kernel, by decide +kernel, by decide +kernel⟩
theorem rX6_add : ∀ as μ, sX6_add.2.2.2.1 as μ → ∃ q as', as = .ref q :: as' ∧ q < 43 ∧ shX q = .inl 6 := by
  intro as μ h
  obtain ⟨w, n, rfl, h⟩ := h
  exact ⟨_, _, rfl, by decide, rfl⟩

/-! X6_behindBlanks -/
def pX6_behindBlanks (i : Int32) (μ : wM) : Prop := vp_in i 41 ∧ vp_in (μ 4 1) 41 ∧ i ≤ μ 4 1
def qX6_behindBlanks (i : Int32) (μ : wM) (r : Int32) (μ' : wM) : Prop := r = (nI (w_bb (μ 25) (μ 4 1).toNatClampNeg i.toNatClampNeg)) ∧ μ' = μ
def sX6_behindBlanks : wS := (false, false, 2, fun as μ => ∃ i, as = [.ref 4, .int i] ∧ pX6_behindBlanks i μ, fun as μ r μ' => match as with
  | [.ref _, .int i] => qX6_behindBlanks i μ r μ'
  | _ => False)
def gX6_behindBlanks : Nat → Option wS := fun k => match k with
  | _ => none
def uX6_behindBlanks : Nat → Option (List Nat) := fun j => match j with | 2 => some [] | _ => none
set_option maxHeartbeats 4000000 in
set_option maxRecDepth 100000 in
theorem vcX6_behindBlanks_0 (K : wK) (R : Int32 → wM → Prop) (i : Int32) (μ : wM) (h : K 2 [some (.ref 4), some (.int i), some (.int i)] [] μ) : w_n 6 gX6_behindBlanks shX rfX 43 (some .int) R tX6_behindBlanks uX6_behindBlanks K 14 0 [some (.ref 4), some (.int i), none] [] μ :=
  h
set_option maxHeartbeats 4000000 in
set_option maxRecDepth 100000 in
theorem vcX6_behindBlanks_2 (K : wK) (R : Int32 → wM → Prop) (i : Int32) (l2 : Int32) (μ : wM) (h : (
    ((((μ 4 1) : Int32) ≤ l2) → R l2 μ) ∧
    (¬ (((μ 4 1) : Int32) ≤ l2) → (vp_in l2 40) ∧ (
      ((((μ 25 (l2 : Int32).toNatClampNeg) : Int32) = 32) → K 2 [some (.ref 4), some (.int i), some (.int (l2 + 1))] [] μ) ∧
      (¬ (((μ 25 (l2 : Int32).toNatClampNeg) : Int32) = 32) → R l2 μ))))) : w_n 6 gX6_behindBlanks shX rfX 43 (some .int) R tX6_behindBlanks uX6_behindBlanks K 14 2 [some (.ref 4), some (.int i), some (.int l2)] [] μ :=
  And.intro (And.intro (of_decide_eq_true rfl) rfl) (And.intro (fun z261 => And.intro trivial ((h.1 z261))) (fun z262 => And.intro (And.intro (of_decide_eq_true rfl) rfl) (And.intro (And.intro (of_decide_eq_true rfl) (Exists.intro _ (And.intro rfl ((h.2 z262).1)))) (And.intro (fun z263 => ((h.2 z262).2.1 z263)) (fun z264 => And.intro trivial (((h.2 z262).2.2 z264)))))))
set_option maxHeartbeats 4000000 in
theorem vX6_behindBlanks (i : Int32) (μ : wM) (h : pX6_behindBlanks i μ) (K : wK) (hK : w_cl 6 gX6_behindBlanks shX rfX 43 (some .int) (qX6_behindBlanks i μ) tX6_behindBlanks K) : K 0 [some (.ref 4), some (.int i), none] [] μ := by
  unfold pX6_behindBlanks at h
  obtain ⟨h1, h2, h3⟩ := h
  obtain ⟨L, hL, hLn, hLc⟩ := vp_in_le h2 (by decide)
  obtain ⟨I, hI, rfl, hIc⟩ := vp_in_le h1 (by decide)
  rw [hLn] at h3
  have h3 := (nI_leI (by omega) (by omega)).mp h3
  have loop : ∀ (k j : Nat), j + k = L → I ≤ j → w_bb (μ 25) L I = w_skip (fun j => decide (μ 25 j = 32)) j k → K 2 [some (.ref 4), some (.int (nI I)), some (.int (nI j))] [] μ := by
    intro k
    induction k with
    | zero =>
      intro j hj hIj he
      refine hK uX6_behindBlanks 14 _ _ _ _ (vcX6_behindBlanks_2 K _ (nI I) (nI j) μ ?_)
      rw [hLn]
      refine ⟨fun _ => ⟨?_, rfl⟩, fun z => absurd (nI_le (by omega) (by omega)) z⟩
      rw [hLc, hIc, he]
      rfl
    | succ k ih =>
      intro j hj hIj he
      refine hK uX6_behindBlanks 14 _ _ _ _ (vcX6_behindBlanks_2 K _ (nI I) (nI j) μ ?_)
      rw [hLn, nI_clamp (by omega)]
      refine ⟨fun z => absurd z (nI_ge (by omega) (by omega)), fun _ => ⟨vp_in_nI (by omega) (by omega), fun z => ?_, fun z => ⟨?_, rfl⟩⟩⟩
      · rw [nI_1]
        exact ih (j + 1) (by omega) (by omega) (by rw [he, w_skip_yes (by simp [z])])
      · rw [hLc, hIc, he, w_skip_no (by simp [z])]
  refine hK uX6_behindBlanks 14 _ _ _ _ (vcX6_behindBlanks_0 K _ (nI I) μ ?_)
  exact loop (L - I) I (by omega) (Nat.le_refl _) rfl
set_option maxRecDepth 100000 in
theorem zX6_behindBlanks (l : Launch) : ∀ (idx : Nat) (S : wS), gX6_behindBlanks idx = some S → w_Call l 6 idx S 1 shX rfX 43 := by
  intro idx S hS
  unfold gX6_behindBlanks at hS
  split at hS
  · cases hS
theorem mX6_behindBlanks (l : Launch) : w_Met l yX6_behindBlanks cX6_behindBlanks 3 (some .int) 1 shX rfX 43 sX6_behindBlanks.2.2.2.1 sX6_behindBlanks.2.2.2.2 :=
  w_meth (o := 6) (Γ := gX6_behindBlanks) (tb := tX6_behindBlanks) (by decide +kernel) rfl kX6_behindBlanks rfl (zX6_behindBlanks l) (fun as μ h => by obtain ⟨i, rfl, h⟩ := h; exact Nat.le_of_ble_eq_true rfl) (fun as μ h K hK => by obtain ⟨i, rfl, h⟩ := h; exact vX6_behindBlanks i μ h K hK)
set_option maxRecDepth 100000 in
theorem eX6_behindBlanks : Cond.code yX6_behindBlanks cX6_behindBlanks 3 (some .int) ∈ w_tbl ∧ Cond.instanceMethod yX6_behindBlanks ∈ w_tbl ∧ Cond.selects (w_C 6) yX6_behindBlanks yX6_behindBlanks ∈ w_tbl ∧ Cond.initialized yX6_behindBlanks.cls ∈ w_tbl := ⟨by decide +kernel, by decide +kernel, by decide +kernel, by decide +kernel⟩
theorem rX6_behindBlanks : ∀ as μ, sX6_behindBlanks.2.2.2.1 as μ → ∃ q as', as = .ref q :: as' ∧ q < 43 ∧ shX q = .inl 6 := by
  intro as μ h
  obtain ⟨i, rfl, h⟩ := h
  exact ⟨_, _, rfl, by decide, rfl⟩

/-! X6_behindDigits -/
def pX6_behindDigits (i : Int32) (μ : wM) : Prop := vp_in i 41 ∧ vp_in (μ 4 1) 41 ∧ i ≤ μ 4 1
def qX6_behindDigits (i : Int32) (μ : wM) (r : Int32) (μ' : wM) : Prop := r = (nI (w_bd (μ 25) (μ 4 1).toNatClampNeg i.toNatClampNeg)) ∧ μ' = μ
def sX6_behindDigits : wS := (false, false, 2, fun as μ => ∃ i, as = [.ref 4, .int i] ∧ pX6_behindDigits i μ, fun as μ r μ' => match as with
  | [.ref _, .int i] => qX6_behindDigits i μ r μ'
  | _ => False)
def gX6_behindDigits : Nat → Option wS := fun k => match k with
  | 22 => some sX7_within
  | _ => none
def uX6_behindDigits : Nat → Option (List Nat) := fun j => match j with | 2 => some [] | _ => none
set_option maxHeartbeats 4000000 in
set_option maxRecDepth 100000 in
theorem vcX6_behindDigits_0 (K : wK) (R : Int32 → wM → Prop) (i : Int32) (μ : wM) (h : K 2 [some (.ref 4), some (.int i), some (.int i)] [] μ) : w_n 6 gX6_behindDigits shX rfX 43 (some .int) R tX6_behindDigits uX6_behindDigits K 16 0 [some (.ref 4), some (.int i), none] [] μ :=
  h
set_option maxHeartbeats 4000000 in
set_option maxRecDepth 100000 in
theorem vcX6_behindDigits_2 (K : wK) (R : Int32 → wM → Prop) (i : Int32) (l2 : Int32) (μ : wM) (h : (
    ((((μ 4 1) : Int32) ≤ l2) → R l2 μ) ∧
    (¬ (((μ 4 1) : Int32) ≤ l2) → (vp_in l2 40) ∧ (
      ((w_inB (μ 25 (l2 : Int32).toNatClampNeg) 48 57) = false → R l2 μ) ∧
      ((w_inB (μ 25 (l2 : Int32).toNatClampNeg) 48 57) = true → K 2 [some (.ref 4), some (.int i), some (.int (l2 + 1))] [] μ))))) : w_n 6 gX6_behindDigits shX rfX 43 (some .int) R tX6_behindDigits uX6_behindDigits K 16 2 [some (.ref 4), some (.int i), some (.int l2)] [] μ :=
  And.intro (And.intro (of_decide_eq_true rfl) rfl) (And.intro (fun z272 => And.intro trivial ((h.1 z272))) (fun z273 => And.intro (And.intro (of_decide_eq_true rfl) rfl) (And.intro (And.intro (of_decide_eq_true rfl) (Exists.intro _ (And.intro rfl ((h.2 z273).1)))) (And.intro (Exists.intro _ (Exists.intro _ (Exists.intro _ (And.intro rfl (trivial))))) (fun _ _ z276 => by obtain ⟨z274, z275⟩ := z276; subst z274; subst z275; exact And.intro (fun z277 => And.intro trivial (((h.2 z273).2.1 (w_B01_0.mp z277)))) (fun z278 => ((h.2 z273).2.2 (w_B01_n.mp z278))))))))
set_option maxHeartbeats 4000000 in
theorem vX6_behindDigits (i : Int32) (μ : wM) (h : pX6_behindDigits i μ) (K : wK) (hK : w_cl 6 gX6_behindDigits shX rfX 43 (some .int) (qX6_behindDigits i μ) tX6_behindDigits K) : K 0 [some (.ref 4), some (.int i), none] [] μ := by
  unfold pX6_behindDigits at h
  obtain ⟨h1, h2, h3⟩ := h
  obtain ⟨L, hL, hLn, hLc⟩ := vp_in_le h2 (by decide)
  obtain ⟨I, hI, rfl, hIc⟩ := vp_in_le h1 (by decide)
  rw [hLn] at h3
  have h3 := (nI_leI (by omega) (by omega)).mp h3
  have loop : ∀ (k j : Nat), j + k = L → I ≤ j → w_bd (μ 25) L I = w_skip (fun j => w_inB (μ 25 j) 48 57) j k → K 2 [some (.ref 4), some (.int (nI I)), some (.int (nI j))] [] μ := by
    intro k
    induction k with
    | zero =>
      intro j hj hIj he
      refine hK uX6_behindDigits 16 _ _ _ _ (vcX6_behindDigits_2 K _ (nI I) (nI j) μ ?_)
      rw [hLn]
      refine ⟨fun _ => ⟨?_, rfl⟩, fun z => absurd (nI_le (by omega) (by omega)) z⟩
      rw [hLc, hIc, he]
      rfl
    | succ k ih =>
      intro j hj hIj he
      refine hK uX6_behindDigits 16 _ _ _ _ (vcX6_behindDigits_2 K _ (nI I) (nI j) μ ?_)
      rw [hLn, nI_clamp (by omega)]
      refine ⟨fun z => absurd z (nI_ge (by omega) (by omega)), fun _ => ⟨vp_in_nI (by omega) (by omega), fun z => ⟨?_, rfl⟩, fun z => ?_⟩⟩
      · rw [hLc, hIc, he, w_skip_no (by simp [z])]
      · rw [nI_1]
        exact ih (j + 1) (by omega) (by omega) (by rw [he, w_skip_yes (by simp [z])])
  refine hK uX6_behindDigits 16 _ _ _ _ (vcX6_behindDigits_0 K _ (nI I) μ ?_)
  exact loop (L - I) I (by omega) (Nat.le_refl _) rfl
set_option maxRecDepth 100000 in
theorem zX6_behindDigits (l : Launch) : ∀ (idx : Nat) (S : wS), gX6_behindDigits idx = some S → w_Call l 6 idx S 2 shX rfX 43 := by
  intro idx S hS
  unfold gX6_behindDigits at hS
  split at hS
  · cases hS
    exact w_callSN (mX7_within l) eX7_within.1 (fun U hU => hU.2) eX7_within.2.1 eX7_within.2.2 (by decide +kernel) (by decide) (by decide)
  · cases hS
theorem mX6_behindDigits (l : Launch) : w_Met l yX6_behindDigits cX6_behindDigits 3 (some .int) 2 shX rfX 43 sX6_behindDigits.2.2.2.1 sX6_behindDigits.2.2.2.2 :=
  w_meth (o := 6) (Γ := gX6_behindDigits) (tb := tX6_behindDigits) (by decide +kernel) rfl kX6_behindDigits rfl (zX6_behindDigits l) (fun as μ h => by obtain ⟨i, rfl, h⟩ := h; exact Nat.le_of_ble_eq_true rfl) (fun as μ h K hK => by obtain ⟨i, rfl, h⟩ := h; exact vX6_behindDigits i μ h K hK)
set_option maxRecDepth 100000 in
theorem eX6_behindDigits : Cond.code yX6_behindDigits cX6_behindDigits 3 (some .int) ∈ w_tbl ∧ Cond.instanceMethod yX6_behindDigits ∈ w_tbl ∧ Cond.selects (w_C 6) yX6_behindDigits yX6_behindDigits ∈ w_tbl ∧ Cond.initialized yX6_behindDigits.cls ∈ w_tbl := ⟨by decide +kernel, by decide +kernel, by decide +kernel, by decide +kernel⟩
theorem rX6_behindDigits : ∀ as μ, sX6_behindDigits.2.2.2.1 as μ → ∃ q as', as = .ref q :: as' ∧ q < 43 ∧ shX q = .inl 6 := by
  intro as μ h
  obtain ⟨i, rfl, h⟩ := h
  exact ⟨_, _, rfl, by decide, rfl⟩

/-! X6_numberOf -/
def pX6_numberOf (i : Int32) (k : Int32) (μ : wM) : Prop := vp_in i 41 ∧ vp_in k 41 ∧ i ≤ k
def qX6_numberOf (i : Int32) (k : Int32) (μ : wM) (r : Int32) (μ' : wM) : Prop := r = (w_num (μ 25) i.toNatClampNeg (k.toNatClampNeg - i.toNatClampNeg)) ∧ μ' = μ
def sX6_numberOf : wS := (false, false, 3, fun as μ => ∃ i, ∃ k, as = [.ref 4, .int i, .int k] ∧ pX6_numberOf i k μ, fun as μ r μ' => match as with
  | [.ref _, .int i, .int k] => qX6_numberOf i k μ r μ'
  | _ => False)
def gX6_numberOf : Nat → Option wS := fun k => match k with
  | _ => none
def uX6_numberOf : Nat → Option (List Nat) := fun j => match j with | 4 => some [] | _ => none
set_option maxHeartbeats 4000000 in
set_option maxRecDepth 100000 in
theorem vcX6_numberOf_0 (K : wK) (R : Int32 → wM → Prop) (i : Int32) (k : Int32) (μ : wM) (h : K 4 [some (.ref 4), some (.int i), some (.int k), some (.int 0), some (.int i)] [] μ) : w_n 6 gX6_numberOf shX rfX 43 (some .int) R tX6_numberOf uX6_numberOf K 18 0 [some (.ref 4), some (.int i), some (.int k), none, none] [] μ :=
  h
set_option maxHeartbeats 4000000 in
set_option maxRecDepth 100000 in
theorem vcX6_numberOf_4 (K : wK) (R : Int32 → wM → Prop) (i : Int32) (k : Int32) (l3 : Int32) (l4 : Int32) (μ : wM) (h : (
    (((k : Int32) ≤ l4) → R l3 μ) ∧
    (¬ ((k : Int32) ≤ l4) → (vp_in l4 40) ∧ (∀ (x1 : Int32), x1 = (((l3 * 10) + (μ 25 (l4 : Int32).toNatClampNeg)) - 48) → K 4 [some (.ref 4), some (.int i), some (.int k), some (.int x1), some (.int (l4 + 1))] [] μ)))) : w_n 6 gX6_numberOf shX rfX 43 (some .int) R tX6_numberOf uX6_numberOf K 18 4 [some (.ref 4), some (.int i), some (.int k), some (.int l3), some (.int l4)] [] μ :=
  And.intro (fun z281 => And.intro trivial ((h.1 z281))) (fun z282 => And.intro (And.intro (of_decide_eq_true rfl) rfl) (And.intro (And.intro (of_decide_eq_true rfl) (Exists.intro _ (And.intro rfl ((h.2 z282).1)))) (((h.2 z282).2 _ rfl))))
set_option maxHeartbeats 4000000 in
theorem vX6_numberOf (i : Int32) (k : Int32) (μ : wM) (h : pX6_numberOf i k μ) (K : wK) (hK : w_cl 6 gX6_numberOf shX rfX 43 (some .int) (qX6_numberOf i k μ) tX6_numberOf K) : K 0 [some (.ref 4), some (.int i), some (.int k), none, none] [] μ := by
  unfold pX6_numberOf at h
  obtain ⟨h1, h2, h3⟩ := h
  obtain ⟨I, hI, rfl, hIc⟩ := vp_in_le h1 (by decide)
  obtain ⟨E, hE, rfl, hEc⟩ := vp_in_le h2 (by decide)
  have h3 := (nI_leI (by omega) (by omega)).mp h3
  have loop : ∀ (k j : Nat), I + j + k = E → K 4 [some (.ref 4), some (.int (nI I)), some (.int (nI E)), some (.int (w_num (μ 25) I j)), some (.int (nI (I + j)))] [] μ := by
    intro k
    induction k with
    | zero =>
      intro j hj
      refine hK uX6_numberOf 18 _ _ _ _ (vcX6_numberOf_4 K _ (nI I) (nI E) (w_num (μ 25) I j) (nI (I + j)) μ ?_)
      refine ⟨fun _ => ⟨?_, rfl⟩, fun z => absurd (nI_le (by omega) (by omega)) z⟩
      rw [hEc, hIc, show j = E - I by omega]
    | succ k ih =>
      intro j hj
      refine hK uX6_numberOf 18 _ _ _ _ (vcX6_numberOf_4 K _ (nI I) (nI E) (w_num (μ 25) I j) (nI (I + j)) μ ?_)
      refine ⟨fun z => absurd z (nI_ge (by omega) (by omega)), fun _ => ⟨vp_in_nI (by omega) (by omega), fun x hx => ?_⟩⟩
      rw [nI_clamp (by omega)] at hx
      rw [nI_1, hx]
      exact ih (j + 1) (by omega)
  refine hK uX6_numberOf 18 _ _ _ _ (vcX6_numberOf_0 K _ (nI I) (nI E) μ ?_)
  exact loop (E - I) 0 (by omega)
set_option maxRecDepth 100000 in
theorem zX6_numberOf (l : Launch) : ∀ (idx : Nat) (S : wS), gX6_numberOf idx = some S → w_Call l 6 idx S 1 shX rfX 43 := by
  intro idx S hS
  unfold gX6_numberOf at hS
  split at hS
  · cases hS
theorem mX6_numberOf (l : Launch) : w_Met l yX6_numberOf cX6_numberOf 5 (some .int) 1 shX rfX 43 sX6_numberOf.2.2.2.1 sX6_numberOf.2.2.2.2 :=
  w_meth (o := 6) (Γ := gX6_numberOf) (tb := tX6_numberOf) (by decide +kernel) rfl kX6_numberOf rfl (zX6_numberOf l) (fun as μ h => by obtain ⟨i, k, rfl, h⟩ := h; exact Nat.le_of_ble_eq_true rfl) (fun as μ h K hK => by obtain ⟨i, k, rfl, h⟩ := h; exact vX6_numberOf i k μ h K hK)
set_option maxRecDepth 100000 in
theorem eX6_numberOf : Cond.code yX6_numberOf cX6_numberOf 5 (some .int) ∈ w_tbl ∧ Cond.instanceMethod yX6_numberOf ∈ w_tbl ∧ Cond.selects (w_C 6) yX6_numberOf yX6_numberOf ∈ w_tbl ∧ Cond.initialized yX6_numberOf.cls ∈ w_tbl := ⟨by decide +kernel, by decide +kernel, by decide +kernel, by decide +kernel⟩
theorem rX6_numberOf : ∀ as μ, sX6_numberOf.2.2.2.1 as μ → ∃ q as', as = .ref q :: as' ∧ q < 43 ∧ shX q = .inl 6 := by
  intro as μ h
  obtain ⟨i, k, rfl, h⟩ := h
  exact ⟨_, _, rfl, by decide, rfl⟩

/-! X6_read -/
def pX6_read (μ : wM) : Prop := vp_in (μ 4 1) 41
def qX6_read (μ : wM) (r : Int32) (μ' : wM) : Prop := ∃ g, r = (w_rd (μ 25) (μ 4 1).toNatClampNeg 6 0 0 0 (μ 24)).1 ∧ g = (w_rd (μ 25) (μ 4 1).toNatClampNeg 6 0 0 0 (μ 24)).2 ∧ μ' = fun a => if a = 24 then g else μ a
def sX6_read : wS := (false, false, 1, fun as μ => as = [.ref 4] ∧ pX6_read μ, fun as μ r μ' => match as with
  | [.ref _] => qX6_read μ r μ'
  | _ => False)
def gX6_read : Nat → Option wS := fun k => match k with
  | 32 => some sX6_behindBlanks
  | 36 => some sX6_behindDigits
  | 39 => some sX6_numberOf
  | _ => none
def uX6_read : Nat → Option (List Nat) := fun j => match j with | 6 => some [4] | _ => none
set_option maxHeartbeats 4000000 in
set_option maxRecDepth 100000 in
theorem vcX6_read_0 (K : wK) (R : Int32 → wM → Prop) (μ : wM) (h : K 6 [some (.ref 4), some (.int 0), some (.int 0), some (.int 0), none] [] μ) : w_n 6 gX6_read shX rfX 43 (some .int) R tX6_read uX6_read K 59 0 [some (.ref 4), none, none, none, none] [] μ :=
  h
set_option maxHeartbeats 4000000 in
set_option maxRecDepth 100000 in
theorem vcX6_read_6 (K : wK) (R : Int32 → wM → Prop) (l1 : Int32) (l2 : Int32) (l3 : Int32) (μ : wM) (h : (
    (((6 : Int32) ≤ l3) → R ((-20) - l1) μ) ∧
    (¬ ((6 : Int32) ≤ l3) → pX6_behindBlanks l1 μ ∧ (∀ (x3 : Int32), x3 = (nI (w_bb (μ 25) (μ 4 1).toNatClampNeg (l1 : Int32).toNatClampNeg)) → pX6_behindDigits x3 μ ∧ (∀ (x6 : Int32), x6 = (nI (w_bd (μ 25) (μ 4 1).toNatClampNeg (x3 : Int32).toNatClampNeg)) → (
      (((x6 : Int32) = x3) → R ((-20) - x3) μ) ∧
      (¬ ((x6 : Int32) = x3) → (
        ((((x6 - x3) : Int32) ≤ 3) → pX6_numberOf x3 x6 μ ∧ (vp_in l3 6) ∧ (∀ (m9 : wM), m9 = (w_up μ 24 (l3 : Int32).toNatClampNeg (w_num (μ 25) (x3 : Int32).toNatClampNeg ((x6 : Int32).toNatClampNeg - (x3 : Int32).toNatClampNeg))) → (∀ (x10 : Int32), x10 = (l2 + (m9 24 (l3 : Int32).toNatClampNeg)) → (
          (((x10 : Int32) ≤ 100) → pX6_behindBlanks x6 m9 ∧ (∀ (x13 : Int32), x13 = (nI (w_bb (m9 25) (m9 4 1).toNatClampNeg (x6 : Int32).toNatClampNeg)) → (
            (((x13 : Int32) = (μ 4 1)) → R (l3 + 1) m9) ∧
            (¬ ((x13 : Int32) = (μ 4 1)) → (vp_in x13 40) ∧ (
              ((((μ 25 (x13 : Int32).toNatClampNeg) : Int32) = 44) → (
                (((l3 : Int32) = 5) → R ((-20) - x13) m9) ∧
                (¬ ((l3 : Int32) = 5) → K 6 [some (.ref 4), some (.int (x13 + 1)), some (.int x10), some (.int (l3 + 1)), none] [] m9))) ∧
              (¬ (((μ 25 (x13 : Int32).toNatClampNeg) : Int32) = 44) → R ((-20) - x13) m9)))))) ∧
          (¬ ((x10 : Int32) ≤ 100) → R ((-20) - x3) m9))))) ∧
        (¬ (((x6 - x3) : Int32) ≤ 3) → R ((-20) - x3) μ))))))))) : w_n 6 gX6_read shX rfX 43 (some .int) R tX6_read uX6_read K 59 6 [some (.ref 4), some (.int l1), some (.int l2), some (.int l3), none] [] μ :=
  And.intro (fun z309 => And.intro trivial ((h.1 z309))) (fun z310 => And.intro (Exists.intro _ (And.intro rfl ((h.2 z310).1))) (fun _ _ z313 => by obtain ⟨z311, z312⟩ := z313; subst z311; subst z312; exact And.intro (Exists.intro _ (And.intro rfl (((h.2 z310).2 _ rfl).1))) (fun _ _ z316 => by obtain ⟨z314, z315⟩ := z316; subst z314; subst z315; exact And.intro (fun z317 => And.intro trivial (((((h.2 z310).2 _ rfl).2 _ rfl).1 z317))) (fun z318 => And.intro (fun z319 => And.intro (And.intro (of_decide_eq_true rfl) rfl) (And.intro (Exists.intro _ (Exists.intro _ (And.intro rfl ((((((h.2 z310).2 _ rfl).2 _ rfl).2 z318).1 z319).1)))) (fun _ _ z323 => by obtain ⟨z321, z322⟩ := z323; subst z321; subst z322; exact And.intro (And.intro (of_decide_eq_true rfl) (Exists.intro _ (And.intro rfl ((((((h.2 z310).2 _ rfl).2 _ rfl).2 z318).1 z319).2.1)))) (And.intro (And.intro (of_decide_eq_true rfl) rfl) (And.intro (And.intro (of_decide_eq_true rfl) (Exists.intro _ (And.intro rfl ((((((h.2 z310).2 _ rfl).2 _ rfl).2 z318).1 z319).2.1)))) (And.intro (fun z324 => And.intro (Exists.intro _ (And.intro rfl (((((((((h.2 z310).2 _ rfl).2 _ rfl).2 z318).1 z319).2.2 _ rfl) _ rfl).1 z324).1))) (fun _ _ z328 => by obtain ⟨z326, z327⟩ := z328; subst z326; subst z327; exact And.intro (And.intro (of_decide_eq_true rfl) rfl) (And.intro (fun z329 => And.intro trivial (((((((((((h.2 z310).2 _ rfl).2 _ rfl).2 z318).1 z319).2.2 _ rfl) _ rfl).1 z324).2 _ rfl).1 z329))) (fun z330 => And.intro (And.intro (of_decide_eq_true rfl) rfl) (And.intro (And.intro (of_decide_eq_true rfl) (Exists.intro _ (And.intro rfl (((((((((((h.2 z310).2 _ rfl).2 _ rfl).2 z318).1 z319).2.2 _ rfl) _ rfl).1 z324).2 _ rfl).2 z330).1)))) (And.intro (fun z331 => And.intro (fun z333 => And.intro trivial (((((((((((((h.2 z310).2 _ rfl).2 _ rfl).2 z318).1 z319).2.2 _ rfl) _ rfl).1 z324).2 _ rfl).2 z330).2.1 z331).1 z333))) (fun z334 => ((((((((((((h.2 z310).2 _ rfl).2 _ rfl).2 z318).1 z319).2.2 _ rfl) _ rfl).1 z324).2 _ rfl).2 z330).2.1 z331).2 z334))) (fun z332 => And.intro trivial ((((((((((((h.2 z310).2 _ rfl).2 _ rfl).2 z318).1 z319).2.2 _ rfl) _ rfl).1 z324).2 _ rfl).2 z330).2.2 z332))))))))) (fun z325 => And.intro trivial (((((((((h.2 z310).2 _ rfl).2 _ rfl).2 z318).1 z319).2.2 _ rfl) _ rfl).2 z325))))))))) (fun z320 => And.intro trivial ((((((h.2 z310).2 _ rfl).2 _ rfl).2 z318).2 z320)))))))
set_option maxHeartbeats 4000000 in
theorem vX6_read (μ : wM) (h : pX6_read μ) (K : wK) (hK : w_cl 6 gX6_read shX rfX 43 (some .int) (qX6_read μ) tX6_read K) : K 0 [some (.ref 4), none, none, none, none] [] μ := by
  unfold pX6_read at h
  obtain ⟨L, hL, hLn, hLc⟩ := vp_in_le h (by decide)
  have loop : ∀ (k c i : Nat) (t : Int32) (g : Nat → Int32), c + k = 6 → i ≤ L → w_rd (μ 25) L k c i t g = w_rd (μ 25) L 6 0 0 0 (μ 24) → K 6 [some (.ref 4), some (.int (nI i)), some (.int t), some (.int (nI c)), none] [] (fun a => if a = 24 then g else μ a) := by
    intro k
    induction k with
    | zero =>
      intro c i t g hc hi he
      refine hK uX6_read 59 _ _ _ _ (vcX6_read_6 K _ (nI i) t (nI c) (fun a => if a = 24 then g else μ a) ?_)
      refine ⟨fun _ => ?_, fun z => absurd (nI_le (a := 6) (by omega) (by omega)) z⟩
      unfold qX6_read
      rw [hLc, ← he]
      exact ⟨g, rfl, rfl, rfl⟩
    | succ k ih =>
      intro c i t g hc hi he
      have fin : ∀ (r : Int32) (g2 : Nat → Int32), w_rd (μ 25) L 6 0 0 0 (μ 24) = (r, g2) → qX6_read μ r (fun a => if a = 24 then g2 else μ a) := by
        intro r g2 e
        unfold qX6_read
        rw [hLc, e]
        exact ⟨g2, rfl, rfl, rfl⟩
      have b1 := w_bb_le (f := μ 25) hi
      have b2 := w_bd_le (f := μ 25) b1.2
      have b3 := w_bb_le (f := μ 25) b2.2
      have hup : ∀ v : Int32, w_up (fun a => if a = 24 then g else μ a) 24 c v = fun a => if a = 24 then upd g c v else μ a := by
        intro v
        funext a b
        unfold w_up upd
        by_cases ha : a = 24
        · by_cases hb : b = c <;> simp [ha, hb]
        · simp [ha]
      rw [w_rd] at he
      refine hK uX6_read 59 _ _ _ _ (vcX6_read_6 K _ (nI i) t (nI c) (fun a => if a = 24 then g else μ a) ?_)
      refine ⟨fun z => absurd z (nI_ge (b := 6) (by omega) (by omega)), fun _ => ⟨⟨vp_in_nI (by omega) (by omega), h, ?_⟩, fun x3 hx3 => ?_⟩⟩
      · show nI i ≤ μ 4 1
        rw [hLn]
        exact nI_le hi (by omega)
      have hx3 : x3 = nI (w_bb (μ 25) L i) := by
        rw [hx3]
        show nI (w_bb (μ 25) (μ 4 1).toNatClampNeg (nI i).toNatClampNeg) = _
        rw [hLc, nI_clamp (by omega)]
      refine ⟨⟨by rw [hx3]; exact vp_in_nI (by omega) (by omega), h, ?_⟩, fun x6 hx6 => ?_⟩
      · show x3 ≤ μ 4 1
        rw [hLn, hx3]
        exact nI_le b1.2 (by omega)
      have hx6 : x6 = nI (w_bd (μ 25) L (w_bb (μ 25) L i)) := by
        rw [hx6, hx3]
        show nI (w_bd (μ 25) (μ 4 1).toNatClampNeg (nI (w_bb (μ 25) L i)).toNatClampNeg) = _
        rw [hLc, nI_clamp (by omega)]
      generalize ha : w_bb (μ 25) L i = a at *
      generalize hz : w_bd (μ 25) L a = z at *
      dsimp only at he
      refine ⟨fun c1 => ?_, fun c1 => ⟨fun c2 => ⟨⟨by rw [hx3]; exact vp_in_nI (by omega) (by omega), by rw [hx6]; exact vp_in_nI (by omega) (by omega), by rw [hx3, hx6]; exact nI_le (by omega) (by omega)⟩, vp_in_nI (by omega) (by omega), fun m9 hm9 x10 hx10 => ⟨fun c3 => ?_, fun c3 => ?_⟩⟩, fun c2 => ?_⟩⟩
      · rw [hx3, hx6] at c1
        have c1 := (nI_eq (by omega) (by omega)).mp c1
        rw [if_pos (Or.inl c1)] at he
        rw [hx3]
        exact fin _ _ he.symm
      · rw [hx3, hx6] at c1 c2
        have c1 : ¬ z = a := fun q => c1 (by rw [q])
        rw [pk_sub (by omega)] at c2
        have c2 : z - a ≤ 3 := (nI_leI (b := 3) (by omega) (by omega)).mp c2
        rw [if_neg (by omega)] at he
        have hm9 : m9 = fun q => if q = 24 then upd g c (w_num (μ 25) a (z - a)) else μ q := by
          rw [hm9, hx3, hx6, nI_clamp (by omega), nI_clamp (by omega), nI_clamp (by omega), ← hup]
          rfl
        have hx10 : x10 = t + w_num (μ 25) a (z - a) := by
          rw [hx10, hm9, nI_clamp (by omega)]
          simp [upd]
        rw [if_neg (fun q => q (by rw [← hx10]; exact c3))] at he
        have q1 : m9 4 1 = nI L := by rw [hm9]; exact hLn
        have q2 : m9 25 = μ 25 := by rw [hm9]; rfl
        refine ⟨⟨by rw [hx6]; exact vp_in_nI (by omega) (by omega), by rw [q1]; exact vp_in_nI (by omega) (by omega), by rw [q1, hx6]; exact nI_le (by omega) (by omega)⟩, fun x13 hx13 => ?_⟩
        have hx13 : x13 = nI (w_bb (μ 25) L z) := by
          rw [hx13, q1, q2, hx6, nI_clamp (by omega), nI_clamp (by omega)]
        generalize hw : w_bb (μ 25) L z = w at *
        refine ⟨fun c4 => ?_, fun c4 => ⟨?_, fun c5 => ⟨fun c6 => ?_, fun c6 => ?_⟩, fun c5 => ?_⟩⟩
        · have c4 : x13 = μ 4 1 := c4
          rw [hLn, hx13] at c4
          rw [if_pos ((nI_eq (by omega) (by omega)).mp c4)] at he
          rw [nI_1, hm9]
          exact fin _ _ he.symm
        · have c4 : ¬ x13 = μ 4 1 := c4
          rw [hLn, hx13] at c4
          rw [hx13]
          exact vp_in_nI (by have : ¬ w = L := fun q => c4 (by rw [q]); omega) (by omega)
        · have c4 : ¬ x13 = μ 4 1 := c4
          rw [hLn, hx13] at c4
          rw [if_neg (fun q => c4 (by rw [q]))] at he
          have c6 : c = 5 := (nI_eq (b := 5) (by omega) (by omega)).mp c6
          rw [if_pos (Or.inr c6)] at he
          rw [hm9, hx13]
          exact fin _ _ he.symm
        · have c4 : ¬ x13 = μ 4 1 := c4
          rw [hLn, hx13] at c4
          rw [if_neg (fun q => c4 (by rw [q]))] at he
          have c5 : μ 25 x13.toNatClampNeg = 44 := c5
          rw [hx13, nI_clamp (by omega)] at c5
          have c6 : ¬ c = 5 := fun q => c6 (by rw [q]; rfl)
          rw [if_neg (by rintro (q | q); exact q c5; exact c6 q), ← hx10] at he
          rw [hm9, hx13, nI_1, nI_1]
          exact ih (c + 1) (w + 1) x10 _ (by omega) (by have : ¬ w = L := fun q => c4 (by rw [q]); omega) he
        · have c4 : ¬ x13 = μ 4 1 := c4
          rw [hLn, hx13] at c4
          rw [if_neg (fun q => c4 (by rw [q]))] at he
          have c5 : ¬ μ 25 x13.toNatClampNeg = 44 := c5
          rw [hx13, nI_clamp (by omega)] at c5
          rw [if_pos (Or.inl c5)] at he
          rw [hm9, hx13]
          exact fin _ _ he.symm
      · rw [hx3, hx6] at c1 c2
        have c1 : ¬ z = a := fun q => c1 (by rw [q])
        rw [pk_sub (by omega)] at c2
        have c2 : z - a ≤ 3 := (nI_leI (b := 3) (by omega) (by omega)).mp c2
        rw [if_neg (by omega)] at he
        have hm9 : m9 = fun q => if q = 24 then upd g c (w_num (μ 25) a (z - a)) else μ q := by
          rw [hm9, hx3, hx6, nI_clamp (by omega), nI_clamp (by omega), nI_clamp (by omega), ← hup]
          rfl
        have hx10 : x10 = t + w_num (μ 25) a (z - a) := by
          rw [hx10, hm9, nI_clamp (by omega)]
          simp [upd]
        rw [if_pos (fun q => c3 (by rw [hx10]; exact q))] at he
        rw [hm9, hx3]
        exact fin _ _ he.symm
      · rw [hx3, hx6] at c1 c2
        have c1 : ¬ z = a := fun q => c1 (by rw [q])
        rw [pk_sub (by omega)] at c2
        have c2 : ¬ z - a ≤ 3 := fun q => c2 ((nI_leI (b := 3) (by omega) (by omega)).mpr q)
        rw [if_pos (Or.inr (by omega))] at he
        rw [hx3]
        exact fin _ _ he.symm
  refine hK uX6_read 59 _ _ _ _ (vcX6_read_0 K _ μ ?_)
  have z := loop 6 0 0 0 (μ 24) rfl (Nat.zero_le _) rfl
  rw [show (fun a => if a = 24 then μ 24 else μ a) = μ from by funext a; by_cases ha : a = 24 <;> simp [ha]] at z
  exact z
set_option maxRecDepth 100000 in
theorem zX6_read (l : Launch) : ∀ (idx : Nat) (S : wS), gX6_read idx = some S → w_Call l 6 idx S 3 shX rfX 43 := by
  intro idx S hS
  unfold gX6_read at hS
  split at hS
  · cases hS
    exact w_callV (ci := 6) (mX6_behindBlanks l) (by decide) rX6_behindBlanks eX6_behindBlanks.1 (by decide +kernel) eX6_behindBlanks.2.1 eX6_behindBlanks.2.2.1 eX6_behindBlanks.2.2.2 (by decide +kernel) (by decide) (by decide)
  · cases hS
    exact w_callV (ci := 6) (mX6_behindDigits l) (by decide) rX6_behindDigits eX6_behindDigits.1 (by decide +kernel) eX6_behindDigits.2.1 eX6_behindDigits.2.2.1 eX6_behindDigits.2.2.2 (by decide +kernel) (by decide) (by decide)
  · cases hS
    exact w_callV (ci := 6) (mX6_numberOf l) (by decide) rX6_numberOf eX6_numberOf.1 (by decide +kernel) eX6_numberOf.2.1 eX6_numberOf.2.2.1 eX6_numberOf.2.2.2 (by decide +kernel) (by decide) (by decide)
  · cases hS
theorem mX6_read (l : Launch) : w_Met l yX6_read cX6_read 5 (some .int) 3 shX rfX 43 sX6_read.2.2.2.1 sX6_read.2.2.2.2 :=
  w_meth (o := 6) (Γ := gX6_read) (tb := tX6_read) (by decide +kernel) rfl kX6_read rfl (zX6_read l) (fun as μ h => by obtain ⟨rfl, h⟩ := h; exact Nat.le_of_ble_eq_true rfl) (fun as μ h K hK => by obtain ⟨rfl, h⟩ := h; exact vX6_read  μ h K hK)
set_option maxRecDepth 100000 in
theorem eX6_read : Cond.code yX6_read cX6_read 5 (some .int) ∈ w_tbl ∧ Cond.instanceMethod yX6_read ∈ w_tbl ∧ Cond.selects (w_C 6) yX6_read yX6_read ∈ w_tbl ∧ Cond.initialized yX6_read.cls ∈ w_tbl := ⟨by decide +kernel, by decide +kernel, by decide +kernel, by decide +kernel⟩
theorem rX6_read : ∀ as μ, sX6_read.2.2.2.1 as μ → ∃ q as', as = .ref q :: as' ∧ q < 43 ∧ shX q = .inl 6 := by
  intro as μ h
  obtain ⟨rfl, h⟩ := h
  exact ⟨_, _, rfl, by decide, rfl⟩
end
section
def w_cnt (p : Nat → Bool) : Nat → Nat
  | 0 => 0
  | k + 1 => w_cnt p k + if p k then 1 else 0
theorem w_cnt_le (p : Nat → Bool) (k : Nat) : w_cnt p k ≤ k := by
  induction k with
  | zero => exact Nat.le_refl _
  | succ k ih =>
    unfold w_cnt
    split <;> omega
/-- a mark laid among the first of a row -/
def w_ins (f : Nat → Int32) (off : Nat) (v : Int32) : Nat → (Nat → Int32)
  | 0 => upd f off v
  | k + 1 => if f (off + k) < v then w_ins (upd f (off + (k + 1)) (f (off + k))) off v k else upd f (off + (k + 1)) v
def w_row (μ : wM) (q : Nat) (f : Nat → Int32) : wM := fun a => if a = q then f else μ a
theorem w_row_up (μ : wM) (q j : Nat) (f : Nat → Int32) (x : Int32) : w_up (w_row μ q f) q j x = w_row μ q (upd f j x) := by
  funext a b
  unfold w_up w_row upd
  by_cases ha : a = q
  · by_cases hb : b = j <;> simp [ha, hb]
  · simp [ha]
theorem w_row_self (μ : wM) (q : Nat) : w_row μ q (μ q) = μ := by
  funext a
  unfold w_row
  by_cases ha : a = q <;> simp [ha]
theorem w_row_of_up (μ : wM) (q j : Nat) (x : Int32) : w_up μ q j x = w_row μ q (upd (μ q) j x) := by
  have := w_row_up μ q j (μ q) x
  rw [w_row_self] at this
  exact this
theorem w_row_of_fill (μ : wM) (q k : Nat) (v : Int32) : w_fill μ q k v = w_row μ q (fun j => if j < k then v else μ q j) := by
  funext a b
  unfold w_fill w_row
  by_cases ha : a = q
  · by_cases hb : b < k <;> simp [ha, hb]
  · simp [ha]
theorem w_row_at (μ : wM) (q : Nat) (f : Nat → Int32) : w_row μ q f q = f := by simp [w_row]
theorem w_row_ne (μ : wM) {q a : Nat} (f : Nat → Int32) (h : a ≠ q) : w_row μ q f a = μ a := by simp [w_row, h]
theorem w_row_row (μ : wM) (q : Nat) (f g : Nat → Int32) : w_row (w_row μ q f) q g = w_row μ q g := by
  funext a
  unfold w_row
  by_cases ha : a = q <;> simp [ha]
/-- the board's three rows -/
abbrev wB : Type := (Nat → Int32) × (Nat → Int32) × (Nat → Int32)
def w_Tb (μ : wM) (t : wB) : wM := fun a => if a = 20 then t.1 else if a = 21 then t.2.1 else if a = 22 then t.2.2 else μ a
theorem w_Tb_self (μ : wM) : w_Tb μ (μ 20, μ 21, μ 22) = μ := by
  funext a
  unfold w_Tb
  by_cases h0 : a = 20
  · simp [h0]
  · by_cases h1 : a = 21
    · simp [h1]
    · by_cases h2 : a = 22 <;> simp [h0, h1, h2]
theorem w_Tb_20 (μ : wM) (t : wB) : w_Tb μ t 20 = t.1 := rfl
theorem w_Tb_21 (μ : wM) (t : wB) : w_Tb μ t 21 = t.2.1 := rfl
theorem w_Tb_22 (μ : wM) (t : wB) : w_Tb μ t 22 = t.2.2 := rfl
theorem w_Tb_ne (μ : wM) (t : wB) {a : Nat} (h0 : a ≠ 20) (h1 : a ≠ 21) (h2 : a ≠ 22) : w_Tb μ t a = μ a := by simp [w_Tb, h0, h1, h2]
theorem w_Tb_r20 (μ : wM) (t : wB) (f : Nat → Int32) : w_row (w_Tb μ t) 20 f = w_Tb μ (f, t.2.1, t.2.2) := by
  funext a
  unfold w_row w_Tb
  by_cases h0 : a = 20 <;> simp [h0]
theorem w_Tb_r21 (μ : wM) (t : wB) (f : Nat → Int32) : w_row (w_Tb μ t) 21 f = w_Tb μ (t.1, f, t.2.2) := by
  funext a
  unfold w_row w_Tb
  by_cases h0 : a = 21
  · simp [h0]
  · simp [h0]
theorem w_Tb_r22 (μ : wM) (t : wB) (f : Nat → Int32) : w_row (w_Tb μ t) 22 f = w_Tb μ (t.1, t.2.1, f) := by
  funext a
  unfold w_row w_Tb
  by_cases h0 : a = 22
  · simp [h0]
  · simp [h0]
theorem w_Tb_Tb (μ : wM) (t u : wB) : w_Tb (w_Tb μ t) u = w_Tb μ u := by
  funext a
  unfold w_Tb
  by_cases h0 : a = 20
  · simp [h0]
  · by_cases h1 : a = 21
    · simp [h1]
    · by_cases h2 : a = 22 <;> simp [h0, h1, h2]
theorem upd_self (f : Nat → Int32) (j : Nat) : upd f j (f j) = f := by
  funext a
  unfold upd
  by_cases h : a = j <;> simp [h]
theorem ix6 (X K : Nat) : nI X * 6 + nI K = nI (6 * X + K) := by
  rw [show (6 : Int32) = nI 6 from rfl, pk_mul, nI_add, Nat.mul_comm]
theorem ix60 (X : Nat) : nI X * 6 = nI (6 * X) := by
  rw [show (6 : Int32) = nI 6 from rfl, pk_mul, Nat.mul_comm]
theorem ix3 (X K : Nat) : nI X * 3 + nI K = nI (3 * X + K) := by
  rw [show (3 : Int32) = nI 3 from rfl, pk_mul, nI_add, Nat.mul_comm]
theorem ix30 (X : Nat) : nI X * 3 = nI (3 * X) := by
  rw [show (3 : Int32) = nI 3 from rfl, pk_mul, Nat.mul_comm]
def w_lex (f : Nat → Int32) (a b : Nat) : Nat → Bool
  | 0 => false
  | j + 1 => if f (6 * a + (5 - j)) = f (6 * b + (5 - j)) then w_lex f a b j else decide (f (6 * b + (5 - j)) < f (6 * a + (5 - j)))
def w_ahead (k : Int32) (f : Nat → Int32) (a b : Nat) : Bool := if k = 0 then w_lex f a b 6 else decide (f (6 * a) < f (6 * b))
/-- an entry taken -/
def w_take (k g sl way : Int32) (m : Nat) (a b y : Int32) (t : wB) : wB :=
  if k = 2 then (t.1, t.2.1, if t.2.2 (3 * m + a.toNatClampNeg) = 0 then upd t.2.2 (3 * m + a.toNatClampNeg) b else t.2.2)
  else if k = 0 then (if 6 ≤ t.2.1 m then t else (w_ins t.1 (6 * m) (w_fair g sl a b) (t.2.1 m).toNatClampNeg, upd t.2.1 m (t.2.1 m + 1), t.2.2))
  else if k = 1 then (if t.2.1 m = 0 then (upd t.1 (6 * m) (w_race way a y), upd t.2.1 m 1, t.2.2) else t)
  else t
def w_mid (a b c : Int32) : Int32 := w_mx (w_mn a b) (w_mn (w_mx a b) c)
/-- the judges joined, of the men below a number -/
def w_join (t : wB) : Nat → wB
  | 0 => t
  | m + 1 => let u := w_join t m
    if ¬ t.2.2 (3 * m) ≤ 0 ∧ ¬ t.2.2 (3 * m + 1) ≤ 0 ∧ ¬ t.2.2 (3 * m + 2) ≤ 0 then (upd u.1 (6 * m) (100 * w_mid (t.2.2 (3 * m)) (t.2.2 (3 * m + 1)) (t.2.2 (3 * m + 2)) + t.2.2 (3 * m) + t.2.2 (3 * m + 1) + t.2.2 (3 * m + 2)), upd u.2.1 m 1, u.2.2) else u
theorem w_join_22 (t : wB) (m : Nat) : (w_join t m).2.2 = t.2.2 := by
  induction m with
  | zero => rfl
  | succ m ih =>
    unfold w_join
    dsimp only
    split
    · exact ih
    · exact ih
def w_plc (k void : Int32) (mk cn : Nat → Int32) (m : Nat) : Int32 := if ¬ void = 0 ∨ cn m = 0 then 0 else 1 + nI (w_cnt (fun j => decide (0 < cn j) && w_ahead k mk j m) 10)
/-! X0_markOf -/
def pX0_markOf (x : Int32) (k : Int32) (μ : wM) : Prop := vp_in (x * 6 + k) 60
def qX0_markOf (x : Int32) (k : Int32) (μ : wM) (r : Int32) (μ' : wM) : Prop := r = (μ 20 (x * 6 + k).toNatClampNeg) ∧ μ' = μ
def sX0_markOf : wS := (false, false, 3, fun as μ => ∃ x, ∃ k, as = [.ref 3, .int x, .int k] ∧ pX0_markOf x k μ, fun as μ r μ' => match as with
  | [.ref _, .int x, .int k] => qX0_markOf x k μ r μ'
  | _ => False)
def gX0_markOf : Nat → Option wS := fun k => match k with
  | _ => none
def uX0_markOf : Nat → Option (List Nat) := fun _ => none
set_option maxHeartbeats 4000000 in
set_option maxRecDepth 100000 in
theorem vcX0_markOf_0 (K : wK) (R : Int32 → wM → Prop) (x : Int32) (k : Int32) (μ : wM) (h : (vp_in ((x * 6) + k) 60) ∧ R (μ 20 (((x * 6) + k) : Int32).toNatClampNeg) μ) : w_n 0 gX0_markOf shX rfX 43 (some .int) R tX0_markOf uX0_markOf K 10 0 [some (.ref 3), some (.int x), some (.int k)] [] μ :=
  And.intro (And.intro (of_decide_eq_true rfl) rfl) (And.intro (And.intro (of_decide_eq_true rfl) (Exists.intro _ (And.intro rfl (h.1)))) (And.intro trivial (h.2)))
set_option maxHeartbeats 4000000 in
theorem vX0_markOf (x : Int32) (k : Int32) (μ : wM) (h : pX0_markOf x k μ) (K : wK) (hK : w_cl 0 gX0_markOf shX rfX 43 (some .int) (qX0_markOf x k μ) tX0_markOf K) : K 0 [some (.ref 3), some (.int x), some (.int k)] [] μ := by
  refine hK uX0_markOf 10 _ _ _ _ (vcX0_markOf_0 K _ x k μ ?_)
  clear hK
  unfold pX0_markOf at h
  unfold qX0_markOf
  exact ⟨h, rfl, rfl⟩
set_option maxRecDepth 100000 in
theorem zX0_markOf (l : Launch) : ∀ (idx : Nat) (S : wS), gX0_markOf idx = some S → w_Call l 0 idx S 1 shX rfX 43 := by
  intro idx S hS
  unfold gX0_markOf at hS
  split at hS
  · cases hS
theorem mX0_markOf (l : Launch) : w_Met l yX0_markOf cX0_markOf 3 (some .int) 1 shX rfX 43 sX0_markOf.2.2.2.1 sX0_markOf.2.2.2.2 :=
  w_meth (o := 0) (Γ := gX0_markOf) (tb := tX0_markOf) (by decide +kernel) rfl kX0_markOf rfl (zX0_markOf l) (fun as μ h => by obtain ⟨x, k, rfl, h⟩ := h; exact Nat.le_of_ble_eq_true rfl) (fun as μ h K hK => by obtain ⟨x, k, rfl, h⟩ := h; exact vX0_markOf x k μ h K hK)
set_option maxRecDepth 100000 in
theorem eX0_markOf : Cond.code yX0_markOf cX0_markOf 3 (some .int) ∈ w_tbl ∧ Cond.instanceMethod yX0_markOf ∈ w_tbl ∧ Cond.selects (w_C 0) yX0_markOf yX0_markOf ∈ w_tbl ∧ Cond.initialized yX0_markOf.cls ∈ w_tbl := ⟨by decide +kernel, by decide +kernel, by decide +kernel, by decide +kernel⟩
theorem rX0_markOf : ∀ as μ, sX0_markOf.2.2.2.1 as μ → ∃ q as', as = .ref q :: as' ∧ q < 43 ∧ shX q = .inl 0 := by
  intro as μ h
  obtain ⟨x, k, rfl, h⟩ := h
  exact ⟨_, _, rfl, by decide, rfl⟩

/-! X0_hasMark -/
def pX0_hasMark (x : Int32) (μ : wM) : Prop := vp_in x 10
def qX0_hasMark (x : Int32) (μ : wM) (r : Int32) (μ' : wM) : Prop := r = (w_B01 (decide (0 < μ 21 x.toNatClampNeg))) ∧ μ' = μ
def sX0_hasMark : wS := (false, false, 2, fun as μ => ∃ x, as = [.ref 3, .int x] ∧ pX0_hasMark x μ, fun as μ r μ' => match as with
  | [.ref _, .int x] => qX0_hasMark x μ r μ'
  | _ => False)
def gX0_hasMark : Nat → Option wS := fun k => match k with
  | _ => none
def uX0_hasMark : Nat → Option (List Nat) := fun _ => none
set_option maxHeartbeats 4000000 in
set_option maxRecDepth 100000 in
theorem vcX0_hasMark_0 (K : wK) (R : Int32 → wM → Prop) (x : Int32) (μ : wM) (h : (vp_in x 10) ∧ (
    ((((μ 21 (x : Int32).toNatClampNeg) : Int32) ≤ 0) → R 0 μ) ∧
    (¬ (((μ 21 (x : Int32).toNatClampNeg) : Int32) ≤ 0) → R 1 μ))) : w_n 0 gX0_hasMark shX rfX 43 (some .boolean) R tX0_hasMark uX0_hasMark K 9 0 [some (.ref 3), some (.int x)] [] μ :=
  And.intro (And.intro (of_decide_eq_true rfl) rfl) (And.intro (And.intro (of_decide_eq_true rfl) (Exists.intro _ (And.intro rfl (h.1)))) (And.intro (fun z337 => And.intro (Or.inl rfl) ((h.2.1 z337))) (fun z338 => And.intro (Or.inr rfl) ((h.2.2 z338)))))
set_option maxHeartbeats 4000000 in
theorem vX0_hasMark (x : Int32) (μ : wM) (h : pX0_hasMark x μ) (K : wK) (hK : w_cl 0 gX0_hasMark shX rfX 43 (some .boolean) (qX0_hasMark x μ) tX0_hasMark K) : K 0 [some (.ref 3), some (.int x)] [] μ := by
  refine hK uX0_hasMark 9 _ _ _ _ (vcX0_hasMark_0 K _ x μ ?_)
  clear hK
  unfold pX0_hasMark at h
  unfold qX0_hasMark
  refine ⟨h, fun c => ⟨w_B01_f ?_, rfl⟩, fun c => ⟨w_B01_t ?_, rfl⟩⟩
  · simp only [decide_eq_true_eq]; exact i_nlt.mpr c
  · simp only [decide_eq_true_eq]; exact i_nle.mp c
set_option maxRecDepth 100000 in
theorem zX0_hasMark (l : Launch) : ∀ (idx : Nat) (S : wS), gX0_hasMark idx = some S → w_Call l 0 idx S 1 shX rfX 43 := by
  intro idx S hS
  unfold gX0_hasMark at hS
  split at hS
  · cases hS
theorem mX0_hasMark (l : Launch) : w_Met l yX0_hasMark cX0_hasMark 2 (some .boolean) 1 shX rfX 43 sX0_hasMark.2.2.2.1 sX0_hasMark.2.2.2.2 :=
  w_meth (o := 0) (Γ := gX0_hasMark) (tb := tX0_hasMark) (by decide +kernel) rfl kX0_hasMark rfl (zX0_hasMark l) (fun as μ h => by obtain ⟨x, rfl, h⟩ := h; exact Nat.le_of_ble_eq_true rfl) (fun as μ h K hK => by obtain ⟨x, rfl, h⟩ := h; exact vX0_hasMark x μ h K hK)
set_option maxRecDepth 100000 in
theorem eX0_hasMark : Cond.code yX0_hasMark cX0_hasMark 2 (some .boolean) ∈ w_tbl ∧ Cond.instanceMethod yX0_hasMark ∈ w_tbl ∧ Cond.selects (w_C 0) yX0_hasMark yX0_hasMark ∈ w_tbl ∧ Cond.initialized yX0_hasMark.cls ∈ w_tbl := ⟨by decide +kernel, by decide +kernel, by decide +kernel, by decide +kernel⟩
theorem rX0_hasMark : ∀ as μ, sX0_hasMark.2.2.2.1 as μ → ∃ q as', as = .ref q :: as' ∧ q < 43 ∧ shX q = .inl 0 := by
  intro as μ h
  obtain ⟨x, rfl, h⟩ := h
  exact ⟨_, _, rfl, by decide, rfl⟩

/-! X0_isTold -/
def pX0_isTold (x : Int32) (μ : wM) : Prop := vp_in x 10
def qX0_isTold (x : Int32) (μ : wM) (r : Int32) (μ' : wM) : Prop := r = (w_B01 (decide (0 < μ 19 x.toNatClampNeg))) ∧ μ' = μ
def sX0_isTold : wS := (false, false, 2, fun as μ => ∃ x, as = [.ref 3, .int x] ∧ pX0_isTold x μ, fun as μ r μ' => match as with
  | [.ref _, .int x] => qX0_isTold x μ r μ'
  | _ => False)
def gX0_isTold : Nat → Option wS := fun k => match k with
  | _ => none
def uX0_isTold : Nat → Option (List Nat) := fun _ => none
set_option maxHeartbeats 4000000 in
set_option maxRecDepth 100000 in
theorem vcX0_isTold_0 (K : wK) (R : Int32 → wM → Prop) (x : Int32) (μ : wM) (h : (vp_in x 10) ∧ (
    ((((μ 19 (x : Int32).toNatClampNeg) : Int32) ≤ 0) → R 0 μ) ∧
    (¬ (((μ 19 (x : Int32).toNatClampNeg) : Int32) ≤ 0) → R 1 μ))) : w_n 0 gX0_isTold shX rfX 43 (some .boolean) R tX0_isTold uX0_isTold K 9 0 [some (.ref 3), some (.int x)] [] μ :=
  And.intro (And.intro (of_decide_eq_true rfl) rfl) (And.intro (And.intro (of_decide_eq_true rfl) (Exists.intro _ (And.intro rfl (h.1)))) (And.intro (fun z341 => And.intro (Or.inl rfl) ((h.2.1 z341))) (fun z342 => And.intro (Or.inr rfl) ((h.2.2 z342)))))
set_option maxHeartbeats 4000000 in
theorem vX0_isTold (x : Int32) (μ : wM) (h : pX0_isTold x μ) (K : wK) (hK : w_cl 0 gX0_isTold shX rfX 43 (some .boolean) (qX0_isTold x μ) tX0_isTold K) : K 0 [some (.ref 3), some (.int x)] [] μ := by
  refine hK uX0_isTold 9 _ _ _ _ (vcX0_isTold_0 K _ x μ ?_)
  clear hK
  unfold pX0_isTold at h
  unfold qX0_isTold
  refine ⟨h, fun c => ⟨w_B01_f ?_, rfl⟩, fun c => ⟨w_B01_t ?_, rfl⟩⟩
  · simp only [decide_eq_true_eq]; exact i_nlt.mpr c
  · simp only [decide_eq_true_eq]; exact i_nle.mp c
set_option maxRecDepth 100000 in
theorem zX0_isTold (l : Launch) : ∀ (idx : Nat) (S : wS), gX0_isTold idx = some S → w_Call l 0 idx S 1 shX rfX 43 := by
  intro idx S hS
  unfold gX0_isTold at hS
  split at hS
  · cases hS
theorem mX0_isTold (l : Launch) : w_Met l yX0_isTold cX0_isTold 2 (some .boolean) 1 shX rfX 43 sX0_isTold.2.2.2.1 sX0_isTold.2.2.2.2 :=
  w_meth (o := 0) (Γ := gX0_isTold) (tb := tX0_isTold) (by decide +kernel) rfl kX0_isTold rfl (zX0_isTold l) (fun as μ h => by obtain ⟨x, rfl, h⟩ := h; exact Nat.le_of_ble_eq_true rfl) (fun as μ h K hK => by obtain ⟨x, rfl, h⟩ := h; exact vX0_isTold x μ h K hK)
set_option maxRecDepth 100000 in
theorem eX0_isTold : Cond.code yX0_isTold cX0_isTold 2 (some .boolean) ∈ w_tbl ∧ Cond.instanceMethod yX0_isTold ∈ w_tbl ∧ Cond.selects (w_C 0) yX0_isTold yX0_isTold ∈ w_tbl ∧ Cond.initialized yX0_isTold.cls ∈ w_tbl := ⟨by decide +kernel, by decide +kernel, by decide +kernel, by decide +kernel⟩
theorem rX0_isTold : ∀ as μ, sX0_isTold.2.2.2.1 as μ → ∃ q as', as = .ref q :: as' ∧ q < 43 ∧ shX q = .inl 0 := by
  intro as μ h
  obtain ⟨x, rfl, h⟩ := h
  exact ⟨_, _, rfl, by decide, rfl⟩

/-! X0_howManyAt -/
def pX0_howManyAt (p : Int32) (k : Int32) (μ : wM) : Prop := vp_in k 11
def qX0_howManyAt (p : Int32) (k : Int32) (μ : wM) (r : Int32) (μ' : wM) : Prop := r = (nI (w_cnt (fun j => decide (μ 19 j = p)) k.toNatClampNeg)) ∧ μ' = μ
def sX0_howManyAt : wS := (false, false, 3, fun as μ => ∃ p, ∃ k, as = [.ref 3, .int p, .int k] ∧ pX0_howManyAt p k μ, fun as μ r μ' => match as with
  | [.ref _, .int p, .int k] => qX0_howManyAt p k μ r μ'
  | _ => False)
def gX0_howManyAt : Nat → Option wS := fun k => match k with
  | _ => none
def uX0_howManyAt : Nat → Option (List Nat) := fun j => match j with | 4 => some [] | _ => none
set_option maxHeartbeats 4000000 in
set_option maxRecDepth 100000 in
theorem vcX0_howManyAt_0 (K : wK) (R : Int32 → wM → Prop) (p : Int32) (k : Int32) (μ : wM) (h : K 4 [some (.ref 3), some (.int p), some (.int k), some (.int 0), some (.int 0)] [] μ) : w_n 0 gX0_howManyAt shX rfX 43 (some .int) R tX0_howManyAt uX0_howManyAt K 18 0 [some (.ref 3), some (.int p), some (.int k), none, none] [] μ :=
  h
set_option maxHeartbeats 4000000 in
set_option maxRecDepth 100000 in
theorem vcX0_howManyAt_4 (K : wK) (R : Int32 → wM → Prop) (p : Int32) (k : Int32) (l3 : Int32) (l4 : Int32) (μ : wM) (h : (
    (((k : Int32) ≤ l4) → R l3 μ) ∧
    (¬ ((k : Int32) ≤ l4) → (vp_in l4 10) ∧ (
      ((((μ 19 (l4 : Int32).toNatClampNeg) : Int32) = p) → K 4 [some (.ref 3), some (.int p), some (.int k), some (.int (l3 + 1)), some (.int (l4 + 1))] [] μ) ∧
      (¬ (((μ 19 (l4 : Int32).toNatClampNeg) : Int32) = p) → K 4 [some (.ref 3), some (.int p), some (.int k), some (.int (l3 + 0)), some (.int (l4 + 1))] [] μ))))) : w_n 0 gX0_howManyAt shX rfX 43 (some .int) R tX0_howManyAt uX0_howManyAt K 18 4 [some (.ref 3), some (.int p), some (.int k), some (.int l3), some (.int l4)] [] μ :=
  And.intro (fun z347 => And.intro trivial ((h.1 z347))) (fun z348 => And.intro (And.intro (of_decide_eq_true rfl) rfl) (And.intro (And.intro (of_decide_eq_true rfl) (Exists.intro _ (And.intro rfl ((h.2 z348).1)))) (And.intro (fun z349 => ((h.2 z348).2.1 z349)) (fun z350 => ((h.2 z348).2.2 z350)))))
set_option maxHeartbeats 4000000 in
theorem vX0_howManyAt (p : Int32) (k : Int32) (μ : wM) (h : pX0_howManyAt p k μ) (K : wK) (hK : w_cl 0 gX0_howManyAt shX rfX 43 (some .int) (qX0_howManyAt p k μ) tX0_howManyAt K) : K 0 [some (.ref 3), some (.int p), some (.int k), none, none] [] μ := by
  unfold pX0_howManyAt at h
  obtain ⟨E, hE, rfl, hEc⟩ := vp_in_le h (by decide)
  have loop : ∀ (k i : Nat), i + k = E → K 4 [some (.ref 3), some (.int p), some (.int (nI E)), some (.int (nI (w_cnt (fun j => decide (μ 19 j = p)) i))), some (.int (nI i))] [] μ := by
    intro k
    induction k with
    | zero =>
      intro i hi
      refine hK uX0_howManyAt 18 _ _ _ _ (vcX0_howManyAt_4 K _ p (nI E) (nI (w_cnt (fun j => decide (μ 19 j = p)) i)) (nI i) μ ?_)
      refine ⟨fun _ => ⟨?_, rfl⟩, fun z => absurd (nI_le (by omega) (by omega)) z⟩
      rw [hEc, show i = E by omega]
    | succ k ih =>
      intro i hi
      refine hK uX0_howManyAt 18 _ _ _ _ (vcX0_howManyAt_4 K _ p (nI E) (nI (w_cnt (fun j => decide (μ 19 j = p)) i)) (nI i) μ ?_)
      rw [nI_clamp (by omega)]
      have z := ih (i + 1) (by omega)
      unfold w_cnt at z
      refine ⟨fun z => absurd z (nI_ge (by omega) (by omega)), fun _ => ⟨vp_in_nI (by omega) (by omega), fun c => ?_, fun c => ?_⟩⟩
      · rw [if_pos (by simp [c]), ← nI_1] at z
        rw [nI_1 i]
        exact z
      · rw [if_neg (by simp [c])] at z
        rw [nI_1 i, Int32.add_zero]
        exact z
  refine hK uX0_howManyAt 18 _ _ _ _ (vcX0_howManyAt_0 K _ p (nI E) μ ?_)
  exact loop E 0 (by omega)
set_option maxRecDepth 100000 in
theorem zX0_howManyAt (l : Launch) : ∀ (idx : Nat) (S : wS), gX0_howManyAt idx = some S → w_Call l 0 idx S 1 shX rfX 43 := by
  intro idx S hS
  unfold gX0_howManyAt at hS
  split at hS
  · cases hS
theorem mX0_howManyAt (l : Launch) : w_Met l yX0_howManyAt cX0_howManyAt 5 (some .int) 1 shX rfX 43 sX0_howManyAt.2.2.2.1 sX0_howManyAt.2.2.2.2 :=
  w_meth (o := 0) (Γ := gX0_howManyAt) (tb := tX0_howManyAt) (by decide +kernel) rfl kX0_howManyAt rfl (zX0_howManyAt l) (fun as μ h => by obtain ⟨p, k, rfl, h⟩ := h; exact Nat.le_of_ble_eq_true rfl) (fun as μ h K hK => by obtain ⟨p, k, rfl, h⟩ := h; exact vX0_howManyAt p k μ h K hK)
set_option maxRecDepth 100000 in
theorem eX0_howManyAt : Cond.code yX0_howManyAt cX0_howManyAt 5 (some .int) ∈ w_tbl ∧ Cond.instanceMethod yX0_howManyAt ∈ w_tbl ∧ Cond.selects (w_C 0) yX0_howManyAt yX0_howManyAt ∈ w_tbl ∧ Cond.initialized yX0_howManyAt.cls ∈ w_tbl := ⟨by decide +kernel, by decide +kernel, by decide +kernel, by decide +kernel⟩
theorem rX0_howManyAt : ∀ as μ, sX0_howManyAt.2.2.2.1 as μ → ∃ q as', as = .ref q :: as' ∧ q < 43 ∧ shX q = .inl 0 := by
  intro as μ h
  obtain ⟨p, k, rfl, h⟩ := h
  exact ⟨_, _, rfl, by decide, rfl⟩

/-! X0_howManyTold -/
def pX0_howManyTold (μ : wM) : Prop := True
def qX0_howManyTold (μ : wM) (r : Int32) (μ' : wM) : Prop := r = (10 - nI (w_cnt (fun j => decide (μ 19 j = 0)) 10)) ∧ μ' = μ
def sX0_howManyTold : wS := (false, false, 1, fun as μ => as = [.ref 3] ∧ pX0_howManyTold μ, fun as μ r μ' => match as with
  | [.ref _] => qX0_howManyTold μ r μ'
  | _ => False)
def gX0_howManyTold : Nat → Option wS := fun k => match k with
  | 107 => some sX0_howManyAt
  | _ => none
def uX0_howManyTold : Nat → Option (List Nat) := fun _ => none
set_option maxHeartbeats 4000000 in
set_option maxRecDepth 100000 in
theorem vcX0_howManyTold_0 (K : wK) (R : Int32 → wM → Prop) (μ : wM) (h : pX0_howManyAt 0 10 μ ∧ R (10 - (nI (w_cnt (fun j => decide (μ 19 j = 0)) (10 : Int32).toNatClampNeg))) μ) : w_n 0 gX0_howManyTold shX rfX 43 (some .int) R tX0_howManyTold uX0_howManyTold K 8 0 [some (.ref 3)] [] μ :=
  And.intro (Exists.intro _ (Exists.intro _ (And.intro rfl (h.1)))) (fun _ _ z356 => by obtain ⟨z354, z355⟩ := z356; subst z354; subst z355; exact And.intro trivial (h.2))
set_option maxHeartbeats 4000000 in
theorem vX0_howManyTold (μ : wM) (h : pX0_howManyTold μ) (K : wK) (hK : w_cl 0 gX0_howManyTold shX rfX 43 (some .int) (qX0_howManyTold μ) tX0_howManyTold K) : K 0 [some (.ref 3)] [] μ := by
  refine hK uX0_howManyTold 8 _ _ _ _ (vcX0_howManyTold_0 K _ μ ?_)
  clear hK
  unfold pX0_howManyTold at h
  unfold qX0_howManyTold
  exact ⟨vp_in_nI (n := 10) (by decide) (by decide), rfl, rfl⟩
set_option maxRecDepth 100000 in
theorem zX0_howManyTold (l : Launch) : ∀ (idx : Nat) (S : wS), gX0_howManyTold idx = some S → w_Call l 0 idx S 2 shX rfX 43 := by
  intro idx S hS
  unfold gX0_howManyTold at hS
  split at hS
  · cases hS
    exact w_callV (ci := 0) (mX0_howManyAt l) (by decide) rX0_howManyAt eX0_howManyAt.1 (by decide +kernel) eX0_howManyAt.2.1 eX0_howManyAt.2.2.1 eX0_howManyAt.2.2.2 (by decide +kernel) (by decide) (by decide)
  · cases hS
theorem mX0_howManyTold (l : Launch) : w_Met l yX0_howManyTold cX0_howManyTold 1 (some .int) 2 shX rfX 43 sX0_howManyTold.2.2.2.1 sX0_howManyTold.2.2.2.2 :=
  w_meth (o := 0) (Γ := gX0_howManyTold) (tb := tX0_howManyTold) (by decide +kernel) rfl kX0_howManyTold rfl (zX0_howManyTold l) (fun as μ h => by obtain ⟨rfl, h⟩ := h; exact Nat.le_of_ble_eq_true rfl) (fun as μ h K hK => by obtain ⟨rfl, h⟩ := h; exact vX0_howManyTold  μ h K hK)
set_option maxRecDepth 100000 in
theorem eX0_howManyTold : Cond.code yX0_howManyTold cX0_howManyTold 1 (some .int) ∈ w_tbl ∧ Cond.instanceMethod yX0_howManyTold ∈ w_tbl ∧ Cond.selects (w_C 0) yX0_howManyTold yX0_howManyTold ∈ w_tbl ∧ Cond.initialized yX0_howManyTold.cls ∈ w_tbl := ⟨by decide +kernel, by decide +kernel, by decide +kernel, by decide +kernel⟩
theorem rX0_howManyTold : ∀ as μ, sX0_howManyTold.2.2.2.1 as μ → ∃ q as', as = .ref q :: as' ∧ q < 43 ∧ shX q = .inl 0 := by
  intro as μ h
  obtain ⟨rfl, h⟩ := h
  exact ⟨_, _, rfl, by decide, rfl⟩

/-! X0_insert -/
def pX0_insert (x : Int32) (v : Int32) (μ : wM) : Prop := vp_in x 10 ∧ vp_in (μ 21 x.toNatClampNeg) 6
def qX0_insert (x : Int32) (v : Int32) (μ : wM) (r : Int32) (μ' : wM) : Prop := μ' = w_row μ 20 (w_ins (μ 20) (6 * x.toNatClampNeg) v (μ 21 x.toNatClampNeg).toNatClampNeg)
def sX0_insert : wS := (false, true, 3, fun as μ => ∃ x, ∃ v, as = [.ref 3, .int x, .int v] ∧ pX0_insert x v μ, fun as μ r μ' => match as with
  | [.ref _, .int x, .int v] => qX0_insert x v μ r μ'
  | _ => False)
def gX0_insert : Nat → Option wS := fun k => match k with
  | _ => none
def uX0_insert : Nat → Option (List Nat) := fun j => match j with | 11 => some [] | _ => none
set_option maxHeartbeats 4000000 in
set_option maxRecDepth 100000 in
theorem vcX0_insert_0 (K : wK) (R : Int32 → wM → Prop) (x : Int32) (v : Int32) (μ : wM) (h : (vp_in x 10) ∧ (∀ (x1 : Int32), x1 = ((x * 6) + (μ 21 (x : Int32).toNatClampNeg)) → K 11 [some (.ref 3), some (.int x), some (.int v), some (.int (x * 6)), some (.int x1)] [] μ)) : w_n 0 gX0_insert shX rfX 43 none R tX0_insert uX0_insert K 25 0 [some (.ref 3), some (.int x), some (.int v), none, none] [] μ :=
  And.intro (And.intro (of_decide_eq_true rfl) rfl) (And.intro (And.intro (of_decide_eq_true rfl) (Exists.intro _ (And.intro rfl (h.1)))) ((h.2 _ rfl)))
set_option maxHeartbeats 4000000 in
set_option maxRecDepth 100000 in
theorem vcX0_insert_11 (K : wK) (R : Int32 → wM → Prop) (x : Int32) (v : Int32) (l3 : Int32) (l4 : Int32) (μ : wM) (h : (
    (((l4 : Int32) ≤ l3) → (vp_in l4 60) ∧ R 0 (w_up μ 20 (l4 : Int32).toNatClampNeg v)) ∧
    (¬ ((l4 : Int32) ≤ l3) → (vp_in (l4 - 1) 60) ∧ (
      (((v : Int32) ≤ (μ 20 ((l4 - 1) : Int32).toNatClampNeg)) → (vp_in l4 60) ∧ R 0 (w_up μ 20 (l4 : Int32).toNatClampNeg v)) ∧
      (¬ ((v : Int32) ≤ (μ 20 ((l4 - 1) : Int32).toNatClampNeg)) → (vp_in l4 60) ∧ (∀ (m1 : wM), m1 = (w_up μ 20 (l4 : Int32).toNatClampNeg (μ 20 ((l4 - 1) : Int32).toNatClampNeg)) → K 11 [some (.ref 3), some (.int x), some (.int v), some (.int l3), some (.int (l4 + (-1)))] [] m1)))))) : w_n 0 gX0_insert shX rfX 43 none R tX0_insert uX0_insert K 25 11 [some (.ref 3), some (.int x), some (.int v), some (.int l3), some (.int l4)] [] μ :=
  And.intro (fun z361 => And.intro (And.intro (of_decide_eq_true rfl) rfl) (And.intro (And.intro (of_decide_eq_true rfl) (Exists.intro _ (And.intro rfl ((h.1 z361).1)))) ((h.1 z361).2))) (fun z362 => And.intro (And.intro (of_decide_eq_true rfl) rfl) (And.intro (And.intro (of_decide_eq_true rfl) (Exists.intro _ (And.intro rfl ((h.2 z362).1)))) (And.intro (fun z363 => And.intro (And.intro (of_decide_eq_true rfl) rfl) (And.intro (And.intro (of_decide_eq_true rfl) (Exists.intro _ (And.intro rfl (((h.2 z362).2.1 z363).1)))) (((h.2 z362).2.1 z363).2))) (fun z364 => And.intro (And.intro (of_decide_eq_true rfl) rfl) (And.intro (And.intro (of_decide_eq_true rfl) rfl) (And.intro (And.intro (of_decide_eq_true rfl) (Exists.intro _ (And.intro rfl ((h.2 z362).1)))) (And.intro (And.intro (of_decide_eq_true rfl) (Exists.intro _ (And.intro rfl (((h.2 z362).2.2 z364).1)))) ((((h.2 z362).2.2 z364).2 _ rfl)))))))))
set_option maxHeartbeats 4000000 in
theorem vX0_insert (x : Int32) (v : Int32) (μ : wM) (h : pX0_insert x v μ) (K : wK) (hK : w_cl 0 gX0_insert shX rfX 43 none (qX0_insert x v μ) tX0_insert K) : K 0 [some (.ref 3), some (.int x), some (.int v), none, none] [] μ := by
  unfold pX0_insert at h
  obtain ⟨h1, h2⟩ := h
  obtain ⟨X, hX, rfl, hXc⟩ := vp_in_le h1 (by decide)
  obtain ⟨C, hC, hCn, hCc⟩ := vp_in_le h2 (by decide)
  have loop : ∀ (c : Nat) (f : Nat → Int32), c ≤ C → w_ins f (6 * X) v c = w_ins (μ 20) (6 * X) v C → K 11 [some (.ref 3), some (.int (nI X)), some (.int v), some (.int (nI (6 * X))), some (.int (nI (6 * X + c)))] [] (w_row μ 20 f) := by
    intro c
    induction c with
    | zero =>
      intro f hc he
      refine hK uX0_insert 25 _ _ _ _ (vcX0_insert_11 K _ (nI X) v (nI (6 * X)) (nI (6 * X + 0)) (w_row μ 20 f) ?_)
      refine ⟨fun _ => ⟨vp_in_nI (by omega) (by omega), ?_⟩, fun z => absurd (nI_le (by omega) (by omega)) z⟩
      show w_up _ _ _ _ = w_row μ 20 _
      rw [hXc] at hCc ⊢
      rw [hCc, nI_clamp (by omega), w_row_up, ← he]
      rfl
    | succ c ih =>
      intro f hc he
      refine hK uX0_insert 25 _ _ _ _ (vcX0_insert_11 K _ (nI X) v (nI (6 * X)) (nI (6 * X + (c + 1))) (w_row μ 20 f) ?_)
      rw [show 6 * X + (c + 1) = 6 * X + c + 1 by omega, nI_pred, nI_clamp (by omega), nI_clamp (by omega), w_row_at]
      rw [w_ins] at he
      refine ⟨fun z => absurd z (nI_ge (by omega) (by omega)), fun _ => ⟨vp_in_nI (by omega) (by omega), fun z => ⟨vp_in_nI (by omega) (by omega), ?_⟩, fun z => ⟨vp_in_nI (by omega) (by omega), fun m hm => ?_⟩⟩⟩
      · show w_up _ _ _ _ = w_row μ 20 _
        rw [hXc] at hCc ⊢
        rw [if_neg (i_nlt.mpr z)] at he
        rw [hCc, w_row_up, ← he]
        rfl
      · rw [if_pos (i_nle.mp z)] at he
        rw [hm, w_row_up, pk_m1]
        exact ih _ (by omega) he
  refine hK uX0_insert 25 _ _ _ _ (vcX0_insert_0 K _ (nI X) v μ ?_)
  refine ⟨h1, fun x1 hx1 => ?_⟩
  rw [hCn, ix6] at hx1
  have z := loop C (μ 20) (Nat.le_refl _) rfl
  rw [w_row_self, ← hx1, ← ix60] at z
  exact z
set_option maxRecDepth 100000 in
theorem zX0_insert (l : Launch) : ∀ (idx : Nat) (S : wS), gX0_insert idx = some S → w_Call l 0 idx S 1 shX rfX 43 := by
  intro idx S hS
  unfold gX0_insert at hS
  split at hS
  · cases hS
theorem mX0_insert (l : Launch) : w_Met l yX0_insert cX0_insert 5 none 1 shX rfX 43 sX0_insert.2.2.2.1 sX0_insert.2.2.2.2 :=
  w_meth (o := 0) (Γ := gX0_insert) (tb := tX0_insert) (by decide +kernel) rfl kX0_insert rfl (zX0_insert l) (fun as μ h => by obtain ⟨x, v, rfl, h⟩ := h; exact Nat.le_of_ble_eq_true rfl) (fun as μ h K hK => by obtain ⟨x, v, rfl, h⟩ := h; exact vX0_insert x v μ h K hK)
set_option maxRecDepth 100000 in
theorem eX0_insert : Cond.code yX0_insert cX0_insert 5 none ∈ w_tbl ∧ Cond.instanceMethod yX0_insert ∈ w_tbl ∧ Cond.selects (w_C 0) yX0_insert yX0_insert ∈ w_tbl ∧ Cond.initialized yX0_insert.cls ∈ w_tbl := ⟨by decide +kernel, by decide +kernel, by decide +kernel, by decide +kernel⟩
theorem rX0_insert : ∀ as μ, sX0_insert.2.2.2.1 as μ → ∃ q as', as = .ref q :: as' ∧ q < 43 ∧ shX q = .inl 0 := by
  intro as μ h
  obtain ⟨x, v, rfl, h⟩ := h
  exact ⟨_, _, rfl, by decide, rfl⟩

/-! X0_take -/
def pX0_take (q : Nat) (i : Int32) (μ : wM) : Prop := q < 43 ∧ shX q = .inl 1 ∧ vp_in i 160 ∧ vp_in (μ 15 i.toNatClampNeg) 10 ∧ (μ q 1 = 2 → vp_in (μ 16 i.toNatClampNeg) 3) ∧ (μ q 1 = 0 → vp_in (μ 21 (μ 15 i.toNatClampNeg).toNatClampNeg) 7)
def qX0_take (q : Nat) (i : Int32) (μ : wM) (r : Int32) (μ' : wM) : Prop := μ' = w_Tb μ (w_take (μ q 1) (μ q 7) (μ q 8) (μ q 9) (μ 15 i.toNatClampNeg).toNatClampNeg (μ 16 i.toNatClampNeg) (μ 17 i.toNatClampNeg) (μ 18 i.toNatClampNeg) (μ 20, μ 21, μ 22))
def sX0_take : wS := (false, true, 4, fun as μ => ∃ q, ∃ i, as = [.ref 3, .ref 2, .ref q, .int i] ∧ pX0_take q i μ, fun as μ r μ' => match as with
  | [.ref _, .ref _, .ref q, .int i] => qX0_take q i μ r μ'
  | _ => False)
def gX0_take : Nat → Option wS := fun k => match k with
  | 76 => some sX1_fairMark
  | 79 => some sX0_insert
  | 86 => some sX1_raceMark
  | _ => none
def uX0_take : Nat → Option (List Nat) := fun _ => none
set_option maxHeartbeats 4000000 in
set_option maxRecDepth 100000 in
theorem vcX0_take_0 (K : wK) (R : Int32 → wM → Prop) (q : Nat) (i : Int32) (μ : wM) (h : (vp_in i 160) ∧ (∀ (x1 : Int32), x1 = (μ 15 (i : Int32).toNatClampNeg) → (q < 43 ∧ shX q = .inl 1) ∧ (
    ((((μ q 1) : Int32) = 2) → (∀ (x2 : Int32), x2 = ((x1 * 3) + (μ 16 (i : Int32).toNatClampNeg)) → (vp_in x2 30) ∧ (
      ((((μ 22 (x2 : Int32).toNatClampNeg) : Int32) = 0) → (∀ (m3 : wM), m3 = (w_up μ 22 (x2 : Int32).toNatClampNeg (μ 17 (i : Int32).toNatClampNeg)) → R 0 m3)) ∧
      (¬ (((μ 22 (x2 : Int32).toNatClampNeg) : Int32) = 0) → (∀ (m4 : wM), m4 = (w_up μ 22 (x2 : Int32).toNatClampNeg (μ 22 (x2 : Int32).toNatClampNeg)) → R 0 m4))))) ∧
    (¬ (((μ q 1) : Int32) = 2) → (
      ((((μ q 1) : Int32) = 0) → (vp_in x1 10) ∧ (
        (((6 : Int32) ≤ (μ 21 (x1 : Int32).toNatClampNeg)) → (
          ((((μ q 1) : Int32) = 1) → (
            ((((μ 21 (x1 : Int32).toNatClampNeg) : Int32) = 0) → pX1_raceMark q (μ 16 (i : Int32).toNatClampNeg) (μ 18 (i : Int32).toNatClampNeg) μ ∧ (vp_in (x1 * 6) 60) ∧ (∀ (m7 : wM), m7 = (w_up μ 20 ((x1 * 6) : Int32).toNatClampNeg (w_race (μ q 9) (μ 16 (i : Int32).toNatClampNeg) (μ 18 (i : Int32).toNatClampNeg))) → R 0 (w_up m7 21 (x1 : Int32).toNatClampNeg 1))) ∧
            (¬ (((μ 21 (x1 : Int32).toNatClampNeg) : Int32) = 0) → R 0 μ))) ∧
          (¬ (((μ q 1) : Int32) = 1) → R 0 μ))) ∧
        (¬ ((6 : Int32) ≤ (μ 21 (x1 : Int32).toNatClampNeg)) → pX1_fairMark q (μ 16 (i : Int32).toNatClampNeg) (μ 17 (i : Int32).toNatClampNeg) μ ∧ pX0_insert x1 (w_fair (μ q 7) (μ q 8) (μ 16 (i : Int32).toNatClampNeg) (μ 17 (i : Int32).toNatClampNeg)) μ ∧ (∀ (r10 : Int32) (m11 : wM), qX0_insert x1 (w_fair (μ q 7) (μ q 8) (μ 16 (i : Int32).toNatClampNeg) (μ 17 (i : Int32).toNatClampNeg)) μ r10 m11 →
          (∀ (m12 : wM), m12 = (w_up m11 21 (x1 : Int32).toNatClampNeg ((m11 21 (x1 : Int32).toNatClampNeg) + 1)) → R 0 m12))))) ∧
      (¬ (((μ q 1) : Int32) = 0) → (
        ((((μ q 1) : Int32) = 1) → (vp_in x1 10) ∧ (
          ((((μ 21 (x1 : Int32).toNatClampNeg) : Int32) = 0) → pX1_raceMark q (μ 16 (i : Int32).toNatClampNeg) (μ 18 (i : Int32).toNatClampNeg) μ ∧ (vp_in (x1 * 6) 60) ∧ (∀ (m15 : wM), m15 = (w_up μ 20 ((x1 * 6) : Int32).toNatClampNeg (w_race (μ q 9) (μ 16 (i : Int32).toNatClampNeg) (μ 18 (i : Int32).toNatClampNeg))) → R 0 (w_up m15 21 (x1 : Int32).toNatClampNeg 1))) ∧
          (¬ (((μ 21 (x1 : Int32).toNatClampNeg) : Int32) = 0) → R 0 μ))) ∧
        (¬ (((μ q 1) : Int32) = 1) → R 0 μ)))))))) : w_n 0 gX0_take shX rfX 43 none R tX0_take uX0_take K 50 0 [some (.ref 3), some (.ref 2), some (.ref q), some (.int i), none, none] [] μ :=
  And.intro (And.intro (of_decide_eq_true rfl) rfl) (And.intro (And.intro (of_decide_eq_true rfl) (Exists.intro _ (And.intro rfl (h.1)))) (And.intro ((h.2 _ rfl).1) (And.intro (fun z391 => And.intro (And.intro (of_decide_eq_true rfl) rfl) (And.intro (And.intro (of_decide_eq_true rfl) (Exists.intro _ (And.intro rfl (h.1)))) (And.intro (And.intro (of_decide_eq_true rfl) rfl) (And.intro (And.intro (of_decide_eq_true rfl) rfl) (And.intro (And.intro (of_decide_eq_true rfl) (Exists.intro _ (And.intro rfl ((((h.2 _ rfl).2.1 z391) _ rfl).1)))) (And.intro (fun z393 => And.intro (And.intro (of_decide_eq_true rfl) rfl) (And.intro (And.intro (of_decide_eq_true rfl) (Exists.intro _ (And.intro rfl (h.1)))) (And.intro (And.intro (of_decide_eq_true rfl) (Exists.intro _ (And.intro rfl ((((h.2 _ rfl).2.1 z391) _ rfl).1)))) ((((((h.2 _ rfl).2.1 z391) _ rfl).2.1 z393) _ rfl))))) (fun z394 => And.intro (And.intro (of_decide_eq_true rfl) rfl) (And.intro (And.intro (of_decide_eq_true rfl) (Exists.intro _ (And.intro rfl ((((h.2 _ rfl).2.1 z391) _ rfl).1)))) (And.intro (And.intro (of_decide_eq_true rfl) (Exists.intro _ (And.intro rfl ((((h.2 _ rfl).2.1 z391) _ rfl).1)))) ((((((h.2 _ rfl).2.1 z391) _ rfl).2.2 z394) _ rfl))))))))))) (fun z392 => And.intro ((h.2 _ rfl).1) (And.intro (fun z395 => And.intro (And.intro (of_decide_eq_true rfl) rfl) (And.intro (And.intro (of_decide_eq_true rfl) (Exists.intro _ (And.intro rfl ((((h.2 _ rfl).2.2 z392).1 z395).1)))) (And.intro (fun z397 => And.intro ((h.2 _ rfl).1) (And.intro (fun z399 => And.intro (And.intro (of_decide_eq_true rfl) rfl) (And.intro (And.intro (of_decide_eq_true rfl) (Exists.intro _ (And.intro rfl ((((h.2 _ rfl).2.2 z392).1 z395).1)))) (And.intro (fun z401 => And.intro (And.intro (of_decide_eq_true rfl) rfl) (And.intro (And.intro (of_decide_eq_true rfl) rfl) (And.intro (And.intro (of_decide_eq_true rfl) (Exists.intro _ (And.intro rfl (h.1)))) (And.intro (And.intro (of_decide_eq_true rfl) rfl) (And.intro (And.intro (of_decide_eq_true rfl) (Exists.intro _ (And.intro rfl (h.1)))) (And.intro (Exists.intro _ (Exists.intro _ (Exists.intro _ (And.intro rfl (((((((h.2 _ rfl).2.2 z392).1 z395).2.1 z397).1 z399).1 z401).1))))) (fun _ _ z405 => by obtain ⟨z403, z404⟩ := z405; subst z403; subst z404; exact And.intro (And.intro (of_decide_eq_true rfl) (Exists.intro _ (And.intro rfl (((((((h.2 _ rfl).2.2 z392).1 z395).2.1 z397).1 z399).1 z401).2.1)))) (And.intro (And.intro (of_decide_eq_true rfl) rfl) (And.intro (And.intro (of_decide_eq_true rfl) (Exists.intro _ (And.intro rfl ((((h.2 _ rfl).2.2 z392).1 z395).1)))) ((((((((h.2 _ rfl).2.2 z392).1 z395).2.1 z397).1 z399).1 z401).2.2 _ rfl))))))))))) (fun z402 => ((((((h.2 _ rfl).2.2 z392).1 z395).2.1 z397).1 z399).2 z402))))) (fun z400 => (((((h.2 _ rfl).2.2 z392).1 z395).2.1 z397).2 z400)))) (fun z398 => And.intro (And.intro (of_decide_eq_true rfl) rfl) (And.intro (And.intro (of_decide_eq_true rfl) (Exists.intro _ (And.intro rfl (h.1)))) (And.intro (And.intro (of_decide_eq_true rfl) rfl) (And.intro (And.intro (of_decide_eq_true rfl) (Exists.intro _ (And.intro rfl (h.1)))) (And.intro (Exists.intro _ (Exists.intro _ (Exists.intro _ (And.intro rfl (((((h.2 _ rfl).2.2 z392).1 z395).2.2 z398).1))))) (fun _ _ z408 => by obtain ⟨z406, z407⟩ := z408; subst z406; subst z407; exact And.intro (Exists.intro _ (Exists.intro _ (And.intro rfl (((((h.2 _ rfl).2.2 z392).1 z395).2.2 z398).2.1)))) (fun r10 m11 z409 => And.intro (And.intro (of_decide_eq_true rfl) rfl) (And.intro (And.intro (of_decide_eq_true rfl) (Exists.intro _ (And.intro rfl ((((h.2 _ rfl).2.2 z392).1 z395).1)))) (And.intro (And.intro (of_decide_eq_true rfl) (Exists.intro _ (And.intro rfl ((((h.2 _ rfl).2.2 z392).1 z395).1)))) (((((((h.2 _ rfl).2.2 z392).1 z395).2.2 z398).2.2 r10 m11 z409) _ rfl)))))))))))))) (fun z396 => And.intro ((h.2 _ rfl).1) (And.intro (fun z410 => And.intro (And.intro (of_decide_eq_true rfl) rfl) (And.intro (And.intro (of_decide_eq_true rfl) (Exists.intro _ (And.intro rfl (((((h.2 _ rfl).2.2 z392).2 z396).1 z410).1)))) (And.intro (fun z412 => And.intro (And.intro (of_decide_eq_true rfl) rfl) (And.intro (And.intro (of_decide_eq_true rfl) rfl) (And.intro (And.intro (of_decide_eq_true rfl) (Exists.intro _ (And.intro rfl (h.1)))) (And.intro (And.intro (of_decide_eq_true rfl) rfl) (And.intro (And.intro (of_decide_eq_true rfl) (Exists.intro _ (And.intro rfl (h.1)))) (And.intro (Exists.intro _ (Exists.intro _ (Exists.intro _ (And.intro rfl ((((((h.2 _ rfl).2.2 z392).2 z396).1 z410).2.1 z412).1))))) (fun _ _ z416 => by obtain ⟨z414, z415⟩ := z416; subst z414; subst z415; exact And.intro (And.intro (of_decide_eq_true rfl) (Exists.intro _ (And.intro rfl ((((((h.2 _ rfl).2.2 z392).2 z396).1 z410).2.1 z412).2.1)))) (And.intro (And.intro (of_decide_eq_true rfl) rfl) (And.intro (And.intro (of_decide_eq_true rfl) (Exists.intro _ (And.intro rfl (((((h.2 _ rfl).2.2 z392).2 z396).1 z410).1)))) (((((((h.2 _ rfl).2.2 z392).2 z396).1 z410).2.1 z412).2.2 _ rfl))))))))))) (fun z413 => (((((h.2 _ rfl).2.2 z392).2 z396).1 z410).2.2 z413))))) (fun z411 => ((((h.2 _ rfl).2.2 z392).2 z396).2 z411)))))))))
set_option maxHeartbeats 4000000 in
theorem vX0_take (q : Nat) (i : Int32) (μ : wM) (h : pX0_take q i μ) (K : wK) (hK : w_cl 0 gX0_take shX rfX 43 none (qX0_take q i μ) tX0_take K) : K 0 [some (.ref 3), some (.ref 2), some (.ref q), some (.int i), none, none] [] μ := by
  refine hK uX0_take 50 _ _ _ _ (vcX0_take_0 K _ q i μ ?_)
  clear hK
  unfold pX0_take at h
  unfold qX0_take
  obtain ⟨h1, h2, h3, h4, h5, h6⟩ := h
  refine ⟨h3, fun x1 hx1 => ⟨⟨h1, h2⟩, fun c1 => fun x2 hx2 => ?_, fun c1 => ⟨fun c2 => ⟨by rw [hx1]; exact h4, fun c3 => ⟨fun c4 => ?_, fun c4 => ?_⟩, fun c3 => ⟨⟨h1, h2, trivial⟩, ?_, fun r m hm m2 hm2 => ?_⟩⟩, fun c2 => ⟨fun c3 => ⟨by rw [hx1]; exact h4, fun c4 => ⟨⟨h1, h2, trivial⟩, ?_, fun m hm => ?_⟩, fun c4 => ?_⟩, fun c3 => ?_⟩⟩⟩⟩
  all_goals rw [← hx1] at h4 h6
  all_goals (try unfold qX0_take)
  all_goals (try rw [← hx1])
  all_goals obtain ⟨X, hX, hXn, hXc⟩ := vp_in_le h4 (by decide)
  · obtain ⟨J, hJ, hJn, hJc⟩ := vp_in_le (h5 c1) (by decide)
    have hx2 : x2 = nI (3 * X + J) := by rw [hx2, hXn, hJn, ix3]
    have hx2c : x2.toNatClampNeg = 3 * X + J := by rw [hx2]; exact nI_clamp (by omega)
    unfold w_take
    rw [if_pos c1, hx2c, hXc, hJc]
    refine ⟨by rw [hx2]; exact vp_in_nI (by omega) (by omega), fun c => fun m hm => ?_, fun c => fun m hm => ?_⟩
    · dsimp only
      rw [if_pos c, hm, w_row_of_up, ← w_Tb_r22 μ (μ 20, μ 21, μ 22), w_Tb_self]
    · dsimp only
      rw [if_neg c, w_Tb_self, hm, w_row_of_up, upd_self, w_row_self]
  · exact absurd (c2.symm.trans c4) (by decide)
  · unfold w_take
    rw [if_neg c1, if_pos c2, if_pos (by rw [hXc] at c3 ⊢; exact c3), w_Tb_self]
  · refine ⟨h4, ?_⟩
    obtain ⟨C, hC, hCn, hCc⟩ := vp_in_le (h6 c2) (by decide)
    rw [hCn] at c3 ⊢
    exact vp_in_nI (by
      rcases Nat.lt_or_ge C 6 with z | z
      · exact z
      · exact absurd (nI_le (a := 6) z (by omega)) c3) (by omega)
  · unfold qX0_insert at hm
    unfold w_take
    rw [if_neg c1, if_pos c2, if_neg (by rw [hXc] at c3 ⊢; exact c3)]
    have e21 : m 21 = μ 21 := by rw [hm]; exact w_row_ne _ _ (by decide)
    rw [hm2, e21, hm, w_row_of_up, w_row_ne _ _ (by decide)]
    dsimp only
    rw [← w_Tb_r21 μ (_, μ 21, μ 22), ← w_Tb_r20 μ (μ 20, μ 21, μ 22), w_Tb_self]
  · rw [hXn, ix60]
    exact vp_in_nI (by omega) (by omega)
  · unfold w_take
    rw [if_neg c1, if_neg c2, if_pos c3]
    rw [hXc] at c4 ⊢
    dsimp only
    rw [if_pos c4, hm, hXn, ix60, nI_clamp (by omega), w_row_of_up, w_row_of_up, w_row_ne _ _ (by decide), ← w_Tb_r21 μ (_, μ 21, μ 22), ← w_Tb_r20 μ (μ 20, μ 21, μ 22), w_Tb_self]
  · unfold w_take
    rw [if_neg c1, if_neg c2, if_pos c3, if_neg (by rw [hXc] at c4 ⊢; exact c4), w_Tb_self]
  · unfold w_take
    rw [if_neg c1, if_neg c2, if_neg c3, w_Tb_self]
set_option maxRecDepth 100000 in
theorem zX0_take (l : Launch) : ∀ (idx : Nat) (S : wS), gX0_take idx = some S → w_Call l 0 idx S 2 shX rfX 43 := by
  intro idx S hS
  unfold gX0_take at hS
  split at hS
  · cases hS
    exact w_callV (ci := 1) (mX1_fairMark l) (by decide) rX1_fairMark eX1_fairMark.1 (by decide +kernel) eX1_fairMark.2.1 eX1_fairMark.2.2.1 eX1_fairMark.2.2.2 (by decide +kernel) (by decide) (by decide)
  · cases hS
    exact w_callV (ci := 0) (mX0_insert l) (by decide) rX0_insert eX0_insert.1 (by decide +kernel) eX0_insert.2.1 eX0_insert.2.2.1 eX0_insert.2.2.2 (by decide +kernel) (by decide) (by decide)
  · cases hS
    exact w_callV (ci := 1) (mX1_raceMark l) (by decide) rX1_raceMark eX1_raceMark.1 (by decide +kernel) eX1_raceMark.2.1 eX1_raceMark.2.2.1 eX1_raceMark.2.2.2 (by decide +kernel) (by decide) (by decide)
  · cases hS
theorem mX0_take (l : Launch) : w_Met l yX0_take cX0_take 6 none 2 shX rfX 43 sX0_take.2.2.2.1 sX0_take.2.2.2.2 :=
  w_meth (o := 0) (Γ := gX0_take) (tb := tX0_take) (by decide +kernel) rfl kX0_take rfl (zX0_take l) (fun as μ h => by obtain ⟨q, i, rfl, h⟩ := h; exact Nat.le_of_ble_eq_true rfl) (fun as μ h K hK => by obtain ⟨q, i, rfl, h⟩ := h; exact vX0_take q i μ h K hK)
set_option maxRecDepth 100000 in
theorem eX0_take : Cond.code yX0_take cX0_take 6 none ∈ w_tbl ∧ Cond.instanceMethod yX0_take ∈ w_tbl ∧ Cond.selects (w_C 0) yX0_take yX0_take ∈ w_tbl ∧ Cond.initialized yX0_take.cls ∈ w_tbl := ⟨by decide +kernel, by decide +kernel, by decide +kernel, by decide +kernel⟩
theorem rX0_take : ∀ as μ, sX0_take.2.2.2.1 as μ → ∃ q as', as = .ref q :: as' ∧ q < 43 ∧ shX q = .inl 0 := by
  intro as μ h
  obtain ⟨q, i, rfl, h⟩ := h
  exact ⟨_, _, rfl, by decide, rfl⟩

/-! X0_joinJudges -/
def pX0_joinJudges (μ : wM) : Prop := True
def qX0_joinJudges (μ : wM) (r : Int32) (μ' : wM) : Prop := μ' = w_Tb μ (w_join (μ 20, μ 21, μ 22) 10)
def sX0_joinJudges : wS := (false, true, 1, fun as μ => as = [.ref 3] ∧ pX0_joinJudges μ, fun as μ r μ' => match as with
  | [.ref _] => qX0_joinJudges μ r μ'
  | _ => False)
def gX0_joinJudges : Nat → Option wS := fun k => match k with
  | 39 => some sJ9_min_7cf53
  | 89 => some sJ9_max_7cf53
  | _ => none
def uX0_joinJudges : Nat → Option (List Nat) := fun j => match j with | 2 => some [2, 3, 4, 5] | _ => none
set_option maxHeartbeats 4000000 in
set_option maxRecDepth 100000 in
theorem vcX0_joinJudges_0 (K : wK) (R : Int32 → wM → Prop) (μ : wM) (h : K 2 [some (.ref 3), some (.int 0), none, none, none, none] [] μ) : w_n 0 gX0_joinJudges shX rfX 43 none R tX0_joinJudges uX0_joinJudges K 68 0 [some (.ref 3), none, none, none, none, none] [] μ :=
  h
set_option maxHeartbeats 4000000 in
set_option maxRecDepth 100000 in
theorem vcX0_joinJudges_2 (K : wK) (R : Int32 → wM → Prop) (l1 : Int32) (μ : wM) (h : (
    (((10 : Int32) ≤ l1) → R 0 μ) ∧
    (¬ ((10 : Int32) ≤ l1) → (vp_in (l1 * 3) 30) ∧ (∀ (x1 : Int32), x1 = (μ 22 ((l1 * 3) : Int32).toNatClampNeg) → (vp_in ((l1 * 3) + 1) 30) ∧ (∀ (x2 : Int32), x2 = (μ 22 (((l1 * 3) + 1) : Int32).toNatClampNeg) → (vp_in ((l1 * 3) + 2) 30) ∧ (∀ (x3 : Int32), x3 = (μ 22 (((l1 * 3) + 2) : Int32).toNatClampNeg) → (
      (((x1 : Int32) ≤ 0) → K 2 [some (.ref 3), some (.int (l1 + 1)), none, none, none, none] [] μ) ∧
      (¬ ((x1 : Int32) ≤ 0) → (
        (((x2 : Int32) ≤ 0) → K 2 [some (.ref 3), some (.int (l1 + 1)), none, none, none, none] [] μ) ∧
        (¬ ((x2 : Int32) ≤ 0) → (
          (((x3 : Int32) ≤ 0) → K 2 [some (.ref 3), some (.int (l1 + 1)), none, none, none, none] [] μ) ∧
          (¬ ((x3 : Int32) ≤ 0) → (∀ (x12 : Int32), x12 = (w_mx (w_mn x1 x2) (w_mn (w_mx x1 x2) x3)) → (vp_in (l1 * 6) 60) ∧ (∀ (m13 : wM), m13 = (w_up μ 20 ((l1 * 6) : Int32).toNatClampNeg ((((100 * x12) + x1) + x2) + x3)) → (vp_in l1 10) ∧ K 2 [some (.ref 3), some (.int (l1 + 1)), none, none, none, none] [] (w_up m13 21 (l1 : Int32).toNatClampNeg 1))))))))))))))) : w_n 0 gX0_joinJudges shX rfX 43 none R tX0_joinJudges uX0_joinJudges K 68 2 [some (.ref 3), some (.int l1), none, none, none, none] [] μ :=
  And.intro (fun z437 => (h.1 z437)) (fun z438 => And.intro (And.intro (of_decide_eq_true rfl) rfl) (And.intro (And.intro (of_decide_eq_true rfl) (Exists.intro _ (And.intro rfl ((h.2 z438).1)))) (And.intro (And.intro (of_decide_eq_true rfl) rfl) (And.intro (And.intro (of_decide_eq_true rfl) (Exists.intro _ (And.intro rfl (((h.2 z438).2 _ rfl).1)))) (And.intro (And.intro (of_decide_eq_true rfl) rfl) (And.intro (And.intro (of_decide_eq_true rfl) (Exists.intro _ (And.intro rfl ((((h.2 z438).2 _ rfl).2 _ rfl).1)))) (And.intro (fun z439 => (((((h.2 z438).2 _ rfl).2 _ rfl).2 _ rfl).1 z439)) (fun z440 => And.intro (fun z441 => ((((((h.2 z438).2 _ rfl).2 _ rfl).2 _ rfl).2 z440).1 z441)) (fun z442 => And.intro (fun z443 => (((((((h.2 z438).2 _ rfl).2 _ rfl).2 _ rfl).2 z440).2 z442).1 z443)) (fun z444 => And.intro (Exists.intro _ (Exists.intro _ (And.intro rfl (trivial)))) (fun _ _ z447 => by obtain ⟨z445, z446⟩ := z447; subst z445; subst z446; exact And.intro (Exists.intro _ (Exists.intro _ (And.intro rfl (trivial)))) (fun _ _ z450 => by obtain ⟨z448, z449⟩ := z450; subst z448; subst z449; exact And.intro (Exists.intro _ (Exists.intro _ (And.intro rfl (trivial)))) (fun _ _ z453 => by obtain ⟨z451, z452⟩ := z453; subst z451; subst z452; exact And.intro (Exists.intro _ (Exists.intro _ (And.intro rfl (trivial)))) (fun _ _ z456 => by obtain ⟨z454, z455⟩ := z456; subst z454; subst z455; exact And.intro (And.intro (of_decide_eq_true rfl) rfl) (And.intro (And.intro (of_decide_eq_true rfl) (Exists.intro _ (And.intro rfl (((((((((h.2 z438).2 _ rfl).2 _ rfl).2 _ rfl).2 z440).2 z442).2 z444) _ rfl).1)))) (And.intro (And.intro (of_decide_eq_true rfl) rfl) (And.intro (And.intro (of_decide_eq_true rfl) (Exists.intro _ (And.intro rfl ((((((((((h.2 z438).2 _ rfl).2 _ rfl).2 _ rfl).2 z440).2 z442).2 z444) _ rfl).2 _ rfl).1)))) ((((((((((h.2 z438).2 _ rfl).2 _ rfl).2 _ rfl).2 z440).2 z442).2 z444) _ rfl).2 _ rfl).2))))))))))))))))))
set_option maxHeartbeats 4000000 in
theorem vX0_joinJudges (μ : wM) (h : pX0_joinJudges μ) (K : wK) (hK : w_cl 0 gX0_joinJudges shX rfX 43 none (qX0_joinJudges μ) tX0_joinJudges K) : K 0 [some (.ref 3), none, none, none, none, none] [] μ := by
  unfold pX0_joinJudges at h
  have loop : ∀ (k i : Nat), i + k = 10 → K 2 [some (.ref 3), some (.int (nI i)), none, none, none, none] [] (w_Tb μ (w_join (μ 20, μ 21, μ 22) i)) := by
    intro k
    induction k with
    | zero =>
      intro i hi
      refine hK uX0_joinJudges 68 _ _ _ _ (vcX0_joinJudges_2 K _ (nI i) (w_Tb μ (w_join (μ 20, μ 21, μ 22) i)) ?_)
      refine ⟨fun _ => ?_, fun z => absurd (nI_le (a := 10) (by omega) (by omega)) z⟩
      rw [show i = 10 by omega]
      rfl
    | succ k ih =>
      intro i hi
      refine hK uX0_joinJudges 68 _ _ _ _ (vcX0_joinJudges_2 K _ (nI i) (w_Tb μ (w_join (μ 20, μ 21, μ 22) i)) ?_)
      have z := ih (i + 1) (by omega)
      unfold w_join at z
      dsimp only at z
      have e22 : (w_join (μ 20, μ 21, μ 22) i).2.2 = μ 22 := w_join_22 _ _
      rw [nI_1, ix30, ix60, nI_1, show nI (3 * i) + 2 = nI (3 * i + 2) from nI_add (3 * i) 2, nI_clamp (by omega), nI_clamp (by omega), nI_clamp (by omega), nI_clamp (by omega), nI_clamp (by omega), w_Tb_22, e22]
      refine ⟨fun z => absurd z (nI_ge (b := 10) (by omega) (by omega)), fun _ => ⟨vp_in_nI (by omega) (by omega), fun x1 hx1 => ⟨vp_in_nI (by omega) (by omega), fun x2 hx2 => ⟨vp_in_nI (by omega) (by omega), fun x3 hx3 => ⟨fun c => ?_, fun c1 => ⟨fun c => ?_, fun c2 => ⟨fun c => ?_, fun c3 => fun x12 hx12 => ⟨vp_in_nI (by omega) (by omega), fun m hm => ⟨vp_in_nI (by omega) (by omega), ?_⟩⟩⟩⟩⟩⟩⟩⟩⟩
      · subst hx1 hx2 hx3
        rw [if_neg (fun q => q.1 c)] at z
        exact z
      · subst hx1 hx2 hx3
        rw [if_neg (fun q => q.2.1 c)] at z
        exact z
      · subst hx1 hx2 hx3
        rw [if_neg (fun q => q.2.2 c)] at z
        exact z
      · subst hx1 hx2 hx3
        rw [if_pos ⟨c1, c2, c3⟩] at z
        rw [hm, w_row_of_up, w_row_of_up, w_row_ne _ _ (by decide), w_Tb_20, w_Tb_21, w_Tb_r20, w_Tb_r21, hx12]
        exact z
  refine hK uX0_joinJudges 68 _ _ _ _ (vcX0_joinJudges_0 K _ μ ?_)
  have z := loop 10 0 rfl
  unfold w_join at z
  rw [w_Tb_self, nI_0] at z
  exact z
set_option maxRecDepth 100000 in
theorem zX0_joinJudges (l : Launch) : ∀ (idx : Nat) (S : wS), gX0_joinJudges idx = some S → w_Call l 0 idx S 1 shX rfX 43 := by
  intro idx S hS
  unfold gX0_joinJudges at hS
  split at hS
  · cases hS
    exact w_callMin (by decide) (by decide +kernel) (by decide +kernel) (by decide +kernel) (by decide +kernel)
  · cases hS
    exact w_callMax (by decide) (by decide +kernel) (by decide +kernel) (by decide +kernel) (by decide +kernel)
  · cases hS
theorem mX0_joinJudges (l : Launch) : w_Met l yX0_joinJudges cX0_joinJudges 6 none 1 shX rfX 43 sX0_joinJudges.2.2.2.1 sX0_joinJudges.2.2.2.2 :=
  w_meth (o := 0) (Γ := gX0_joinJudges) (tb := tX0_joinJudges) (by decide +kernel) rfl kX0_joinJudges rfl (zX0_joinJudges l) (fun as μ h => by obtain ⟨rfl, h⟩ := h; exact Nat.le_of_ble_eq_true rfl) (fun as μ h K hK => by obtain ⟨rfl, h⟩ := h; exact vX0_joinJudges  μ h K hK)
set_option maxRecDepth 100000 in
theorem eX0_joinJudges : Cond.code yX0_joinJudges cX0_joinJudges 6 none ∈ w_tbl ∧ Cond.instanceMethod yX0_joinJudges ∈ w_tbl ∧ Cond.selects (w_C 0) yX0_joinJudges yX0_joinJudges ∈ w_tbl ∧ Cond.initialized yX0_joinJudges.cls ∈ w_tbl := ⟨by decide +kernel, by decide +kernel, by decide +kernel, by decide +kernel⟩
theorem rX0_joinJudges : ∀ as μ, sX0_joinJudges.2.2.2.1 as μ → ∃ q as', as = .ref q :: as' ∧ q < 43 ∧ shX q = .inl 0 := by
  intro as μ h
  obtain ⟨rfl, h⟩ := h
  exact ⟨_, _, rfl, by decide, rfl⟩

/-! X0_isAhead -/
def pX0_isAhead (x : Int32) (y : Int32) (q : Nat) (μ : wM) : Prop := q < 43 ∧ shX q = .inl 1 ∧ vp_in x 10 ∧ vp_in y 10
def qX0_isAhead (x : Int32) (y : Int32) (q : Nat) (μ : wM) (r : Int32) (μ' : wM) : Prop := r = (w_B01 (w_ahead (μ q 1) (μ 20) x.toNatClampNeg y.toNatClampNeg)) ∧ μ' = μ
def sX0_isAhead : wS := (false, false, 4, fun as μ => ∃ x, ∃ y, ∃ q, as = [.ref 3, .int x, .int y, .ref q] ∧ pX0_isAhead x y q μ, fun as μ r μ' => match as with
  | [.ref _, .int x, .int y, .ref q] => qX0_isAhead x y q μ r μ'
  | _ => False)
def gX0_isAhead : Nat → Option wS := fun k => match k with
  | 104 => some sX0_markOf
  | _ => none
def uX0_isAhead : Nat → Option (List Nat) := fun j => match j with | 18 => some [] | _ => none
set_option maxHeartbeats 4000000 in
set_option maxRecDepth 100000 in
theorem vcX0_isAhead_0 (K : wK) (R : Int32 → wM → Prop) (x : Int32) (y : Int32) (q : Nat) (μ : wM) (h : (q < 43 ∧ shX q = .inl 1) ∧ (
    ((((μ q 1) : Int32) = 0) → K 18 [some (.ref 3), some (.int x), some (.int y), some (.ref q), some (.int 0)] [] μ) ∧
    (¬ (((μ q 1) : Int32) = 0) → pX0_markOf x 0 μ ∧ pX0_markOf y 0 μ ∧ (
      ((((μ 20 (y * 6 + 0).toNatClampNeg) : Int32) ≤ (μ 20 (x * 6 + 0).toNatClampNeg)) → R 0 μ) ∧
      (¬ (((μ 20 (y * 6 + 0).toNatClampNeg) : Int32) ≤ (μ 20 (x * 6 + 0).toNatClampNeg)) → R 1 μ))))) : w_n 0 gX0_isAhead shX rfX 43 (some .boolean) R tX0_isAhead uX0_isAhead K 25 0 [some (.ref 3), some (.int x), some (.int y), some (.ref q), none] [] μ :=
  And.intro (h.1) (And.intro (fun z485 => (h.2.1 z485)) (fun z486 => And.intro (Exists.intro _ (Exists.intro _ (And.intro rfl ((h.2.2 z486).1)))) (fun _ _ z489 => by obtain ⟨z487, z488⟩ := z489; subst z487; subst z488; exact And.intro (Exists.intro _ (Exists.intro _ (And.intro rfl ((h.2.2 z486).2.1)))) (fun _ _ z492 => by obtain ⟨z490, z491⟩ := z492; subst z490; subst z491; exact And.intro (fun z493 => And.intro (Or.inl rfl) (((h.2.2 z486).2.2.1 z493))) (fun z494 => And.intro (Or.inr rfl) (((h.2.2 z486).2.2.2 z494)))))))
set_option maxHeartbeats 4000000 in
set_option maxRecDepth 100000 in
theorem vcX0_isAhead_18 (K : wK) (R : Int32 → wM → Prop) (x : Int32) (y : Int32) (q : Nat) (l4 : Int32) (μ : wM) (h : (
    (((6 : Int32) ≤ l4) → R 0 μ) ∧
    (¬ ((6 : Int32) ≤ l4) → pX0_markOf x l4 μ ∧ pX0_markOf y l4 μ ∧ (
      ((((μ 20 (x * 6 + l4).toNatClampNeg) : Int32) = (μ 20 (y * 6 + l4).toNatClampNeg)) → K 18 [some (.ref 3), some (.int x), some (.int y), some (.ref q), some (.int (l4 + 1))] [] μ) ∧
      (¬ (((μ 20 (x * 6 + l4).toNatClampNeg) : Int32) = (μ 20 (y * 6 + l4).toNatClampNeg)) → (
        ((((μ 20 (x * 6 + l4).toNatClampNeg) : Int32) ≤ (μ 20 (y * 6 + l4).toNatClampNeg)) → R 0 μ) ∧
        (¬ (((μ 20 (x * 6 + l4).toNatClampNeg) : Int32) ≤ (μ 20 (y * 6 + l4).toNatClampNeg)) → R 1 μ))))))) : w_n 0 gX0_isAhead shX rfX 43 (some .boolean) R tX0_isAhead uX0_isAhead K 25 18 [some (.ref 3), some (.int x), some (.int y), some (.ref q), some (.int l4)] [] μ :=
  And.intro (fun z495 => And.intro (Or.inl rfl) ((h.1 z495))) (fun z496 => And.intro (Exists.intro _ (Exists.intro _ (And.intro rfl ((h.2 z496).1)))) (fun _ _ z499 => by obtain ⟨z497, z498⟩ := z499; subst z497; subst z498; exact And.intro (Exists.intro _ (Exists.intro _ (And.intro rfl ((h.2 z496).2.1)))) (fun _ _ z502 => by obtain ⟨z500, z501⟩ := z502; subst z500; subst z501; exact And.intro (fun z503 => ((h.2 z496).2.2.1 z503)) (fun z504 => And.intro (Exists.intro _ (Exists.intro _ (And.intro rfl ((h.2 z496).1)))) (fun _ _ z507 => by obtain ⟨z505, z506⟩ := z507; subst z505; subst z506; exact And.intro (Exists.intro _ (Exists.intro _ (And.intro rfl ((h.2 z496).2.1)))) (fun _ _ z510 => by obtain ⟨z508, z509⟩ := z510; subst z508; subst z509; exact And.intro (fun z511 => And.intro (Or.inl rfl) ((((h.2 z496).2.2.2 z504).1 z511))) (fun z512 => And.intro (Or.inr rfl) ((((h.2 z496).2.2.2 z504).2 z512)))))))))
set_option maxHeartbeats 4000000 in
theorem vX0_isAhead (x : Int32) (y : Int32) (q : Nat) (μ : wM) (h : pX0_isAhead x y q μ) (K : wK) (hK : w_cl 0 gX0_isAhead shX rfX 43 (some .boolean) (qX0_isAhead x y q μ) tX0_isAhead K) : K 0 [some (.ref 3), some (.int x), some (.int y), some (.ref q), none] [] μ := by
  unfold pX0_isAhead at h
  obtain ⟨h1, h2, h3, h4⟩ := h
  obtain ⟨X, hX, rfl, hXc⟩ := vp_in_le h3 (by decide)
  obtain ⟨Y, hY, rfl, hYc⟩ := vp_in_le h4 (by decide)
  have loop : ∀ (j i : Nat), i + j = 6 → w_B01 (w_ahead (μ q 1) (μ 20) X Y) = w_B01 (w_lex (μ 20) X Y j) → K 18 [some (.ref 3), some (.int (nI X)), some (.int (nI Y)), some (.ref q), some (.int (nI i))] [] μ := by
    intro j
    induction j with
    | zero =>
      intro i hi he
      refine hK uX0_isAhead 25 _ _ _ _ (vcX0_isAhead_18 K _ (nI X) (nI Y) q (nI i) μ ?_)
      refine ⟨fun _ => ⟨?_, rfl⟩, fun z => absurd (nI_le (a := 6) (by omega) (by omega)) z⟩
      rw [hXc, hYc, he]
      rfl
    | succ j ih =>
      intro i hi he
      refine hK uX0_isAhead 25 _ _ _ _ (vcX0_isAhead_18 K _ (nI X) (nI Y) q (nI i) μ ?_)
      unfold w_lex at he
      rw [show 5 - j = i by omega] at he
      have p1 : vp_in (nI X * 6 + nI i) 60 := by rw [ix6]; exact vp_in_nI (by omega) (by omega)
      have p2 : vp_in (nI Y * 6 + nI i) 60 := by rw [ix6]; exact vp_in_nI (by omega) (by omega)
      refine ⟨fun z => absurd z (nI_ge (b := 6) (by omega) (by omega)), fun _ => ⟨p1, p2, ?_⟩⟩
      rw [ix6, ix6, nI_clamp (by omega), nI_clamp (by omega), nI_1]
      refine ⟨fun c => ?_, fun c => ⟨fun c2 => ⟨?_, rfl⟩, fun c2 => ⟨?_, rfl⟩⟩⟩
      · rw [if_pos c] at he
        exact ih (i + 1) (by omega) he
      · rw [hXc, hYc, he, if_neg c]
        exact w_B01_f (by simp only [decide_eq_true_eq]; exact i_nlt.mpr c2)
      · rw [hXc, hYc, he, if_neg c]
        exact w_B01_t (by simp only [decide_eq_true_eq]; exact i_nle.mp c2)
  refine hK uX0_isAhead 25 _ _ _ _ (vcX0_isAhead_0 K _ (nI X) (nI Y) q μ ?_)
  refine ⟨⟨h1, h2⟩, fun c => ?_, fun c => ?_⟩
  · exact loop 6 0 rfl (by unfold w_ahead; rw [if_pos c])
  · have p1 : vp_in (nI X * 6 + 0) 60 := by rw [Int32.add_zero, ix60]; exact vp_in_nI (by omega) (by omega)
    have p2 : vp_in (nI Y * 6 + 0) 60 := by rw [Int32.add_zero, ix60]; exact vp_in_nI (by omega) (by omega)
    refine ⟨p1, p2, ?_⟩
    rw [Int32.add_zero, Int32.add_zero, ix60, ix60, nI_clamp (by omega), nI_clamp (by omega)]
    unfold qX0_isAhead w_ahead
    rw [hXc, hYc, if_neg c]
    refine ⟨fun c2 => ⟨w_B01_f ?_, rfl⟩, fun c2 => ⟨w_B01_t ?_, rfl⟩⟩
    · simp only [decide_eq_true_eq]; exact i_nlt.mpr c2
    · simp only [decide_eq_true_eq]; exact i_nle.mp c2
set_option maxRecDepth 100000 in
theorem zX0_isAhead (l : Launch) : ∀ (idx : Nat) (S : wS), gX0_isAhead idx = some S → w_Call l 0 idx S 2 shX rfX 43 := by
  intro idx S hS
  unfold gX0_isAhead at hS
  split at hS
  · cases hS
    exact w_callV (ci := 0) (mX0_markOf l) (by decide) rX0_markOf eX0_markOf.1 (by decide +kernel) eX0_markOf.2.1 eX0_markOf.2.2.1 eX0_markOf.2.2.2 (by decide +kernel) (by decide) (by decide)
  · cases hS
theorem mX0_isAhead (l : Launch) : w_Met l yX0_isAhead cX0_isAhead 5 (some .boolean) 2 shX rfX 43 sX0_isAhead.2.2.2.1 sX0_isAhead.2.2.2.2 :=
  w_meth (o := 0) (Γ := gX0_isAhead) (tb := tX0_isAhead) (by decide +kernel) rfl kX0_isAhead rfl (zX0_isAhead l) (fun as μ h => by obtain ⟨x, y, q, rfl, h⟩ := h; exact Nat.le_of_ble_eq_true rfl) (fun as μ h K hK => by obtain ⟨x, y, q, rfl, h⟩ := h; exact vX0_isAhead x y q μ h K hK)
set_option maxRecDepth 100000 in
theorem eX0_isAhead : Cond.code yX0_isAhead cX0_isAhead 5 (some .boolean) ∈ w_tbl ∧ Cond.instanceMethod yX0_isAhead ∈ w_tbl ∧ Cond.selects (w_C 0) yX0_isAhead yX0_isAhead ∈ w_tbl ∧ Cond.initialized yX0_isAhead.cls ∈ w_tbl := ⟨by decide +kernel, by decide +kernel, by decide +kernel, by decide +kernel⟩
theorem rX0_isAhead : ∀ as μ, sX0_isAhead.2.2.2.1 as μ → ∃ q as', as = .ref q :: as' ∧ q < 43 ∧ shX q = .inl 0 := by
  intro as μ h
  obtain ⟨x, y, q, rfl, h⟩ := h
  exact ⟨_, _, rfl, by decide, rfl⟩

/-! X0_howManyAheadOf -/
def pX0_howManyAheadOf (x : Int32) (q : Nat) (μ : wM) : Prop := q < 43 ∧ shX q = .inl 1 ∧ vp_in x 10
def qX0_howManyAheadOf (x : Int32) (q : Nat) (μ : wM) (r : Int32) (μ' : wM) : Prop := r = (nI (w_cnt (fun j => decide (0 < μ 21 j) && w_ahead (μ q 1) (μ 20) j x.toNatClampNeg) 10)) ∧ μ' = μ
def sX0_howManyAheadOf : wS := (false, false, 3, fun as μ => ∃ x, ∃ q, as = [.ref 3, .int x, .ref q] ∧ pX0_howManyAheadOf x q μ, fun as μ r μ' => match as with
  | [.ref _, .int x, .ref q] => qX0_howManyAheadOf x q μ r μ'
  | _ => False)
def gX0_howManyAheadOf : Nat → Option wS := fun k => match k with
  | 100 => some sX0_isAhead
  | _ => none
def uX0_howManyAheadOf : Nat → Option (List Nat) := fun j => match j with | 4 => some [] | _ => none
set_option maxHeartbeats 4000000 in
set_option maxRecDepth 100000 in
theorem vcX0_howManyAheadOf_0 (K : wK) (R : Int32 → wM → Prop) (x : Int32) (q : Nat) (μ : wM) (h : K 4 [some (.ref 3), some (.int x), some (.ref q), some (.int 0), some (.int 0)] [] μ) : w_n 0 gX0_howManyAheadOf shX rfX 43 (some .int) R tX0_howManyAheadOf uX0_howManyAheadOf K 19 0 [some (.ref 3), some (.int x), some (.ref q), none, none] [] μ :=
  h
set_option maxHeartbeats 4000000 in
set_option maxRecDepth 100000 in
theorem vcX0_howManyAheadOf_4 (K : wK) (R : Int32 → wM → Prop) (x : Int32) (q : Nat) (l3 : Int32) (l4 : Int32) (μ : wM) (h : (
    (((10 : Int32) ≤ l4) → R l3 μ) ∧
    (¬ ((10 : Int32) ≤ l4) → (vp_in l4 10) ∧ (
      ((((μ 21 (l4 : Int32).toNatClampNeg) : Int32) ≤ 0) → K 4 [some (.ref 3), some (.int x), some (.ref q), some (.int l3), some (.int (l4 + 1))] [] μ) ∧
      (¬ (((μ 21 (l4 : Int32).toNatClampNeg) : Int32) ≤ 0) → pX0_isAhead l4 x q μ ∧ (
        ((w_ahead (μ q 1) (μ 20) (l4 : Int32).toNatClampNeg (x : Int32).toNatClampNeg) = false → K 4 [some (.ref 3), some (.int x), some (.ref q), some (.int l3), some (.int (l4 + 1))] [] μ) ∧
        ((w_ahead (μ q 1) (μ 20) (l4 : Int32).toNatClampNeg (x : Int32).toNatClampNeg) = true → K 4 [some (.ref 3), some (.int x), some (.ref q), some (.int (l3 + 1)), some (.int (l4 + 1))] [] μ))))))) : w_n 0 gX0_howManyAheadOf shX rfX 43 (some .int) R tX0_howManyAheadOf uX0_howManyAheadOf K 19 4 [some (.ref 3), some (.int x), some (.ref q), some (.int l3), some (.int l4)] [] μ :=
  And.intro (fun z522 => And.intro trivial ((h.1 z522))) (fun z523 => And.intro (And.intro (of_decide_eq_true rfl) rfl) (And.intro (And.intro (of_decide_eq_true rfl) (Exists.intro _ (And.intro rfl ((h.2 z523).1)))) (And.intro (fun z524 => ((h.2 z523).2.1 z524)) (fun z525 => And.intro (Exists.intro _ (Exists.intro _ (Exists.intro _ (And.intro rfl (((h.2 z523).2.2 z525).1))))) (fun _ _ z528 => by obtain ⟨z526, z527⟩ := z528; subst z526; subst z527; exact And.intro (fun z529 => (((h.2 z523).2.2 z525).2.1 (w_B01_0.mp z529))) (fun z530 => (((h.2 z523).2.2 z525).2.2 (w_B01_n.mp z530))))))))
set_option maxHeartbeats 4000000 in
theorem vX0_howManyAheadOf (x : Int32) (q : Nat) (μ : wM) (h : pX0_howManyAheadOf x q μ) (K : wK) (hK : w_cl 0 gX0_howManyAheadOf shX rfX 43 (some .int) (qX0_howManyAheadOf x q μ) tX0_howManyAheadOf K) : K 0 [some (.ref 3), some (.int x), some (.ref q), none, none] [] μ := by
  unfold pX0_howManyAheadOf at h
  obtain ⟨h1, h2, h3⟩ := h
  obtain ⟨X, hX, rfl, hXc⟩ := vp_in_le h3 (by decide)
  have loop : ∀ (k i : Nat), i + k = 10 → K 4 [some (.ref 3), some (.int (nI X)), some (.ref q), some (.int (nI (w_cnt (fun j => decide (0 < μ 21 j) && w_ahead (μ q 1) (μ 20) j X) i))), some (.int (nI i))] [] μ := by
    intro k
    induction k with
    | zero =>
      intro i hi
      refine hK uX0_howManyAheadOf 19 _ _ _ _ (vcX0_howManyAheadOf_4 K _ (nI X) q (nI (w_cnt (fun j => decide (0 < μ 21 j) && w_ahead (μ q 1) (μ 20) j X) i)) (nI i) μ ?_)
      refine ⟨fun _ => ⟨?_, rfl⟩, fun z => absurd (nI_le (a := 10) (by omega) (by omega)) z⟩
      rw [hXc, show i = 10 by omega]
    | succ k ih =>
      intro i hi
      refine hK uX0_howManyAheadOf 19 _ _ _ _ (vcX0_howManyAheadOf_4 K _ (nI X) q (nI (w_cnt (fun j => decide (0 < μ 21 j) && w_ahead (μ q 1) (μ 20) j X) i)) (nI i) μ ?_)
      have z := ih (i + 1) (by omega)
      unfold w_cnt at z
      rw [nI_clamp (by omega), hXc, nI_1 i]
      refine ⟨fun z => absurd z (nI_ge (b := 10) (by omega) (by omega)), fun _ => ⟨vp_in_nI (by omega) (by omega), fun c => ?_, fun c => ⟨⟨h1, h2, vp_in_nI (by omega) (by omega), h3⟩, fun c2 => ?_, fun c2 => ?_⟩⟩⟩
      · rw [if_neg (by simp only [Bool.and_eq_true, decide_eq_true_eq]; exact fun q => i_nlt.mpr c q.1)] at z
        exact z
      · rw [if_neg (by rw [c2]; simp)] at z
        exact z
      · rw [if_pos (by simp only [Bool.and_eq_true, decide_eq_true_eq]; exact ⟨i_nle.mp c, c2⟩), ← nI_1] at z
        exact z
  refine hK uX0_howManyAheadOf 19 _ _ _ _ (vcX0_howManyAheadOf_0 K _ (nI X) q μ ?_)
  exact loop 10 0 rfl
set_option maxRecDepth 100000 in
theorem zX0_howManyAheadOf (l : Launch) : ∀ (idx : Nat) (S : wS), gX0_howManyAheadOf idx = some S → w_Call l 0 idx S 3 shX rfX 43 := by
  intro idx S hS
  unfold gX0_howManyAheadOf at hS
  split at hS
  · cases hS
    exact w_callV (ci := 0) (mX0_isAhead l) (by decide) rX0_isAhead eX0_isAhead.1 (by decide +kernel) eX0_isAhead.2.1 eX0_isAhead.2.2.1 eX0_isAhead.2.2.2 (by decide +kernel) (by decide) (by decide)
  · cases hS
theorem mX0_howManyAheadOf (l : Launch) : w_Met l yX0_howManyAheadOf cX0_howManyAheadOf 5 (some .int) 3 shX rfX 43 sX0_howManyAheadOf.2.2.2.1 sX0_howManyAheadOf.2.2.2.2 :=
  w_meth (o := 0) (Γ := gX0_howManyAheadOf) (tb := tX0_howManyAheadOf) (by decide +kernel) rfl kX0_howManyAheadOf rfl (zX0_howManyAheadOf l) (fun as μ h => by obtain ⟨x, q, rfl, h⟩ := h; exact Nat.le_of_ble_eq_true rfl) (fun as μ h K hK => by obtain ⟨x, q, rfl, h⟩ := h; exact vX0_howManyAheadOf x q μ h K hK)
set_option maxRecDepth 100000 in
theorem eX0_howManyAheadOf : Cond.code yX0_howManyAheadOf cX0_howManyAheadOf 5 (some .int) ∈ w_tbl ∧ Cond.instanceMethod yX0_howManyAheadOf ∈ w_tbl ∧ Cond.selects (w_C 0) yX0_howManyAheadOf yX0_howManyAheadOf ∈ w_tbl ∧ Cond.initialized yX0_howManyAheadOf.cls ∈ w_tbl := ⟨by decide +kernel, by decide +kernel, by decide +kernel, by decide +kernel⟩
theorem rX0_howManyAheadOf : ∀ as μ, sX0_howManyAheadOf.2.2.2.1 as μ → ∃ q as', as = .ref q :: as' ∧ q < 43 ∧ shX q = .inl 0 := by
  intro as μ h
  obtain ⟨x, q, rfl, h⟩ := h
  exact ⟨_, _, rfl, by decide, rfl⟩

/-! X0_rank -/
def pX0_rank (q : Nat) (μ : wM) : Prop := q < 43 ∧ shX q = .inl 1 ∧ ¬ q = 19
def qX0_rank (q : Nat) (μ : wM) (r : Int32) (μ' : wM) : Prop := μ' = w_row μ 19 (fun j => if j < 10 then w_plc (μ q 1) (μ q 6) (μ 20) (μ 21) j else μ 19 j)
def sX0_rank : wS := (false, true, 2, fun as μ => ∃ q, as = [.ref 3, .ref q] ∧ pX0_rank q μ, fun as μ r μ' => match as with
  | [.ref _, .ref q] => qX0_rank q μ r μ'
  | _ => False)
def gX0_rank : Nat → Option wS := fun k => match k with
  | 96 => some sX0_howManyAheadOf
  | _ => none
def uX0_rank : Nat → Option (List Nat) := fun j => match j with | 2 => some [] | _ => none
set_option maxHeartbeats 4000000 in
set_option maxRecDepth 100000 in
theorem vcX0_rank_0 (K : wK) (R : Int32 → wM → Prop) (q : Nat) (μ : wM) (h : K 2 [some (.ref 3), some (.ref q), some (.int 0)] [] μ) : w_n 0 gX0_rank shX rfX 43 none R tX0_rank uX0_rank K 25 0 [some (.ref 3), some (.ref q), none] [] μ :=
  h
set_option maxHeartbeats 4000000 in
set_option maxRecDepth 100000 in
theorem vcX0_rank_2 (K : wK) (R : Int32 → wM → Prop) (q : Nat) (l2 : Int32) (μ : wM) (h : (
    (((10 : Int32) ≤ l2) → R 0 μ) ∧
    (¬ ((10 : Int32) ≤ l2) → (q < 43 ∧ shX q = .inl 1) ∧ (
      ((((μ q 6) : Int32) = 0) → (vp_in l2 10) ∧ (
        ((((μ 21 (l2 : Int32).toNatClampNeg) : Int32) = 0) → K 2 [some (.ref 3), some (.ref q), some (.int (l2 + 1))] [] (w_up μ 19 (l2 : Int32).toNatClampNeg 0)) ∧
        (¬ (((μ 21 (l2 : Int32).toNatClampNeg) : Int32) = 0) → pX0_howManyAheadOf l2 q μ ∧ (∀ (m3 : wM), m3 = (w_up μ 19 (l2 : Int32).toNatClampNeg (1 + (nI (w_cnt (fun j => decide (0 < μ 21 j) && w_ahead (μ q 1) (μ 20) j (l2 : Int32).toNatClampNeg) 10)))) → K 2 [some (.ref 3), some (.ref q), some (.int (l2 + 1))] [] m3)))) ∧
      (¬ (((μ q 6) : Int32) = 0) → (vp_in l2 10) ∧ K 2 [some (.ref 3), some (.ref q), some (.int (l2 + 1))] [] (w_up μ 19 (l2 : Int32).toNatClampNeg 0)))))) : w_n 0 gX0_rank shX rfX 43 none R tX0_rank uX0_rank K 25 2 [some (.ref 3), some (.ref q), some (.int l2)] [] μ :=
  And.intro (fun z540 => (h.1 z540)) (fun z541 => And.intro (And.intro (of_decide_eq_true rfl) rfl) (And.intro ((h.2 z541).1) (And.intro (fun z542 => And.intro (And.intro (of_decide_eq_true rfl) rfl) (And.intro (And.intro (of_decide_eq_true rfl) (Exists.intro _ (And.intro rfl (((h.2 z541).2.1 z542).1)))) (And.intro (fun z544 => And.intro (And.intro (of_decide_eq_true rfl) (Exists.intro _ (And.intro rfl (((h.2 z541).2.1 z542).1)))) ((((h.2 z541).2.1 z542).2.1 z544))) (fun z545 => And.intro (Exists.intro _ (Exists.intro _ (And.intro rfl ((((h.2 z541).2.1 z542).2.2 z545).1)))) (fun _ _ z548 => by obtain ⟨z546, z547⟩ := z548; subst z546; subst z547; exact And.intro (And.intro (of_decide_eq_true rfl) (Exists.intro _ (And.intro rfl (((h.2 z541).2.1 z542).1)))) (((((h.2 z541).2.1 z542).2.2 z545).2 _ rfl))))))) (fun z543 => And.intro (And.intro (of_decide_eq_true rfl) (Exists.intro _ (And.intro rfl (((h.2 z541).2.2 z543).1)))) (((h.2 z541).2.2 z543).2)))))
set_option maxHeartbeats 4000000 in
theorem vX0_rank (q : Nat) (μ : wM) (h : pX0_rank q μ) (K : wK) (hK : w_cl 0 gX0_rank shX rfX 43 none (qX0_rank q μ) tX0_rank K) : K 0 [some (.ref 3), some (.ref q), none] [] μ := by
  unfold pX0_rank at h
  obtain ⟨h1, h2, h3⟩ := h
  have loop : ∀ (k i : Nat), i + k = 10 → K 2 [some (.ref 3), some (.ref q), some (.int (nI i))] [] (w_row μ 19 (fun j => if j < i then w_plc (μ q 1) (μ q 6) (μ 20) (μ 21) j else μ 19 j)) := by
    intro k
    induction k with
    | zero =>
      intro i hi
      refine hK uX0_rank 25 _ _ _ _ (vcX0_rank_2 K _ q (nI i) (w_row μ 19 (fun j => if j < i then w_plc (μ q 1) (μ q 6) (μ 20) (μ 21) j else μ 19 j)) ?_)
      refine ⟨fun _ => ?_, fun z => absurd (nI_le (a := 10) (by omega) (by omega)) z⟩
      rw [show i = 10 by omega]
      rfl
    | succ k ih =>
      intro i hi
      refine hK uX0_rank 25 _ _ _ _ (vcX0_rank_2 K _ q (nI i) (w_row μ 19 (fun j => if j < i then w_plc (μ q 1) (μ q 6) (μ 20) (μ 21) j else μ 19 j)) ?_)
      have z := ih (i + 1) (by omega)
      have hrow : ∀ v, v = w_plc (μ q 1) (μ q 6) (μ 20) (μ 21) i → upd (fun j => if j < i then w_plc (μ q 1) (μ q 6) (μ 20) (μ 21) j else μ 19 j) i v = fun j => if j < i + 1 then w_plc (μ q 1) (μ q 6) (μ 20) (μ 21) j else μ 19 j := by
        intro v hv
        funext j
        unfold upd
        by_cases e : j = i
        · rw [if_pos e, if_pos (by omega), hv, e]
        · rw [if_neg e]
          show (if j < i then w_plc (μ q 1) (μ q 6) (μ 20) (μ 21) j else μ 19 j) = _
          by_cases e2 : j < i
          · rw [if_pos e2, if_pos (by omega)]
          · rw [if_neg e2, if_neg (by omega)]
      rw [nI_clamp (by omega), nI_1 i, w_row_ne _ _ h3, w_row_ne _ _ (show 20 ≠ 19 by decide), w_row_ne _ _ (show 21 ≠ 19 by decide), w_row_up, w_row_up]
      refine ⟨fun z => absurd z (nI_ge (b := 10) (by omega) (by omega)), fun _ => ⟨⟨h1, h2⟩, fun c => ⟨vp_in_nI (by omega) (by omega), fun c2 => ?_, fun c2 => ⟨⟨h1, h2, vp_in_nI (by omega) (by omega)⟩, fun m hm => ?_⟩⟩, fun c => ⟨vp_in_nI (by omega) (by omega), ?_⟩⟩⟩
      · rw [hrow 0 (by unfold w_plc; rw [if_pos (Or.inr c2)])]
        exact z
      · rw [hm, hrow _ (by unfold w_plc; rw [if_neg (by rintro (w | w); exact w c; exact c2 w)])]
        exact z
      · rw [hrow 0 (by unfold w_plc; rw [if_pos (Or.inl c)])]
        exact z
  refine hK uX0_rank 25 _ _ _ _ (vcX0_rank_0 K _ q μ ?_)
  have z := loop 10 0 rfl
  rw [show (fun j => if j < 0 then w_plc (μ q 1) (μ q 6) (μ 20) (μ 21) j else μ 19 j) = μ 19 from by funext j; rw [if_neg (by omega)], w_row_self] at z
  exact z
set_option maxRecDepth 100000 in
theorem zX0_rank (l : Launch) : ∀ (idx : Nat) (S : wS), gX0_rank idx = some S → w_Call l 0 idx S 4 shX rfX 43 := by
  intro idx S hS
  unfold gX0_rank at hS
  split at hS
  · cases hS
    exact w_callV (ci := 0) (mX0_howManyAheadOf l) (by decide) rX0_howManyAheadOf eX0_howManyAheadOf.1 (by decide +kernel) eX0_howManyAheadOf.2.1 eX0_howManyAheadOf.2.2.1 eX0_howManyAheadOf.2.2.2 (by decide +kernel) (by decide) (by decide)
  · cases hS
theorem mX0_rank (l : Launch) : w_Met l yX0_rank cX0_rank 3 none 4 shX rfX 43 sX0_rank.2.2.2.1 sX0_rank.2.2.2.2 :=
  w_meth (o := 0) (Γ := gX0_rank) (tb := tX0_rank) (by decide +kernel) rfl kX0_rank rfl (zX0_rank l) (fun as μ h => by obtain ⟨q, rfl, h⟩ := h; exact Nat.le_of_ble_eq_true rfl) (fun as μ h K hK => by obtain ⟨q, rfl, h⟩ := h; exact vX0_rank q μ h K hK)
set_option maxRecDepth 100000 in
theorem eX0_rank : Cond.code yX0_rank cX0_rank 3 none ∈ w_tbl ∧ Cond.instanceMethod yX0_rank ∈ w_tbl ∧ Cond.selects (w_C 0) yX0_rank yX0_rank ∈ w_tbl ∧ Cond.initialized yX0_rank.cls ∈ w_tbl := ⟨by decide +kernel, by decide +kernel, by decide +kernel, by decide +kernel⟩
theorem rX0_rank : ∀ as μ, sX0_rank.2.2.2.1 as μ → ∃ q as', as = .ref q :: as' ∧ q < 43 ∧ shX q = .inl 0 := by
  intro as μ h
  obtain ⟨q, rfl, h⟩ := h
  exact ⟨_, _, rfl, by decide, rfl⟩
end
section
def w_jf (f : Nat → Int32) (a b : Nat) : Nat → Nat := w_cnt (fun j => decide (f (3 * a + j) < f (3 * b + j)))
def w_allB (p : Nat → Bool) : Nat → Bool
  | 0 => true
  | k + 1 => w_allB p k && p k
theorem w_allB_t {p : Nat → Bool} {k : Nat} : w_allB p k = true ↔ ∀ j, j < k → p j = true := by
  induction k with
  | zero => exact ⟨fun _ j hj => absurd hj (Nat.not_lt_zero _), fun _ => rfl⟩
  | succ k ih =>
    unfold w_allB
    rw [Bool.and_eq_true, ih]
    constructor
    · intro h j hj
      by_cases e : j = k
      · rw [e]; exact h.2
      · exact h.1 j (by omega)
    · intro h
      exact ⟨fun j hj => h j (by omega), h k (by omega)⟩
def w_bts (pl jd : Nat → Int32) (x : Nat) : Bool := w_allB (fun o => decide (o = x) || (!(decide (0 < pl o)) || decide (2 ≤ w_jf jd x o 3))) 10
def w_find (p : Nat → Bool) : Nat → Nat → Int32
  | 0, _ => -2
  | k + 1, i => if p i then nI i else w_find p k (i + 1)
def w_tks (hit : Nat → Bool) (stp : Nat → wB → wB) : Nat → wB → wB
  | 0, t => t
  | i + 1, t => w_tks hit stp i (if hit i then stp i t else t)
def w_c0 : wB := (fun j => if j < 60 then -1 else 0, fun _ => 0, fun _ => 0)
def w_rb (k g sl way num : Int32) (E M A B Y : Nat → Int32) (N : Nat) : wB :=
  if k = 2 then w_join (w_tks (fun i => decide (E i = num)) (fun i t => w_take k g sl way (M i).toNatClampNeg (A i) (B i) (Y i) t) N w_c0) 10
  else w_tks (fun i => decide (E i = num)) (fun i t => w_take k g sl way (M i).toNatClampNeg (A i) (B i) (Y i) t) N w_c0
def w_TT (μ : wM) (q N : Nat) : wB := w_rb (μ q 1) (μ q 7) (μ q 8) (μ q 9) (μ q 0) (μ 14) (μ 15) (μ 16) (μ 17) (μ 18) N
def w_pl (μ : wM) (q N m : Nat) : Int32 := w_plc (μ q 1) (μ q 6) (w_TT μ q N).1 (w_TT μ q N).2.1 m
def w_aft (μ : wM) (q N : Nat) : wM := w_row (w_Tb μ (w_TT μ q N)) 19 (fun j => if j < 10 then w_pl μ q N j else μ 19 j)
/-- behind the rows' ends -/
def w_Zt (t : wB) : Prop := (∀ j, 60 ≤ j → t.1 j = 0) ∧ (∀ j, 10 ≤ j → t.2.1 j = 0) ∧ (∀ j, 30 ≤ j → t.2.2 j = 0)
def w_Z (μ : wM) : Prop := w_Zt (μ 20, μ 21, μ 22)
def w_LV (μ : wM) (q : Nat) : Prop := ∀ i, i < (μ 2 5).toNatClampNeg → μ 14 i = μ q 0 → vp_in (μ 15 i) 10 ∧ (μ q 1 = 2 → vp_in (μ 16 i) 3)
def w_sc (μ μ' : wM) : Prop := ∀ a, (a < 19 ∨ 23 < a) → μ' a = μ a
theorem w_sc.TT {μ μ' : wM} (h : w_sc μ μ') {q : Nat} (hq : 26 < q) (N : Nat) : w_TT μ' q N = w_TT μ q N := by
  unfold w_TT
  rw [h q (Or.inr (by omega)), h 14 (Or.inl (by decide)), h 15 (Or.inl (by decide)), h 16 (Or.inl (by decide)), h 17 (Or.inl (by decide)), h 18 (Or.inl (by decide))]
theorem w_sc.pl {μ μ' : wM} (h : w_sc μ μ') {q : Nat} (hq : 26 < q) (N m : Nat) : w_pl μ' q N m = w_pl μ q N m := by
  unfold w_pl
  rw [h.TT hq, h q (Or.inr (by omega))]
theorem w_sc.trans {μ μ' μ'' : wM} (h : w_sc μ μ') (h2 : w_sc μ' μ'') : w_sc μ μ'' := fun a ha => (h2 a ha).trans (h a ha)
theorem w_sc.refl (μ : wM) : w_sc μ μ := fun _ _ => rfl
theorem w_aft_sc (μ : wM) (q N : Nat) : w_sc μ (w_aft μ q N) := by
  intro a ha
  unfold w_aft
  rw [w_row_ne _ _ (by omega), w_Tb_ne _ _ (by omega) (by omega) (by omega)]
theorem w_sc.LV {μ μ' : wM} (h : w_sc μ μ') {q : Nat} (hq : 26 < q) (hv : w_LV μ q) : w_LV μ' q := by
  unfold w_LV
  rw [h q (Or.inr (by omega)), h 14 (Or.inl (by decide)), h 15 (Or.inl (by decide)), h 16 (Or.inl (by decide)), h 2 (Or.inl (by decide))]
  exact hv
theorem upd_out {f : Nat → Int32} {k : Nat} {x : Int32} {j : Nat} (h : j ≠ k) : upd f k x j = f j := by simp [upd, h]
theorem upd_in {f : Nat → Int32} {k : Nat} {x : Int32} : upd f k x k = x := by simp [upd]
theorem w_ins_out {v : Int32} {off : Nat} : ∀ (c : Nat) (f : Nat → Int32) (j : Nat), (j < off ∨ off + c < j) → w_ins f off v c j = f j := by
  intro c
  induction c with
  | zero => intro f j h; rw [w_ins, upd_out (by omega)]
  | succ c ih =>
    intro f j h
    rw [w_ins]
    split
    · rw [ih _ _ (by omega), upd_out (by omega)]
    · rw [upd_out (by omega)]
/-- what stays so while entries are taken: zeros behind the ends, tries counted to six -/
def w_Zc (k : Int32) (t : wB) : Prop := w_Zt t ∧ (k = 0 → ∀ m, vp_in (t.2.1 m) 7)
theorem w_take_Z {k g sl way : Int32} {m : Nat} {a b y : Int32} {t : wB} (hm : m < 10) (ha : k = 2 → a.toNatClampNeg < 3) (h : w_Zc k t) : w_Zc k (w_take k g sl way m a b y t) := by
  unfold w_take
  by_cases k2 : k = 2
  · rw [if_pos k2]
    refine ⟨⟨h.1.1, h.1.2.1, fun j hj => ?_⟩, h.2⟩
    dsimp only
    have := ha k2
    split
    · rw [upd_out (by omega)]; exact h.1.2.2 j hj
    · exact h.1.2.2 j hj
  · rw [if_neg k2]
    by_cases k0 : k = 0
    · rw [if_pos k0]
      split
      · exact h
      · next hc =>
        obtain ⟨C, hC, hCn, hCc⟩ := vp_in_le (h.2 k0 m) (by decide)
        have hC6 : C < 6 := by
          rcases Nat.lt_or_ge C 6 with z | z
          · exact z
          · rw [hCn] at hc; exact absurd (nI_le (a := 6) z (by omega)) hc
        refine ⟨⟨fun j hj => ?_, fun j hj => ?_, h.1.2.2⟩, fun _ j => ?_⟩
        · dsimp only
          rw [hCc, w_ins_out C _ j (Or.inr (by omega))]
          exact h.1.1 j hj
        · dsimp only
          rw [upd_out (by omega)]
          exact h.1.2.1 j hj
        · dsimp only
          by_cases e : j = m
          · rw [e, upd_in, hCn, nI_1]
            exact vp_in_nI (by omega) (by omega)
          · rw [upd_out e]
            exact h.2 k0 j
    · rw [if_neg k0]
      by_cases k1 : k = 1
      · rw [if_pos k1]
        split
        · refine ⟨⟨fun j hj => ?_, fun j hj => ?_, h.1.2.2⟩, fun z => absurd z k0⟩
          · dsimp only
            rw [upd_out (by omega)]
            exact h.1.1 j hj
          · dsimp only
            rw [upd_out (by omega)]
            exact h.1.2.1 j hj
        · exact h
      · rw [if_neg k1]
        exact h
theorem w_join_Z {t : wB} (h : w_Zt t) : ∀ m, m ≤ 10 → w_Zt (w_join t m) := by
  intro m
  induction m with
  | zero => intro _; exact h
  | succ m ih =>
    intro hm
    have := ih (by omega)
    unfold w_join
    dsimp only
    split
    · refine ⟨fun j hj => ?_, fun j hj => ?_, this.2.2⟩
      · dsimp only
        rw [upd_out (by omega)]
        exact this.1 j hj
      · dsimp only
        rw [upd_out (by omega)]
        exact this.2.1 j hj
    · exact this
/-! X0_read -/
def pX0_read (q : Nat) (n : Int32) (μ : wM) : Prop := q < 43 ∧ shX q = .inl 1 ∧ 26 < q ∧ vp_in (μ 2 5) 161 ∧ 0 ≤ n ∧ n ≤ μ 2 5 ∧ w_LV μ q ∧ w_Z μ
def qX0_read (q : Nat) (n : Int32) (μ : wM) (r : Int32) (μ' : wM) : Prop := μ' = w_aft μ q n.toNatClampNeg ∧ w_Z μ'
def sX0_read : wS := (false, true, 4, fun as μ => ∃ q, ∃ n, as = [.ref 3, .ref 2, .ref q, .int n] ∧ pX0_read q n μ, fun as μ r μ' => match as with
  | [.ref _, .ref _, .ref q, .int n] => qX0_read q n μ r μ'
  | _ => False)
def gX0_read : Nat → Option wS := fun k => match k with
  | 27 => some sJ7_fill_53178
  | 39 => some sJ9_min_7cf53
  | 53 => some sX0_take
  | 60 => some sX0_joinJudges
  | 63 => some sX0_rank
  | _ => none
def uX0_read : Nat → Option (List Nat) := fun j => match j with | 19 => some [] | _ => none
set_option maxHeartbeats 4000000 in
set_option maxRecDepth 100000 in
theorem vcX0_read_0 (K : wK) (R : Int32 → wM → Prop) (q : Nat) (n : Int32) (μ : wM) (h : pJ7_fill_53178 20 (-1) μ ∧ (∀ (r1 : Int32) (m2 : wM), qJ7_fill_53178 20 (-1) μ r1 m2 →
    pJ7_fill_53178 21 0 m2 ∧ (∀ (r3 : Int32) (m4 : wM), qJ7_fill_53178 21 0 m2 r3 m4 →
      pJ7_fill_53178 22 0 m4 ∧ (∀ (r5 : Int32) (m6 : wM), qJ7_fill_53178 22 0 m4 r5 m6 →
        K 19 [some (.ref 3), some (.ref 2), some (.ref q), some (.int n), some (.int ((w_mn n (m6 2 5)) - 1))] [] m6)))) : w_n 0 gX0_read shX rfX 43 none R tX0_read uX0_read K 21 0 [some (.ref 3), some (.ref 2), some (.ref q), some (.int n), none] [] μ :=
  And.intro (And.intro (of_decide_eq_true rfl) rfl) (And.intro (Exists.intro _ (Exists.intro _ (And.intro rfl (h.1)))) (fun r1 m2 z565 => And.intro (And.intro (of_decide_eq_true rfl) rfl) (And.intro (Exists.intro _ (Exists.intro _ (And.intro rfl ((h.2 r1 m2 z565).1)))) (fun r3 m4 z566 => And.intro (And.intro (of_decide_eq_true rfl) rfl) (And.intro (Exists.intro _ (Exists.intro _ (And.intro rfl (((h.2 r1 m2 z565).2 r3 m4 z566).1)))) (fun r5 m6 z567 => And.intro (And.intro (of_decide_eq_true rfl) rfl) (And.intro (Exists.intro _ (Exists.intro _ (And.intro rfl (trivial)))) (fun _ _ z570 => by obtain ⟨z568, z569⟩ := z570; have z568 := z568.symm; have z569 := z569.symm; subst z568; subst z569; exact (((h.2 r1 m2 z565).2 r3 m4 z566).2 r5 m6 z567)))))))))
set_option maxHeartbeats 4000000 in
set_option maxRecDepth 100000 in
theorem vcX0_read_19 (K : wK) (R : Int32 → wM → Prop) (q : Nat) (n : Int32) (l4 : Int32) (μ : wM) (h : (
    (((l4 : Int32) < 0) → (q < 43 ∧ shX q = .inl 1) ∧ (
      ((((μ q 1) : Int32) = 2) → (∀ (r1 : Int32) (m2 : wM), qX0_joinJudges  μ r1 m2 →
        pX0_rank q m2 ∧ (∀ (r3 : Int32) (m4 : wM), qX0_rank q m2 r3 m4 →
          R 0 m4))) ∧
      (¬ (((μ q 1) : Int32) = 2) → pX0_rank q μ ∧ (∀ (r5 : Int32) (m6 : wM), qX0_rank q μ r5 m6 →
        R 0 m6)))) ∧
    (¬ ((l4 : Int32) < 0) → (vp_in l4 160) ∧ (q < 43 ∧ shX q = .inl 1) ∧ (
      ((((μ 14 (l4 : Int32).toNatClampNeg) : Int32) = (μ q 0)) → pX0_take q l4 μ ∧ (∀ (r7 : Int32) (m8 : wM), qX0_take q l4 μ r7 m8 →
        K 19 [some (.ref 3), some (.ref 2), some (.ref q), some (.int n), some (.int (l4 + (-1)))] [] m8)) ∧
      (¬ (((μ 14 (l4 : Int32).toNatClampNeg) : Int32) = (μ q 0)) → K 19 [some (.ref 3), some (.ref 2), some (.ref q), some (.int n), some (.int (l4 + (-1)))] [] μ))))) : w_n 0 gX0_read shX rfX 43 none R tX0_read uX0_read K 21 19 [some (.ref 3), some (.ref 2), some (.ref q), some (.int n), some (.int l4)] [] μ :=
  And.intro (fun z571 => And.intro ((h.1 z571).1) (And.intro (fun z573 => And.intro (And.intro rfl (trivial)) (fun r1 m2 z575 => And.intro (Exists.intro _ (And.intro rfl ((((h.1 z571).2.1 z573) r1 m2 z575).1))) (fun r3 m4 z576 => ((((h.1 z571).2.1 z573) r1 m2 z575).2 r3 m4 z576)))) (fun z574 => And.intro (Exists.intro _ (And.intro rfl (((h.1 z571).2.2 z574).1))) (fun r5 m6 z577 => (((h.1 z571).2.2 z574).2 r5 m6 z577))))) (fun z572 => And.intro (And.intro (of_decide_eq_true rfl) rfl) (And.intro (And.intro (of_decide_eq_true rfl) (Exists.intro _ (And.intro rfl ((h.2 z572).1)))) (And.intro ((h.2 z572).2.1) (And.intro (fun z578 => And.intro (Exists.intro _ (Exists.intro _ (And.intro rfl (((h.2 z572).2.2.1 z578).1)))) (fun r7 m8 z580 => (((h.2 z572).2.2.1 z578).2 r7 m8 z580))) (fun z579 => ((h.2 z572).2.2.2 z579))))))
set_option maxHeartbeats 4000000 in
theorem vX0_read (q : Nat) (n : Int32) (μ : wM) (h : pX0_read q n μ) (K : wK) (hK : w_cl 0 gX0_read shX rfX 43 none (qX0_read q n μ) tX0_read K) : K 0 [some (.ref 3), some (.ref 2), some (.ref q), some (.int n), none] [] μ := by
  unfold pX0_read at h
  obtain ⟨h1, h2, h3, h4, h5, h6, h7, h8⟩ := h
  obtain ⟨C, hC, hCn, hCc⟩ := vp_in_le h4 (by decide)
  rw [hCn] at h6
  have hnC : n.toNatClampNeg ≤ C := (cl_le (by omega)).mp h6
  obtain ⟨N, hN0, hN⟩ : ∃ N : Nat, N < 2 ^ 31 ∧ n = nI N := nI_of (i_nlt.mpr h5)
  have hNc : n.toNatClampNeg = N := by rw [hN]; exact nI_clamp hN0
  rw [hNc] at hnC
  have fin : ∀ t : wB, w_Zt t → (t = (if μ q 1 = 2 then w_join (w_tks (fun i => decide (μ 14 i = μ q 0)) (fun i t => w_take (μ q 1) (μ q 7) (μ q 8) (μ q 9) (μ 15 i).toNatClampNeg (μ 16 i) (μ 17 i) (μ 18 i) t) N w_c0) 10 else w_tks (fun i => decide (μ 14 i = μ q 0)) (fun i t => w_take (μ q 1) (μ q 7) (μ q 8) (μ q 9) (μ 15 i).toNatClampNeg (μ 16 i) (μ 17 i) (μ 18 i) t) N w_c0)) → qX0_read q n μ 0 (w_row (w_Tb μ t) 19 (fun j => if j < 10 then w_plc (w_Tb μ t q 1) (w_Tb μ t q 6) (w_Tb μ t 20) (w_Tb μ t 21) j else w_Tb μ t 19 j)) := by
    intro t hz ht
    have e : t = w_TT μ q N := ht
    rw [w_Tb_ne _ _ (a := q) (by omega) (by omega) (by omega), w_Tb_ne μ t (a := 19) (by decide) (by decide) (by decide), w_Tb_20, w_Tb_21]
    refine ⟨?_, ?_⟩
    · rw [hNc]
      unfold w_aft w_pl
      rw [← e]
    · unfold w_Z
      rw [w_row_ne _ _ (by decide), w_row_ne _ _ (by decide), w_row_ne _ _ (by decide), w_Tb_20, w_Tb_21, w_Tb_22]
      exact hz
  have loop : ∀ (i : Nat) (t : wB), i ≤ N → w_Zc (μ q 1) t → w_tks (fun i => decide (μ 14 i = μ q 0)) (fun i t => w_take (μ q 1) (μ q 7) (μ q 8) (μ q 9) (μ 15 i).toNatClampNeg (μ 16 i) (μ 17 i) (μ 18 i) t) i t = w_tks (fun i => decide (μ 14 i = μ q 0)) (fun i t => w_take (μ q 1) (μ q 7) (μ q 8) (μ q 9) (μ 15 i).toNatClampNeg (μ 16 i) (μ 17 i) (μ 18 i) t) N w_c0 → K 19 [some (.ref 3), some (.ref 2), some (.ref q), some (.int n), some (.int (nI i - 1))] [] (w_Tb μ t) := by
    intro i
    induction i with
    | zero =>
      intro t hi hz he
      refine hK uX0_read 21 _ _ _ _ (vcX0_read_19 K _ q n (nI 0 - 1) (w_Tb μ t) ?_)
      refine ⟨fun _ => ⟨⟨h1, h2⟩, fun c => fun r1 m2 hm2 => ⟨⟨h1, h2, by omega⟩, fun r3 m4 hm4 => ?_⟩, fun c => ⟨⟨h1, h2, by omega⟩, fun r3 m4 hm4 => ?_⟩⟩, fun z => absurd (by decide) z⟩
      · rw [w_Tb_ne _ _ (a := q) (by omega) (by omega) (by omega)] at c
        unfold qX0_joinJudges at hm2
        rw [w_Tb_20, w_Tb_21, w_Tb_22, w_Tb_Tb] at hm2
        unfold qX0_rank at hm4
        rw [hm4, hm2]
        refine fin _ (w_join_Z hz.1 10 (Nat.le_refl _)) ?_
        rw [if_pos c, ← he]
        rfl
      · rw [w_Tb_ne _ _ (a := q) (by omega) (by omega) (by omega)] at c
        unfold qX0_rank at hm4
        rw [hm4]
        refine fin _ hz.1 ?_
        rw [if_neg c, ← he]
        rfl
    | succ i ih =>
      intro t hi hz he
      rw [nI_pred]
      refine hK uX0_read 21 _ _ _ _ (vcX0_read_19 K _ q n (nI i) (w_Tb μ t) ?_)
      rw [w_tks] at he
      rw [nI_clamp (by omega), w_Tb_ne _ _ (a := q) (by omega) (by omega) (by omega), w_Tb_ne _ _ (a := 14) (by decide) (by decide) (by decide), show nI i + (-1) = nI i - 1 from (Int32.sub_eq_add_neg _ _).symm]
      refine ⟨fun z => absurd z (nI_pos (by omega)), fun _ => ⟨vp_in_nI (by omega) (by omega), ⟨h1, h2⟩, fun c => ?_, fun c => ?_⟩⟩
      · obtain ⟨v1, v2⟩ := h7 i (by rw [hCc]; omega) c
        rw [if_pos (by simp [c])] at he
        refine ⟨?_, fun r m hm => ?_⟩
        · unfold pX0_take
          rw [nI_clamp (by omega), w_Tb_ne _ _ (a := q) (by omega) (by omega) (by omega), w_Tb_ne _ _ (a := 15) (by decide) (by decide) (by decide), w_Tb_ne _ _ (a := 16) (by decide) (by decide) (by decide), w_Tb_21]
          exact ⟨h1, h2, vp_in_nI (by omega) (by omega), v1, v2, fun k0 => hz.2 k0 _⟩
        · unfold qX0_take at hm
          rw [nI_clamp (by omega), w_Tb_ne _ _ (a := q) (by omega) (by omega) (by omega), w_Tb_ne _ _ (a := 15) (by decide) (by decide) (by decide), w_Tb_ne _ _ (a := 16) (by decide) (by decide) (by decide), w_Tb_ne _ _ (a := 17) (by decide) (by decide) (by decide), w_Tb_ne _ _ (a := 18) (by decide) (by decide) (by decide), w_Tb_20, w_Tb_21, w_Tb_22, w_Tb_Tb] at hm
          rw [hm]
          exact ih _ (by omega) (w_take_Z (vp_in_lt v1) (fun k2 => vp_in_lt (v2 k2)) hz) he
      · rw [if_neg (by simp [c])] at he
        exact ih t (by omega) hz he
  refine hK uX0_read 21 _ _ _ _ (vcX0_read_0 K _ q n μ ?_)
  have a20 : w_al shX 20 = 60 := rfl
  have a21 : w_al shX 21 = 10 := rfl
  have a22 : w_al shX 22 = 30 := rfl
  refine ⟨⟨by decide, rfl, by decide⟩, fun r1 m2 hm2 => ⟨⟨by decide, rfl, by decide⟩, fun r3 m4 hm4 => ⟨⟨by decide, rfl, by decide⟩, fun r5 m6 hm6 => ?_⟩⟩⟩
  have e6 : m6 = w_Tb μ w_c0 := by
    unfold qJ7_fill_53178 at hm2 hm4 hm6
    rw [a20] at hm2
    rw [a21] at hm4
    rw [a22] at hm6
    obtain ⟨z1, z2, z3⟩ := h8
    rw [hm6, hm4, hm2]
    funext a b
    unfold w_fill w_Tb w_c0
    by_cases e0 : a = 20
    · subst e0
      by_cases hb : b < 60
      · simp [hb]
      · simp [hb]
        exact z1 b (by omega)
    · by_cases e1 : a = 21
      · subst e1
        by_cases hb : b < 10
        · simp [hb]
        · simp [hb]
          exact z2 b (by omega)
      · by_cases e2 : a = 22
        · subst e2
          by_cases hb : b < 30
          · simp [hb]
          · simp [hb]
            exact z3 b (by omega)
        · simp [e0, e1, e2]
  have e25 : m6 2 5 = nI C := by rw [e6, w_Tb_ne _ _ (by decide) (by decide) (by decide)]; exact hCn
  have emn : w_mn n (m6 2 5) = nI N := by
    rw [e25, hN]
    unfold w_mn
    rw [if_neg (nI_nlt hnC (by omega))]
  rw [emn, e6]
  exact loop N w_c0 (Nat.le_refl _) ⟨⟨fun j hj => by show (if j < 60 then (-1 : Int32) else 0) = 0; rw [if_neg (by omega)], fun _ _ => rfl, fun _ _ => rfl⟩, fun _ _ => vp_in_nI (n := 0) (by decide) (by decide)⟩ rfl
set_option maxRecDepth 100000 in
theorem zX0_read (l : Launch) : ∀ (idx : Nat) (S : wS), gX0_read idx = some S → w_Call l 0 idx S 5 shX rfX 43 := by
  intro idx S hS
  unfold gX0_read at hS
  split at hS
  · cases hS
    exact w_callS (mJ7_fill_53178 l) eJ7_fill_53178.1 (by decide +kernel) eJ7_fill_53178.2.1 eJ7_fill_53178.2.2 (by decide +kernel) (by decide) (by decide)
  · cases hS
    exact w_callMin (by decide) (by decide +kernel) (by decide +kernel) (by decide +kernel) (by decide +kernel)
  · cases hS
    exact w_callV (ci := 0) (mX0_take l) (by decide) rX0_take eX0_take.1 (by decide +kernel) eX0_take.2.1 eX0_take.2.2.1 eX0_take.2.2.2 (by decide +kernel) (by decide) (by decide)
  · cases hS
    exact w_callV (ci := 0) (mX0_joinJudges l) (by decide) rX0_joinJudges eX0_joinJudges.1 (by decide +kernel) eX0_joinJudges.2.1 eX0_joinJudges.2.2.1 eX0_joinJudges.2.2.2 (by decide +kernel) (by decide) (by decide)
  · cases hS
    exact w_callV (ci := 0) (mX0_rank l) (by decide) rX0_rank eX0_rank.1 (by decide +kernel) eX0_rank.2.1 eX0_rank.2.2.1 eX0_rank.2.2.2 (by decide +kernel) (by decide) (by decide)
  · cases hS
theorem mX0_read (l : Launch) : w_Met l yX0_read cX0_read 5 none 5 shX rfX 43 sX0_read.2.2.2.1 sX0_read.2.2.2.2 :=
  w_meth (o := 0) (Γ := gX0_read) (tb := tX0_read) (by decide +kernel) rfl kX0_read rfl (zX0_read l) (fun as μ h => by obtain ⟨q, n, rfl, h⟩ := h; exact Nat.le_of_ble_eq_true rfl) (fun as μ h K hK => by obtain ⟨q, n, rfl, h⟩ := h; exact vX0_read q n μ h K hK)
set_option maxRecDepth 100000 in
theorem eX0_read : Cond.code yX0_read cX0_read 5 none ∈ w_tbl ∧ Cond.instanceMethod yX0_read ∈ w_tbl ∧ Cond.selects (w_C 0) yX0_read yX0_read ∈ w_tbl ∧ Cond.initialized yX0_read.cls ∈ w_tbl := ⟨by decide +kernel, by decide +kernel, by decide +kernel, by decide +kernel⟩
theorem rX0_read : ∀ as μ, sX0_read.2.2.2.1 as μ → ∃ q as', as = .ref q :: as' ∧ q < 43 ∧ shX q = .inl 0 := by
  intro as μ h
  obtain ⟨q, n, rfl, h⟩ := h
  exact ⟨_, _, rfl, by decide, rfl⟩

/-! X0_judgesFor -/
def pX0_judgesFor (x : Int32) (y : Int32) (μ : wM) : Prop := vp_in x 10 ∧ vp_in y 10
def qX0_judgesFor (x : Int32) (y : Int32) (μ : wM) (r : Int32) (μ' : wM) : Prop := r = (nI (w_jf (μ 22) x.toNatClampNeg y.toNatClampNeg 3)) ∧ μ' = μ
def sX0_judgesFor : wS := (false, false, 3, fun as μ => ∃ x, ∃ y, as = [.ref 3, .int x, .int y] ∧ pX0_judgesFor x y μ, fun as μ r μ' => match as with
  | [.ref _, .int x, .int y] => qX0_judgesFor x y μ r μ'
  | _ => False)
def gX0_judgesFor : Nat → Option wS := fun k => match k with
  | _ => none
def uX0_judgesFor : Nat → Option (List Nat) := fun j => match j with | 4 => some [] | _ => none
set_option maxHeartbeats 4000000 in
set_option maxRecDepth 100000 in
theorem vcX0_judgesFor_0 (K : wK) (R : Int32 → wM → Prop) (x : Int32) (y : Int32) (μ : wM) (h : K 4 [some (.ref 3), some (.int x), some (.int y), some (.int 0), some (.int 0)] [] μ) : w_n 0 gX0_judgesFor shX rfX 43 (some .int) R tX0_judgesFor uX0_judgesFor K 29 0 [some (.ref 3), some (.int x), some (.int y), none, none] [] μ :=
  h
set_option maxHeartbeats 4000000 in
set_option maxRecDepth 100000 in
theorem vcX0_judgesFor_4 (K : wK) (R : Int32 → wM → Prop) (x : Int32) (y : Int32) (l3 : Int32) (l4 : Int32) (μ : wM) (h : (
    (((3 : Int32) ≤ l4) → R l3 μ) ∧
    (¬ ((3 : Int32) ≤ l4) → (vp_in ((x * 3) + l4) 30) ∧ (vp_in ((y * 3) + l4) 30) ∧ (
      ((((μ 22 (((y * 3) + l4) : Int32).toNatClampNeg) : Int32) ≤ (μ 22 (((x * 3) + l4) : Int32).toNatClampNeg)) → K 4 [some (.ref 3), some (.int x), some (.int y), some (.int (l3 + 0)), some (.int (l4 + 1))] [] μ) ∧
      (¬ (((μ 22 (((y * 3) + l4) : Int32).toNatClampNeg) : Int32) ≤ (μ 22 (((x * 3) + l4) : Int32).toNatClampNeg)) → K 4 [some (.ref 3), some (.int x), some (.int y), some (.int (l3 + 1)), some (.int (l4 + 1))] [] μ))))) : w_n 0 gX0_judgesFor shX rfX 43 (some .int) R tX0_judgesFor uX0_judgesFor K 29 4 [some (.ref 3), some (.int x), some (.int y), some (.int l3), some (.int l4)] [] μ :=
  And.intro (fun z585 => And.intro trivial ((h.1 z585))) (fun z586 => And.intro (And.intro (of_decide_eq_true rfl) rfl) (And.intro (And.intro (of_decide_eq_true rfl) (Exists.intro _ (And.intro rfl ((h.2 z586).1)))) (And.intro (And.intro (of_decide_eq_true rfl) rfl) (And.intro (And.intro (of_decide_eq_true rfl) (Exists.intro _ (And.intro rfl ((h.2 z586).2.1)))) (And.intro (fun z587 => ((h.2 z586).2.2.1 z587)) (fun z588 => ((h.2 z586).2.2.2 z588)))))))
set_option maxHeartbeats 4000000 in
theorem vX0_judgesFor (x : Int32) (y : Int32) (μ : wM) (h : pX0_judgesFor x y μ) (K : wK) (hK : w_cl 0 gX0_judgesFor shX rfX 43 (some .int) (qX0_judgesFor x y μ) tX0_judgesFor K) : K 0 [some (.ref 3), some (.int x), some (.int y), none, none] [] μ := by
  unfold pX0_judgesFor at h
  obtain ⟨h3, h4⟩ := h
  obtain ⟨X, hX, rfl, hXc⟩ := vp_in_le h3 (by decide)
  obtain ⟨Y, hY, rfl, hYc⟩ := vp_in_le h4 (by decide)
  have loop : ∀ (k i : Nat), i + k = 3 → K 4 [some (.ref 3), some (.int (nI X)), some (.int (nI Y)), some (.int (nI (w_jf (μ 22) X Y i))), some (.int (nI i))] [] μ := by
    intro k
    induction k with
    | zero =>
      intro i hi
      refine hK uX0_judgesFor 29 _ _ _ _ (vcX0_judgesFor_4 K _ (nI X) (nI Y) (nI (w_jf (μ 22) X Y i)) (nI i) μ ?_)
      refine ⟨fun _ => ⟨?_, rfl⟩, fun z => absurd (nI_le (a := 3) (by omega) (by omega)) z⟩
      rw [hXc, hYc, show i = 3 by omega]
    | succ k ih =>
      intro i hi
      refine hK uX0_judgesFor 29 _ _ _ _ (vcX0_judgesFor_4 K _ (nI X) (nI Y) (nI (w_jf (μ 22) X Y i)) (nI i) μ ?_)
      have z := ih (i + 1) (by omega)
      unfold w_jf at z
      rw [w_cnt] at z
      rw [ix3, ix3, nI_clamp (by omega), nI_clamp (by omega), nI_1 i]
      refine ⟨fun z => absurd z (nI_ge (b := 3) (by omega) (by omega)), fun _ => ⟨vp_in_nI (by omega) (by omega), vp_in_nI (by omega) (by omega), fun c => ?_, fun c => ?_⟩⟩
      · rw [if_neg (by simp only [decide_eq_true_eq]; exact i_nlt.mpr c)] at z
        rw [Int32.add_zero]
        exact z
      · rw [if_pos (by simp only [decide_eq_true_eq]; exact i_nle.mp c), ← nI_1] at z
        exact z
  refine hK uX0_judgesFor 29 _ _ _ _ (vcX0_judgesFor_0 K _ (nI X) (nI Y) μ ?_)
  exact loop 3 0 rfl
set_option maxRecDepth 100000 in
theorem zX0_judgesFor (l : Launch) : ∀ (idx : Nat) (S : wS), gX0_judgesFor idx = some S → w_Call l 0 idx S 1 shX rfX 43 := by
  intro idx S hS
  unfold gX0_judgesFor at hS
  split at hS
  · cases hS
theorem mX0_judgesFor (l : Launch) : w_Met l yX0_judgesFor cX0_judgesFor 5 (some .int) 1 shX rfX 43 sX0_judgesFor.2.2.2.1 sX0_judgesFor.2.2.2.2 :=
  w_meth (o := 0) (Γ := gX0_judgesFor) (tb := tX0_judgesFor) (by decide +kernel) rfl kX0_judgesFor rfl (zX0_judgesFor l) (fun as μ h => by obtain ⟨x, y, rfl, h⟩ := h; exact Nat.le_of_ble_eq_true rfl) (fun as μ h K hK => by obtain ⟨x, y, rfl, h⟩ := h; exact vX0_judgesFor x y μ h K hK)
set_option maxRecDepth 100000 in
theorem eX0_judgesFor : Cond.code yX0_judgesFor cX0_judgesFor 5 (some .int) ∈ w_tbl ∧ Cond.instanceMethod yX0_judgesFor ∈ w_tbl ∧ Cond.selects (w_C 0) yX0_judgesFor yX0_judgesFor ∈ w_tbl ∧ Cond.initialized yX0_judgesFor.cls ∈ w_tbl := ⟨by decide +kernel, by decide +kernel, by decide +kernel, by decide +kernel⟩
theorem rX0_judgesFor : ∀ as μ, sX0_judgesFor.2.2.2.1 as μ → ∃ q as', as = .ref q :: as' ∧ q < 43 ∧ shX q = .inl 0 := by
  intro as μ h
  obtain ⟨x, y, rfl, h⟩ := h
  exact ⟨_, _, rfl, by decide, rfl⟩

/-! X0_beatsAll -/
def pX0_beatsAll (x : Int32) (μ : wM) : Prop := vp_in x 10
def qX0_beatsAll (x : Int32) (μ : wM) (r : Int32) (μ' : wM) : Prop := r = (w_B01 (w_bts (μ 19) (μ 22) x.toNatClampNeg)) ∧ μ' = μ
def sX0_beatsAll : wS := (false, false, 2, fun as μ => ∃ x, as = [.ref 3, .int x] ∧ pX0_beatsAll x μ, fun as μ r μ' => match as with
  | [.ref _, .int x] => qX0_beatsAll x μ r μ'
  | _ => False)
def gX0_beatsAll : Nat → Option wS := fun k => match k with
  | 114 => some sX0_isTold
  | 117 => some sX0_judgesFor
  | _ => none
def uX0_beatsAll : Nat → Option (List Nat) := fun j => match j with | 2 => some [] | _ => none
set_option maxHeartbeats 4000000 in
set_option maxRecDepth 100000 in
theorem vcX0_beatsAll_0 (K : wK) (R : Int32 → wM → Prop) (x : Int32) (μ : wM) (h : K 2 [some (.ref 3), some (.int x), some (.int 0)] [] μ) : w_n 0 gX0_beatsAll shX rfX 43 (some .boolean) R tX0_beatsAll uX0_beatsAll K 20 0 [some (.ref 3), some (.int x), none] [] μ :=
  h
set_option maxHeartbeats 4000000 in
set_option maxRecDepth 100000 in
theorem vcX0_beatsAll_2 (K : wK) (R : Int32 → wM → Prop) (x : Int32) (l2 : Int32) (μ : wM) (h : (
    (((10 : Int32) ≤ l2) → R 1 μ) ∧
    (¬ ((10 : Int32) ≤ l2) → (
      (((l2 : Int32) = x) → K 2 [some (.ref 3), some (.int x), some (.int (l2 + 1))] [] μ) ∧
      (¬ ((l2 : Int32) = x) → pX0_isTold l2 μ ∧ (
        ((decide (0 < μ 19 (l2 : Int32).toNatClampNeg)) = false → K 2 [some (.ref 3), some (.int x), some (.int (l2 + 1))] [] μ) ∧
        ((decide (0 < μ 19 (l2 : Int32).toNatClampNeg)) = true → pX0_judgesFor x l2 μ ∧ (
          (((2 : Int32) ≤ (nI (w_jf (μ 22) (x : Int32).toNatClampNeg (l2 : Int32).toNatClampNeg 3))) → K 2 [some (.ref 3), some (.int x), some (.int (l2 + 1))] [] μ) ∧
          (¬ ((2 : Int32) ≤ (nI (w_jf (μ 22) (x : Int32).toNatClampNeg (l2 : Int32).toNatClampNeg 3))) → R 0 μ))))))))) : w_n 0 gX0_beatsAll shX rfX 43 (some .boolean) R tX0_beatsAll uX0_beatsAll K 20 2 [some (.ref 3), some (.int x), some (.int l2)] [] μ :=
  And.intro (fun z603 => And.intro (Or.inr rfl) ((h.1 z603))) (fun z604 => And.intro (fun z605 => ((h.2 z604).1 z605)) (fun z606 => And.intro (Exists.intro _ (And.intro rfl (((h.2 z604).2 z606).1))) (fun _ _ z609 => by obtain ⟨z607, z608⟩ := z609; have z607 := z607.symm; have z608 := z608.symm; subst z607; subst z608; exact And.intro (fun z610 => (((h.2 z604).2 z606).2.1 (w_B01_0.mp z610))) (fun z611 => And.intro (Exists.intro _ (Exists.intro _ (And.intro rfl ((((h.2 z604).2 z606).2.2 (w_B01_n.mp z611)).1)))) (fun _ _ z614 => by obtain ⟨z612, z613⟩ := z614; have z612 := z612.symm; have z613 := z613.symm; subst z612; subst z613; exact And.intro (fun z615 => ((((h.2 z604).2 z606).2.2 (w_B01_n.mp z611)).2.1 z615)) (fun z616 => And.intro (Or.inl rfl) (((((h.2 z604).2 z606).2.2 (w_B01_n.mp z611)).2.2 z616))))))))
set_option maxHeartbeats 4000000 in
theorem vX0_beatsAll (x : Int32) (μ : wM) (h : pX0_beatsAll x μ) (K : wK) (hK : w_cl 0 gX0_beatsAll shX rfX 43 (some .boolean) (qX0_beatsAll x μ) tX0_beatsAll K) : K 0 [some (.ref 3), some (.int x), none] [] μ := by
  unfold pX0_beatsAll at h
  obtain ⟨X, hX, rfl, hXc⟩ := vp_in_le h (by decide)
  have loop : ∀ (k i : Nat), i + k = 10 → (∀ o, o < i → (decide (o = X) || (!(decide (0 < μ 19 o)) || decide (2 ≤ w_jf (μ 22) X o 3))) = true) → K 2 [some (.ref 3), some (.int (nI X)), some (.int (nI i))] [] μ := by
    intro k
    induction k with
    | zero =>
      intro i hi ha
      refine hK uX0_beatsAll 20 _ _ _ _ (vcX0_beatsAll_2 K _ (nI X) (nI i) μ ?_)
      refine ⟨fun _ => ⟨w_B01_t ?_, rfl⟩, fun z => absurd (nI_le (a := 10) (by omega) (by omega)) z⟩
      rw [hXc]
      exact w_allB_t.mpr (fun j hj => ha j (by omega))
    | succ k ih =>
      intro i hi ha
      refine hK uX0_beatsAll 20 _ _ _ _ (vcX0_beatsAll_2 K _ (nI X) (nI i) μ ?_)
      rw [nI_clamp (by omega), hXc, nI_1 i]
      have nx : (decide (i = X) || (!(decide (0 < μ 19 i)) || decide (2 ≤ w_jf (μ 22) X i 3))) = true → K 2 [some (.ref 3), some (.int (nI X)), some (.int (nI (i + 1)))] [] μ := fun hh => ih (i + 1) (by omega) (fun o ho => by
        by_cases e : o = i
        · rw [e]; exact hh
        · exact ha o (by omega))
      have hle : w_jf (μ 22) X i 3 ≤ 3 := w_cnt_le _ _
      refine ⟨fun z => absurd z (nI_ge (b := 10) (by omega) (by omega)), fun _ => ⟨fun c => nx ?_, fun c => ⟨vp_in_nI (by omega) (by omega), fun c2 => nx ?_, fun c2 => ⟨⟨h, vp_in_nI (by omega) (by omega)⟩, fun c3 => nx ?_, fun c3 => ⟨w_B01_f ?_, rfl⟩⟩⟩⟩⟩
      · rw [(nI_eq (by omega) (by omega)).mp c]; simp
      · rw [c2]; simp
      · have : 2 ≤ w_jf (μ 22) X i 3 := (nI_leI (a := 2) (by omega) (by omega)).mp c3
        simp [this]
      · rw [hXc]
        intro z
        have z := w_allB_t.mp z i (by omega)
        have e1 : ¬ i = X := fun e => c (by rw [e])
        have e3 : ¬ 2 ≤ w_jf (μ 22) X i 3 := fun e => c3 ((nI_leI (a := 2) (by omega) (by omega)).mpr e)
        rw [c2] at z
        simp [e1, e3] at z
  refine hK uX0_beatsAll 20 _ _ _ _ (vcX0_beatsAll_0 K _ (nI X) μ ?_)
  exact loop 10 0 rfl (fun o ho => absurd ho (Nat.not_lt_zero _))
set_option maxRecDepth 100000 in
theorem zX0_beatsAll (l : Launch) : ∀ (idx : Nat) (S : wS), gX0_beatsAll idx = some S → w_Call l 0 idx S 2 shX rfX 43 := by
  intro idx S hS
  unfold gX0_beatsAll at hS
  split at hS
  · cases hS
    exact w_callV (ci := 0) (mX0_isTold l) (by decide) rX0_isTold eX0_isTold.1 (by decide +kernel) eX0_isTold.2.1 eX0_isTold.2.2.1 eX0_isTold.2.2.2 (by decide +kernel) (by decide) (by decide)
  · cases hS
    exact w_callV (ci := 0) (mX0_judgesFor l) (by decide) rX0_judgesFor eX0_judgesFor.1 (by decide +kernel) eX0_judgesFor.2.1 eX0_judgesFor.2.2.1 eX0_judgesFor.2.2.2 (by decide +kernel) (by decide) (by decide)
  · cases hS
theorem mX0_beatsAll (l : Launch) : w_Met l yX0_beatsAll cX0_beatsAll 3 (some .boolean) 2 shX rfX 43 sX0_beatsAll.2.2.2.1 sX0_beatsAll.2.2.2.2 :=
  w_meth (o := 0) (Γ := gX0_beatsAll) (tb := tX0_beatsAll) (by decide +kernel) rfl kX0_beatsAll rfl (zX0_beatsAll l) (fun as μ h => by obtain ⟨x, rfl, h⟩ := h; exact Nat.le_of_ble_eq_true rfl) (fun as μ h K hK => by obtain ⟨x, rfl, h⟩ := h; exact vX0_beatsAll x μ h K hK)
set_option maxRecDepth 100000 in
theorem eX0_beatsAll : Cond.code yX0_beatsAll cX0_beatsAll 3 (some .boolean) ∈ w_tbl ∧ Cond.instanceMethod yX0_beatsAll ∈ w_tbl ∧ Cond.selects (w_C 0) yX0_beatsAll yX0_beatsAll ∈ w_tbl ∧ Cond.initialized yX0_beatsAll.cls ∈ w_tbl := ⟨by decide +kernel, by decide +kernel, by decide +kernel, by decide +kernel⟩
theorem rX0_beatsAll : ∀ as μ, sX0_beatsAll.2.2.2.1 as μ → ∃ q as', as = .ref q :: as' ∧ q < 43 ∧ shX q = .inl 0 := by
  intro as μ h
  obtain ⟨x, rfl, h⟩ := h
  exact ⟨_, _, rfl, by decide, rfl⟩

/-! X0_leastParadox -/
def pX0_leastParadox (μ : wM) : Prop := True
def qX0_leastParadox (μ : wM) (r : Int32) (μ' : wM) : Prop := r = (w_find (fun i => decide (1 < μ 19 i) && w_bts (μ 19) (μ 22) i) 10 0) ∧ μ' = μ
def sX0_leastParadox : wS := (false, false, 1, fun as μ => as = [.ref 3] ∧ pX0_leastParadox μ, fun as μ r μ' => match as with
  | [.ref _] => qX0_leastParadox μ r μ'
  | _ => False)
def gX0_leastParadox : Nat → Option wS := fun k => match k with
  | 110 => some sX0_beatsAll
  | _ => none
def uX0_leastParadox : Nat → Option (List Nat) := fun j => match j with | 2 => some [] | _ => none
set_option maxHeartbeats 4000000 in
set_option maxRecDepth 100000 in
theorem vcX0_leastParadox_0 (K : wK) (R : Int32 → wM → Prop) (μ : wM) (h : K 2 [some (.ref 3), some (.int 0)] [] μ) : w_n 0 gX0_leastParadox shX rfX 43 (some .int) R tX0_leastParadox uX0_leastParadox K 17 0 [some (.ref 3), none] [] μ :=
  h
set_option maxHeartbeats 4000000 in
set_option maxRecDepth 100000 in
theorem vcX0_leastParadox_2 (K : wK) (R : Int32 → wM → Prop) (l1 : Int32) (μ : wM) (h : (
    (((10 : Int32) ≤ l1) → R (-2) μ) ∧
    (¬ ((10 : Int32) ≤ l1) → (vp_in l1 10) ∧ (
      ((((μ 19 (l1 : Int32).toNatClampNeg) : Int32) ≤ 1) → K 2 [some (.ref 3), some (.int (l1 + 1))] [] μ) ∧
      (¬ (((μ 19 (l1 : Int32).toNatClampNeg) : Int32) ≤ 1) → pX0_beatsAll l1 μ ∧ (
        ((w_bts (μ 19) (μ 22) (l1 : Int32).toNatClampNeg) = false → K 2 [some (.ref 3), some (.int (l1 + 1))] [] μ) ∧
        ((w_bts (μ 19) (μ 22) (l1 : Int32).toNatClampNeg) = true → R l1 μ))))))) : w_n 0 gX0_leastParadox shX rfX 43 (some .int) R tX0_leastParadox uX0_leastParadox K 17 2 [some (.ref 3), some (.int l1)] [] μ :=
  And.intro (fun z626 => And.intro trivial ((h.1 z626))) (fun z627 => And.intro (And.intro (of_decide_eq_true rfl) rfl) (And.intro (And.intro (of_decide_eq_true rfl) (Exists.intro _ (And.intro rfl ((h.2 z627).1)))) (And.intro (fun z628 => ((h.2 z627).2.1 z628)) (fun z629 => And.intro (Exists.intro _ (And.intro rfl (((h.2 z627).2.2 z629).1))) (fun _ _ z632 => by obtain ⟨z630, z631⟩ := z632; have z630 := z630.symm; have z631 := z631.symm; subst z630; subst z631; exact And.intro (fun z633 => (((h.2 z627).2.2 z629).2.1 (w_B01_0.mp z633))) (fun z634 => And.intro trivial ((((h.2 z627).2.2 z629).2.2 (w_B01_n.mp z634)))))))))
set_option maxHeartbeats 4000000 in
theorem vX0_leastParadox (μ : wM) (h : pX0_leastParadox μ) (K : wK) (hK : w_cl 0 gX0_leastParadox shX rfX 43 (some .int) (qX0_leastParadox μ) tX0_leastParadox K) : K 0 [some (.ref 3), none] [] μ := by
  unfold pX0_leastParadox at h
  have loop : ∀ (k i : Nat), i + k = 10 → w_find (fun i => decide (1 < μ 19 i) && w_bts (μ 19) (μ 22) i) 10 0 = w_find (fun i => decide (1 < μ 19 i) && w_bts (μ 19) (μ 22) i) k i → K 2 [some (.ref 3), some (.int (nI i))] [] μ := by
    intro k
    induction k with
    | zero =>
      intro i hi he
      refine hK uX0_leastParadox 17 _ _ _ _ (vcX0_leastParadox_2 K _ (nI i) μ ?_)
      exact ⟨fun _ => ⟨by rw [he]; rfl, rfl⟩, fun z => absurd (nI_le (a := 10) (by omega) (by omega)) z⟩
    | succ k ih =>
      intro i hi he
      refine hK uX0_leastParadox 17 _ _ _ _ (vcX0_leastParadox_2 K _ (nI i) μ ?_)
      rw [show w_find (fun i => decide (1 < μ 19 i) && w_bts (μ 19) (μ 22) i) (k + 1) i = (if (decide (1 < μ 19 i) && w_bts (μ 19) (μ 22) i) = true then nI i else w_find (fun i => decide (1 < μ 19 i) && w_bts (μ 19) (μ 22) i) k (i + 1)) from rfl] at he
      rw [nI_clamp (by omega), nI_1 i]
      refine ⟨fun z => absurd z (nI_ge (b := 10) (by omega) (by omega)), fun _ => ⟨vp_in_nI (by omega) (by omega), fun c => ?_, fun c => ⟨vp_in_nI (by omega) (by omega), fun c2 => ?_, fun c2 => ⟨?_, rfl⟩⟩⟩⟩
      · rw [if_neg (by simp only [Bool.and_eq_true, decide_eq_true_eq]; exact fun q => i_nlt.mpr c q.1)] at he
        exact ih (i + 1) (by omega) he
      · rw [if_neg (by rw [c2]; simp)] at he
        exact ih (i + 1) (by omega) he
      · rw [he, if_pos (by simp only [Bool.and_eq_true, decide_eq_true_eq]; exact ⟨i_nle.mp c, c2⟩)]
  refine hK uX0_leastParadox 17 _ _ _ _ (vcX0_leastParadox_0 K _ μ ?_)
  exact loop 10 0 rfl rfl
set_option maxRecDepth 100000 in
theorem zX0_leastParadox (l : Launch) : ∀ (idx : Nat) (S : wS), gX0_leastParadox idx = some S → w_Call l 0 idx S 3 shX rfX 43 := by
  intro idx S hS
  unfold gX0_leastParadox at hS
  split at hS
  · cases hS
    exact w_callV (ci := 0) (mX0_beatsAll l) (by decide) rX0_beatsAll eX0_beatsAll.1 (by decide +kernel) eX0_beatsAll.2.1 eX0_beatsAll.2.2.1 eX0_beatsAll.2.2.2 (by decide +kernel) (by decide) (by decide)
  · cases hS
theorem mX0_leastParadox (l : Launch) : w_Met l yX0_leastParadox cX0_leastParadox 2 (some .int) 3 shX rfX 43 sX0_leastParadox.2.2.2.1 sX0_leastParadox.2.2.2.2 :=
  w_meth (o := 0) (Γ := gX0_leastParadox) (tb := tX0_leastParadox) (by decide +kernel) rfl kX0_leastParadox rfl (zX0_leastParadox l) (fun as μ h => by obtain ⟨rfl, h⟩ := h; exact Nat.le_of_ble_eq_true rfl) (fun as μ h K hK => by obtain ⟨rfl, h⟩ := h; exact vX0_leastParadox  μ h K hK)
set_option maxRecDepth 100000 in
theorem eX0_leastParadox : Cond.code yX0_leastParadox cX0_leastParadox 2 (some .int) ∈ w_tbl ∧ Cond.instanceMethod yX0_leastParadox ∈ w_tbl ∧ Cond.selects (w_C 0) yX0_leastParadox yX0_leastParadox ∈ w_tbl ∧ Cond.initialized yX0_leastParadox.cls ∈ w_tbl := ⟨by decide +kernel, by decide +kernel, by decide +kernel, by decide +kernel⟩
theorem rX0_leastParadox : ∀ as μ, sX0_leastParadox.2.2.2.1 as μ → ∃ q as', as = .ref q :: as' ∧ q < 43 ∧ shX q = .inl 0 := by
  intro as μ h
  obtain ⟨rfl, h⟩ := h
  exact ⟨_, _, rfl, by decide, rfl⟩

/-! X0_arePlacesAsLast -/
def pX0_arePlacesAsLast (μ : wM) : Prop := True
def qX0_arePlacesAsLast (μ : wM) (r : Int32) (μ' : wM) : Prop := r = (w_B01 (w_allB (fun j => decide (μ 19 j = μ 23 j)) 10)) ∧ μ' = μ
def sX0_arePlacesAsLast : wS := (false, false, 1, fun as μ => as = [.ref 3] ∧ pX0_arePlacesAsLast μ, fun as μ r μ' => match as with
  | [.ref _] => qX0_arePlacesAsLast μ r μ'
  | _ => False)
def gX0_arePlacesAsLast : Nat → Option wS := fun k => match k with
  | _ => none
def uX0_arePlacesAsLast : Nat → Option (List Nat) := fun j => match j with | 2 => some [] | _ => none
set_option maxHeartbeats 4000000 in
set_option maxRecDepth 100000 in
theorem vcX0_arePlacesAsLast_0 (K : wK) (R : Int32 → wM → Prop) (μ : wM) (h : K 2 [some (.ref 3), some (.int 0)] [] μ) : w_n 0 gX0_arePlacesAsLast shX rfX 43 (some .boolean) R tX0_arePlacesAsLast uX0_arePlacesAsLast K 16 0 [some (.ref 3), none] [] μ :=
  h
set_option maxHeartbeats 4000000 in
set_option maxRecDepth 100000 in
theorem vcX0_arePlacesAsLast_2 (K : wK) (R : Int32 → wM → Prop) (l1 : Int32) (μ : wM) (h : (
    (((10 : Int32) ≤ l1) → R 1 μ) ∧
    (¬ ((10 : Int32) ≤ l1) → (vp_in l1 10) ∧ (
      ((((μ 19 (l1 : Int32).toNatClampNeg) : Int32) = (μ 23 (l1 : Int32).toNatClampNeg)) → K 2 [some (.ref 3), some (.int (l1 + 1))] [] μ) ∧
      (¬ (((μ 19 (l1 : Int32).toNatClampNeg) : Int32) = (μ 23 (l1 : Int32).toNatClampNeg)) → R 0 μ))))) : w_n 0 gX0_arePlacesAsLast shX rfX 43 (some .boolean) R tX0_arePlacesAsLast uX0_arePlacesAsLast K 16 2 [some (.ref 3), some (.int l1)] [] μ :=
  And.intro (fun z639 => And.intro (Or.inr rfl) ((h.1 z639))) (fun z640 => And.intro (And.intro (of_decide_eq_true rfl) rfl) (And.intro (And.intro (of_decide_eq_true rfl) (Exists.intro _ (And.intro rfl ((h.2 z640).1)))) (And.intro (And.intro (of_decide_eq_true rfl) rfl) (And.intro (And.intro (of_decide_eq_true rfl) (Exists.intro _ (And.intro rfl ((h.2 z640).1)))) (And.intro (fun z641 => ((h.2 z640).2.1 z641)) (fun z642 => And.intro (Or.inl rfl) (((h.2 z640).2.2 z642))))))))
set_option maxHeartbeats 4000000 in
theorem vX0_arePlacesAsLast (μ : wM) (h : pX0_arePlacesAsLast μ) (K : wK) (hK : w_cl 0 gX0_arePlacesAsLast shX rfX 43 (some .boolean) (qX0_arePlacesAsLast μ) tX0_arePlacesAsLast K) : K 0 [some (.ref 3), none] [] μ := by
  unfold pX0_arePlacesAsLast at h
  have loop : ∀ (k i : Nat), i + k = 10 → (∀ o, o < i → μ 19 o = μ 23 o) → K 2 [some (.ref 3), some (.int (nI i))] [] μ := by
    intro k
    induction k with
    | zero =>
      intro i hi ha
      refine hK uX0_arePlacesAsLast 16 _ _ _ _ (vcX0_arePlacesAsLast_2 K _ (nI i) μ ?_)
      refine ⟨fun _ => ⟨w_B01_t ?_, rfl⟩, fun z => absurd (nI_le (a := 10) (by omega) (by omega)) z⟩
      exact w_allB_t.mpr (fun j hj => by simp [ha j (by omega)])
    | succ k ih =>
      intro i hi ha
      refine hK uX0_arePlacesAsLast 16 _ _ _ _ (vcX0_arePlacesAsLast_2 K _ (nI i) μ ?_)
      rw [nI_clamp (by omega), nI_1 i]
      refine ⟨fun z => absurd z (nI_ge (b := 10) (by omega) (by omega)), fun _ => ⟨vp_in_nI (by omega) (by omega), fun c => ?_, fun c => ⟨w_B01_f ?_, rfl⟩⟩⟩
      · exact ih (i + 1) (by omega) (fun o ho => by
          by_cases e : o = i
          · rw [e]; exact c
          · exact ha o (by omega))
      · intro z
        have z := w_allB_t.mp z i (by omega)
        simp [c] at z
  refine hK uX0_arePlacesAsLast 16 _ _ _ _ (vcX0_arePlacesAsLast_0 K _ μ ?_)
  exact loop 10 0 rfl (fun o ho => absurd ho (Nat.not_lt_zero _))
set_option maxRecDepth 100000 in
theorem zX0_arePlacesAsLast (l : Launch) : ∀ (idx : Nat) (S : wS), gX0_arePlacesAsLast idx = some S → w_Call l 0 idx S 1 shX rfX 43 := by
  intro idx S hS
  unfold gX0_arePlacesAsLast at hS
  split at hS
  · cases hS
theorem mX0_arePlacesAsLast (l : Launch) : w_Met l yX0_arePlacesAsLast cX0_arePlacesAsLast 2 (some .boolean) 1 shX rfX 43 sX0_arePlacesAsLast.2.2.2.1 sX0_arePlacesAsLast.2.2.2.2 :=
  w_meth (o := 0) (Γ := gX0_arePlacesAsLast) (tb := tX0_arePlacesAsLast) (by decide +kernel) rfl kX0_arePlacesAsLast rfl (zX0_arePlacesAsLast l) (fun as μ h => by obtain ⟨rfl, h⟩ := h; exact Nat.le_of_ble_eq_true rfl) (fun as μ h K hK => by obtain ⟨rfl, h⟩ := h; exact vX0_arePlacesAsLast  μ h K hK)
set_option maxRecDepth 100000 in
theorem eX0_arePlacesAsLast : Cond.code yX0_arePlacesAsLast cX0_arePlacesAsLast 2 (some .boolean) ∈ w_tbl ∧ Cond.instanceMethod yX0_arePlacesAsLast ∈ w_tbl ∧ Cond.selects (w_C 0) yX0_arePlacesAsLast yX0_arePlacesAsLast ∈ w_tbl ∧ Cond.initialized yX0_arePlacesAsLast.cls ∈ w_tbl := ⟨by decide +kernel, by decide +kernel, by decide +kernel, by decide +kernel⟩
theorem rX0_arePlacesAsLast : ∀ as μ, sX0_arePlacesAsLast.2.2.2.1 as μ → ∃ q as', as = .ref q :: as' ∧ q < 43 ∧ shX q = .inl 0 := by
  intro as μ h
  obtain ⟨rfl, h⟩ := h
  exact ⟨_, _, rfl, by decide, rfl⟩
end
section
theorem has_in {c e : Int32} (h : vp_in c 9) (z : w_hasB c e = true) : vp_in e 8 := by
  obtain ⟨C, hC, rfl, -⟩ := vp_in_le h (by decide)
  obtain ⟨z1, z2⟩ := w_hasB_t.mp z
  obtain ⟨E, hE, rfl⟩ := nI_of (i_nlt.mpr z1)
  exact vp_in_nI (by have := (nI_ltI hE (by omega)).mp z2; omega) (by omega)
theorem in_in {x : Int32} {k : Nat} (hk : k < 1000) (z : w_inB x 0 (nI k) = true) : vp_in x (k + 1) := by
  obtain ⟨z1, z2⟩ := w_inB_t.mp z
  obtain ⟨E, hE, rfl⟩ := nI_of (i_nlt.mpr z1)
  exact vp_in_nI (by have := (nI_leI hE (by omega)).mp z2; omega) (by omega)
theorem in9 {x : Int32} (z : w_inB x 0 9 = true) : vp_in x 10 := in_in (k := 9) (by decide) z
theorem in3 {x : Int32} (z : w_inB x 0 3 = true) : vp_in x 4 := in_in (k := 3) (by decide) z
theorem in2 {x : Int32} (z : w_inB x 0 2 = true) : vp_in x 3 := in_in (k := 2) (by decide) z
theorem nfull_in {c : Int32} (h : vp_in c 9) (z : decide (8 ≤ c) = false) : vp_in c 8 := by
  obtain ⟨C, hC, rfl, -⟩ := vp_in_le h (by decide)
  have z := of_decide_eq_false z
  exact vp_in_nI (by
    rcases Nat.lt_or_ge C 8 with q | q
    · exact q
    · exact absurd (nI_le (a := 8) q (by omega)) z) (by omega)
theorem nfull2_in {c : Int32} (h : vp_in c 161) (z : decide (160 < c + 1) = false) : vp_in c 160 := by
  obtain ⟨C, hC, rfl, -⟩ := vp_in_le h (by decide)
  have z := of_decide_eq_false z
  rw [nI_1] at z
  exact vp_in_nI (by
    rcases Nat.lt_or_ge C 160 with q | q
    · exact q
    · exact absurd (nI_lt (a := 160) (by omega) (by omega)) z) (by omega)
theorem evp {e : Int32} (h : vp_in e 8) : Int32.toNatClampNeg e + 27 < 43 ∧ shX (Int32.toNatClampNeg e + 27) = .inl 1 ∧ True := ⟨(ev_ok h).1, (ev_ok h).2, trivial⟩
theorem tk9 {k men x a b : Int32} (z : w_tk k men x a b = true) : vp_in x 10 := by
  unfold w_tk w_hm at z
  rw [Bool.and_eq_true, Bool.and_eq_true] at z
  exact in9 z.1.1
/-- what holds of the class's memory between calls -/
def w_IL (μ : wM) : Prop := ∀ i, i < (μ 2 5).toNatClampNeg → vp_in (μ 15 i) 10 ∧ ∃ e, e < 8 ∧ μ 14 i = nI e ∧ (μ (e + 27) 1 = 2 → vp_in (μ 16 i) 3)
def w_IX (μ : wM) : Prop := vp_in (μ 1 1) 9 ∧ vp_in (μ 2 5) 161 ∧ w_Z μ ∧ (∀ e, e < 8 → μ (e + 27) 0 = nI e) ∧ w_IL μ ∧ vp_in (μ 4 1) 41 ∧ vp_in (μ 5 1) 7 ∧ vp_in (μ 1 7) 7 ∧ vp_in (μ 1 4) 9
def fX7_event (k : Int32) (p : Int32) (s : Int32) (μ : wM) : Int32 × wM := (if (w_inB k 0 2) = true then (if (w_inB p 1 15) = true then (if (w_inB s 1 12) = true then (if (decide (8 ≤ μ 1 1)) = true then ((-3), μ) else ((μ ((μ 1 1).toNatClampNeg + 27) 0), (w_up (w_up (w_up (w_up μ ((μ 1 1).toNatClampNeg + 27) 1 k) ((μ 1 1).toNatClampNeg + 27) 2 p) ((μ 1 1).toNatClampNeg + 27) 3 s) 1 1 (μ 1 1 + 1)))) else ((-1), μ)) else ((-1), μ)) else ((-1), μ))
/-! X7_event -/
def pX7_event (k : Int32) (p : Int32) (s : Int32) (μ : wM) : Prop := w_IX μ
def qX7_event (k : Int32) (p : Int32) (s : Int32) (μ : wM) (r : Int32) (μ' : wM) : Prop := r = (fX7_event k p s μ).1 ∧ μ' = (fX7_event k p s μ).2
def sX7_event : wS := (false, false, 4, fun as μ => ∃ k, ∃ p, ∃ s, as = [.ref 0, .int k, .int p, .int s] ∧ pX7_event k p s μ, fun as μ r μ' => match as with
  | [.ref _, .int k, .int p, .int s] => qX7_event k p s μ r μ'
  | _ => False)
def gX7_event : Nat → Option wS := fun k => match k with
  | 55 => some sX7_within
  | 59 => some sX3_isFull
  | 63 => some sX3_add
  | _ => none
def uX7_event : Nat → Option (List Nat) := fun _ => none
set_option maxHeartbeats 4000000 in
set_option maxRecDepth 100000 in
theorem vcX7_event_0 (K : wK) (R : Int32 → wM → Prop) (k : Int32) (p : Int32) (s : Int32) (μ : wM) (h : (
    ((w_inB k 0 2) = false → R (-1) μ) ∧
    ((w_inB k 0 2) = true → (
      ((w_inB p 1 15) = false → R (-1) μ) ∧
      ((w_inB p 1 15) = true → (
        ((w_inB s 1 12) = false → R (-1) μ) ∧
        ((w_inB s 1 12) = true → (
          ((decide (8 ≤ μ 1 1)) = false → pX3_add k p s μ ∧ R (μ ((μ 1 1).toNatClampNeg + 27) 0) (w_up (w_up (w_up (w_up μ ((μ 1 1).toNatClampNeg + 27) 1 k) ((μ 1 1).toNatClampNeg + 27) 2 p) ((μ 1 1).toNatClampNeg + 27) 3 s) 1 1 (μ 1 1 + 1))) ∧
          ((decide (8 ≤ μ 1 1)) = true → R (-3) μ))))))))) : w_n 7 gX7_event shX rfX 43 (some .int) R tX7_event uX7_event K 27 0 [some (.ref 0), some (.int k), some (.int p), some (.int s)] [] μ :=
  And.intro (Exists.intro _ (Exists.intro _ (Exists.intro _ (And.intro rfl (trivial))))) (fun _ _ z668 => by obtain ⟨z666, z667⟩ := z668; have z666 := z666.symm; have z667 := z667.symm; subst z666; subst z667; exact And.intro (fun z669 => And.intro trivial ((h.1 (w_B01_0.mp z669)))) (fun z670 => And.intro (Exists.intro _ (Exists.intro _ (Exists.intro _ (And.intro rfl (trivial))))) (fun _ _ z673 => by obtain ⟨z671, z672⟩ := z673; have z671 := z671.symm; have z672 := z672.symm; subst z671; subst z672; exact And.intro (fun z674 => And.intro trivial (((h.2 (w_B01_n.mp z670)).1 (w_B01_0.mp z674)))) (fun z675 => And.intro (Exists.intro _ (Exists.intro _ (Exists.intro _ (And.intro rfl (trivial))))) (fun _ _ z678 => by obtain ⟨z676, z677⟩ := z678; have z676 := z676.symm; have z677 := z677.symm; subst z676; subst z677; exact And.intro (fun z679 => And.intro trivial ((((h.2 (w_B01_n.mp z670)).2 (w_B01_n.mp z675)).1 (w_B01_0.mp z679)))) (fun z680 => And.intro (And.intro (of_decide_eq_true rfl) rfl) (And.intro (And.intro rfl (trivial)) (fun _ _ z683 => by obtain ⟨z681, z682⟩ := z683; have z681 := z681.symm; have z682 := z682.symm; subst z681; subst z682; exact And.intro (fun z684 => And.intro (And.intro (of_decide_eq_true rfl) rfl) (And.intro (Exists.intro _ (Exists.intro _ (Exists.intro _ (And.intro rfl (((((h.2 (w_B01_n.mp z670)).2 (w_B01_n.mp z675)).2 (w_B01_n.mp z680)).1 (w_B01_0.mp z684)).1))))) (fun _ _ z688 => by obtain ⟨z686, z687⟩ := z688; have z686 := z686.symm; have z687 := z687.symm; subst z686; subst z687; exact And.intro trivial (((((h.2 (w_B01_n.mp z670)).2 (w_B01_n.mp z675)).2 (w_B01_n.mp z680)).1 (w_B01_0.mp z684)).2)))) (fun z685 => And.intro trivial (((((h.2 (w_B01_n.mp z670)).2 (w_B01_n.mp z675)).2 (w_B01_n.mp z680)).2 (w_B01_n.mp z685))))))))))))
set_option maxHeartbeats 4000000 in
theorem vX7_event (k : Int32) (p : Int32) (s : Int32) (μ : wM) (h : pX7_event k p s μ) (K : wK) (hK : w_cl 7 gX7_event shX rfX 43 (some .int) (qX7_event k p s μ) tX7_event K) : K 0 [some (.ref 0), some (.int k), some (.int p), some (.int s)] [] μ := by
  refine hK uX7_event 27 _ _ _ _ (vcX7_event_0 K _ k p s μ ?_)
  clear hK
  unfold pX7_event at h
  unfold w_IX at h
  refine And.intro (fun z1 => ?_) (fun z1 => ?_)
  · unfold qX7_event fX7_event
    rw [if_neg (by rw [z1]; exact Bool.false_ne_true)]
    exact ⟨rfl, rfl⟩
  · refine And.intro (fun z2 => ?_) (fun z2 => ?_)
    · unfold qX7_event fX7_event
      rw [if_pos z1, if_neg (by rw [z2]; exact Bool.false_ne_true)]
      exact ⟨rfl, rfl⟩
    · refine And.intro (fun z3 => ?_) (fun z3 => ?_)
      · unfold qX7_event fX7_event
        rw [if_pos z1, if_pos z2, if_neg (by rw [z3]; exact Bool.false_ne_true)]
        exact ⟨rfl, rfl⟩
      · refine And.intro (fun z4 => ?_) (fun z4 => ?_)
        · refine And.intro (by first | exact tk9 (by assumption) | exact has_in h.1 (by assumption) | exact in9 (by assumption) | exact in3 (by assumption) | exact in2 (by assumption) | exact nfull_in h.1 (by assumption) | exact nfull2_in h.2.1 (by assumption) | exact evp (has_in h.1 (by assumption)) | exact h.2.1 | (simp_all; done)) ?_
          unfold qX7_event fX7_event
          rw [if_pos z1, if_pos z2, if_pos z3, if_neg (by rw [z4]; exact Bool.false_ne_true)]
          exact ⟨rfl, rfl⟩
        · unfold qX7_event fX7_event
          rw [if_pos z1, if_pos z2, if_pos z3, if_pos z4]
          exact ⟨rfl, rfl⟩
set_option maxRecDepth 100000 in
theorem zX7_event (l : Launch) : ∀ (idx : Nat) (S : wS), gX7_event idx = some S → w_Call l 7 idx S 2 shX rfX 43 := by
  intro idx S hS
  unfold gX7_event at hS
  split at hS
  · cases hS
    exact w_callS (mX7_within l) eX7_within.1 (by decide +kernel) eX7_within.2.1 eX7_within.2.2 (by decide +kernel) (by decide) (by decide)
  · cases hS
    exact w_callV (ci := 3) (mX3_isFull l) (by decide) rX3_isFull eX3_isFull.1 (by decide +kernel) eX3_isFull.2.1 eX3_isFull.2.2.1 eX3_isFull.2.2.2 (by decide +kernel) (by decide) (by decide)
  · cases hS
    exact w_callV (ci := 3) (mX3_add l) (by decide) rX3_add eX3_add.1 (by decide +kernel) eX3_add.2.1 eX3_add.2.2.1 eX3_add.2.2.2 (by decide +kernel) (by decide) (by decide)
  · cases hS
theorem mX7_event (l : Launch) : w_Met l yX7_event cX7_event 4 (some .int) 2 shX rfX 43 sX7_event.2.2.2.1 sX7_event.2.2.2.2 :=
  w_meth (o := 7) (Γ := gX7_event) (tb := tX7_event) (by decide +kernel) rfl kX7_event rfl (zX7_event l) (fun as μ h => by obtain ⟨k, p, s, rfl, h⟩ := h; exact Nat.le_of_ble_eq_true rfl) (fun as μ h K hK => by obtain ⟨k, p, s, rfl, h⟩ := h; exact vX7_event k p s μ h K hK)
set_option maxRecDepth 100000 in
theorem eX7_event : Cond.code yX7_event cX7_event 4 (some .int) ∈ w_tbl ∧ Cond.instanceMethod yX7_event ∈ w_tbl ∧ Cond.selects (w_C 7) yX7_event yX7_event ∈ w_tbl ∧ Cond.initialized yX7_event.cls ∈ w_tbl := ⟨by decide +kernel, by decide +kernel, by decide +kernel, by decide +kernel⟩
theorem rX7_event : ∀ as μ, sX7_event.2.2.2.1 as μ → ∃ q as', as = .ref q :: as' ∧ q < 43 ∧ shX q = .inl 7 := by
  intro as μ h
  obtain ⟨k, p, s, rfl, h⟩ := h
  exact ⟨_, _, rfl, by decide, rfl⟩

def fX7_enter (e : Int32) (x : Int32) (i : Int32) (μ : wM) : Int32 × wM := (if (w_hasB (μ 1 1) e) = true then (if (w_inB x 0 9) = true then (if ((i : Int32) = 0) then (if (w_tells (μ 14) (μ 15) e x (μ 2 5).toNatClampNeg) = true then ((-2), μ) else ((w_bc (w_men (μ (Int32.toNatClampNeg e + 27) 4) x i)), (w_up μ (Int32.toNatClampNeg e + 27) 4 (w_men (μ (Int32.toNatClampNeg e + 27) 4) x i)))) else ((w_bc (w_men (μ (Int32.toNatClampNeg e + 27) 4) x i)), (w_up μ (Int32.toNatClampNeg e + 27) 4 (w_men (μ (Int32.toNatClampNeg e + 27) 4) x i)))) else ((-1), μ)) else ((-1), μ))
/-! X7_enter -/
def pX7_enter (e : Int32) (x : Int32) (i : Int32) (μ : wM) : Prop := w_IX μ ∧ w_bit i
def qX7_enter (e : Int32) (x : Int32) (i : Int32) (μ : wM) (r : Int32) (μ' : wM) : Prop := r = (fX7_enter e x i μ).1 ∧ μ' = (fX7_enter e x i μ).2
def sX7_enter : wS := (false, false, 4, fun as μ => ∃ e, ∃ x, ∃ i, as = [.ref 0, .int e, .int x, .int i] ∧ pX7_enter e x i μ, fun as μ r μ' => match as with
  | [.ref _, .int e, .int x, .int i] => qX7_enter e x i μ r μ'
  | _ => False)
def gX7_enter : Nat → Option wS := fun k => match k with
  | 67 => some sX3_has
  | 71 => some sX7_isMan
  | 74 => some sX2_tellsOf
  | 82 => some sX1_put
  | _ => none
def uX7_enter : Nat → Option (List Nat) := fun _ => none
set_option maxHeartbeats 4000000 in
set_option maxRecDepth 100000 in
theorem vcX7_enter_0 (K : wK) (R : Int32 → wM → Prop) (e : Int32) (x : Int32) (i : Int32) (μ : wM) (h : (
    ((w_hasB (μ 1 1) e) = false → R (-1) μ) ∧
    ((w_hasB (μ 1 1) e) = true → (
      ((w_inB x 0 9) = false → R (-1) μ) ∧
      ((w_inB x 0 9) = true → (
        (((i : Int32) = 0) → pX2_tellsOf e x μ ∧ (
          ((w_tells (μ 14) (μ 15) e x (μ 2 5).toNatClampNeg) = false → (vp_in e 8) ∧ pX1_put (Int32.toNatClampNeg e + 27) x i μ ∧ R (w_bc (w_men (μ (Int32.toNatClampNeg e + 27) 4) x i)) (w_up μ (Int32.toNatClampNeg e + 27) 4 (w_men (μ (Int32.toNatClampNeg e + 27) 4) x i))) ∧
          ((w_tells (μ 14) (μ 15) e x (μ 2 5).toNatClampNeg) = true → R (-2) μ))) ∧
        (¬ ((i : Int32) = 0) → (vp_in e 8) ∧ pX1_put (Int32.toNatClampNeg e + 27) x i μ ∧ R (w_bc (w_men (μ (Int32.toNatClampNeg e + 27) 4) x i)) (w_up μ (Int32.toNatClampNeg e + 27) 4 (w_men (μ (Int32.toNatClampNeg e + 27) 4) x i))))))))) : w_n 7 gX7_enter shX rfX 43 (some .int) R tX7_enter uX7_enter K 26 0 [some (.ref 0), some (.int e), some (.int x), some (.int i)] [] μ :=
  And.intro (And.intro (of_decide_eq_true rfl) rfl) (And.intro (Exists.intro _ (And.intro rfl (trivial))) (fun _ _ z714 => by obtain ⟨z712, z713⟩ := z714; have z712 := z712.symm; have z713 := z713.symm; subst z712; subst z713; exact And.intro (fun z715 => And.intro trivial ((h.1 (w_B01_0.mp z715)))) (fun z716 => And.intro (Exists.intro _ (And.intro rfl (trivial))) (fun _ _ z719 => by obtain ⟨z717, z718⟩ := z719; have z717 := z717.symm; have z718 := z718.symm; subst z717; subst z718; exact And.intro (fun z720 => And.intro trivial (((h.2 (w_B01_n.mp z716)).1 (w_B01_0.mp z720)))) (fun z721 => And.intro (fun z722 => And.intro (And.intro (of_decide_eq_true rfl) rfl) (And.intro (Exists.intro _ (Exists.intro _ (And.intro rfl ((((h.2 (w_B01_n.mp z716)).2 (w_B01_n.mp z721)).1 z722).1)))) (fun _ _ z726 => by obtain ⟨z724, z725⟩ := z726; have z724 := z724.symm; have z725 := z725.symm; subst z724; subst z725; exact And.intro (fun z727 => And.intro (And.intro (of_decide_eq_true rfl) rfl) (And.intro (And.intro (of_decide_eq_true rfl) rfl) (And.intro (Or.inl (And.intro (of_decide_eq_true rfl) (Exists.intro _ (And.intro rfl (((((h.2 (w_B01_n.mp z716)).2 (w_B01_n.mp z721)).1 z722).2.1 (w_B01_0.mp z727)).1))))) (And.intro (Exists.intro _ (Exists.intro _ (Exists.intro _ (And.intro rfl (((((h.2 (w_B01_n.mp z716)).2 (w_B01_n.mp z721)).1 z722).2.1 (w_B01_0.mp z727)).2.1))))) (fun _ _ z731 => by obtain ⟨z729, z730⟩ := z731; have z729 := z729.symm; have z730 := z730.symm; subst z729; subst z730; exact And.intro trivial (((((h.2 (w_B01_n.mp z716)).2 (w_B01_n.mp z721)).1 z722).2.1 (w_B01_0.mp z727)).2.2)))))) (fun z728 => And.intro trivial (((((h.2 (w_B01_n.mp z716)).2 (w_B01_n.mp z721)).1 z722).2.2 (w_B01_n.mp z728))))))) (fun z723 => And.intro (And.intro (of_decide_eq_true rfl) rfl) (And.intro (And.intro (of_decide_eq_true rfl) rfl) (And.intro (Or.inl (And.intro (of_decide_eq_true rfl) (Exists.intro _ (And.intro rfl ((((h.2 (w_B01_n.mp z716)).2 (w_B01_n.mp z721)).2 z723).1))))) (And.intro (Exists.intro _ (Exists.intro _ (Exists.intro _ (And.intro rfl ((((h.2 (w_B01_n.mp z716)).2 (w_B01_n.mp z721)).2 z723).2.1))))) (fun _ _ z734 => by obtain ⟨z732, z733⟩ := z734; have z732 := z732.symm; have z733 := z733.symm; subst z732; subst z733; exact And.intro trivial ((((h.2 (w_B01_n.mp z716)).2 (w_B01_n.mp z721)).2 z723).2.2)))))))))))
set_option maxHeartbeats 4000000 in
theorem vX7_enter (e : Int32) (x : Int32) (i : Int32) (μ : wM) (h : pX7_enter e x i μ) (K : wK) (hK : w_cl 7 gX7_enter shX rfX 43 (some .int) (qX7_enter e x i μ) tX7_enter K) : K 0 [some (.ref 0), some (.int e), some (.int x), some (.int i)] [] μ := by
  refine hK uX7_enter 26 _ _ _ _ (vcX7_enter_0 K _ e x i μ ?_)
  clear hK
  unfold pX7_enter at h
  unfold w_IX at h
  refine And.intro (fun z5 => ?_) (fun z5 => ?_)
  · unfold qX7_enter fX7_enter
    rw [if_neg (by rw [z5]; exact Bool.false_ne_true)]
    exact ⟨rfl, rfl⟩
  · refine And.intro (fun z6 => ?_) (fun z6 => ?_)
    · unfold qX7_enter fX7_enter
      rw [if_pos z5, if_neg (by rw [z6]; exact Bool.false_ne_true)]
      exact ⟨rfl, rfl⟩
    · refine And.intro (fun z7 => ?_) (fun z7 => ?_)
      · refine And.intro (by first | exact tk9 (by assumption) | exact has_in h.1.1 (by assumption) | exact in9 (by assumption) | exact in3 (by assumption) | exact in2 (by assumption) | exact nfull_in h.1.1 (by assumption) | exact nfull2_in h.1.2.1 (by assumption) | exact evp (has_in h.1.1 (by assumption)) | exact h.1.2.1 | (simp_all; done)) ?_
        refine And.intro (fun z8 => ?_) (fun z8 => ?_)
        · refine And.intro (by first | exact tk9 (by assumption) | exact has_in h.1.1 (by assumption) | exact in9 (by assumption) | exact in3 (by assumption) | exact in2 (by assumption) | exact nfull_in h.1.1 (by assumption) | exact nfull2_in h.1.2.1 (by assumption) | exact evp (has_in h.1.1 (by assumption)) | exact h.1.2.1 | (simp_all; done)) ?_
          refine And.intro (by first | exact tk9 (by assumption) | exact has_in h.1.1 (by assumption) | exact in9 (by assumption) | exact in3 (by assumption) | exact in2 (by assumption) | exact nfull_in h.1.1 (by assumption) | exact nfull2_in h.1.2.1 (by assumption) | exact evp (has_in h.1.1 (by assumption)) | exact h.1.2.1 | (simp_all; done)) ?_
          unfold qX7_enter fX7_enter
          rw [if_pos z5, if_pos z6, if_pos z7, if_neg (by rw [z8]; exact Bool.false_ne_true)]
          exact ⟨rfl, rfl⟩
        · unfold qX7_enter fX7_enter
          rw [if_pos z5, if_pos z6, if_pos z7, if_pos z8]
          exact ⟨rfl, rfl⟩
      · refine And.intro (by first | exact tk9 (by assumption) | exact has_in h.1.1 (by assumption) | exact in9 (by assumption) | exact in3 (by assumption) | exact in2 (by assumption) | exact nfull_in h.1.1 (by assumption) | exact nfull2_in h.1.2.1 (by assumption) | exact evp (has_in h.1.1 (by assumption)) | exact h.1.2.1 | (simp_all; done)) ?_
        refine And.intro (by first | exact tk9 (by assumption) | exact has_in h.1.1 (by assumption) | exact in9 (by assumption) | exact in3 (by assumption) | exact in2 (by assumption) | exact nfull_in h.1.1 (by assumption) | exact nfull2_in h.1.2.1 (by assumption) | exact evp (has_in h.1.1 (by assumption)) | exact h.1.2.1 | (simp_all; done)) ?_
        unfold qX7_enter fX7_enter
        rw [if_pos z5, if_pos z6, if_neg z7]
        exact ⟨rfl, rfl⟩
set_option maxRecDepth 100000 in
theorem zX7_enter (l : Launch) : ∀ (idx : Nat) (S : wS), gX7_enter idx = some S → w_Call l 7 idx S 3 shX rfX 43 := by
  intro idx S hS
  unfold gX7_enter at hS
  split at hS
  · cases hS
    exact w_callV (ci := 3) (mX3_has l) (by decide) rX3_has eX3_has.1 (by decide +kernel) eX3_has.2.1 eX3_has.2.2.1 eX3_has.2.2.2 (by decide +kernel) (by decide) (by decide)
  · cases hS
    exact w_callS (mX7_isMan l) eX7_isMan.1 (by decide +kernel) eX7_isMan.2.1 eX7_isMan.2.2 (by decide +kernel) (by decide) (by decide)
  · cases hS
    exact w_callV (ci := 2) (mX2_tellsOf l) (by decide) rX2_tellsOf eX2_tellsOf.1 (by decide +kernel) eX2_tellsOf.2.1 eX2_tellsOf.2.2.1 eX2_tellsOf.2.2.2 (by decide +kernel) (by decide) (by decide)
  · cases hS
    exact w_callV (ci := 1) (mX1_put l) (by decide) rX1_put eX1_put.1 (by decide +kernel) eX1_put.2.1 eX1_put.2.2.1 eX1_put.2.2.2 (by decide +kernel) (by decide) (by decide)
  · cases hS
theorem mX7_enter (l : Launch) : w_Met l yX7_enter cX7_enter 4 (some .int) 3 shX rfX 43 sX7_enter.2.2.2.1 sX7_enter.2.2.2.2 :=
  w_meth (o := 7) (Γ := gX7_enter) (tb := tX7_enter) (by decide +kernel) rfl kX7_enter rfl (zX7_enter l) (fun as μ h => by obtain ⟨e, x, i, rfl, h⟩ := h; exact Nat.le_of_ble_eq_true rfl) (fun as μ h K hK => by obtain ⟨e, x, i, rfl, h⟩ := h; exact vX7_enter e x i μ h K hK)
set_option maxRecDepth 100000 in
theorem eX7_enter : Cond.code yX7_enter cX7_enter 4 (some .int) ∈ w_tbl ∧ Cond.instanceMethod yX7_enter ∈ w_tbl ∧ Cond.selects (w_C 7) yX7_enter yX7_enter ∈ w_tbl ∧ Cond.initialized yX7_enter.cls ∈ w_tbl := ⟨by decide +kernel, by decide +kernel, by decide +kernel, by decide +kernel⟩
theorem rX7_enter : ∀ as μ, sX7_enter.2.2.2.1 as μ → ∃ q as', as = .ref q :: as' ∧ q < 43 ∧ shX q = .inl 7 := by
  intro as μ h
  obtain ⟨e, x, i, rfl, h⟩ := h
  exact ⟨_, _, rfl, by decide, rfl⟩

def fX7_day (s : Int32) (t : Int32) (μ : wM) : Int32 × wM := (if (w_inB s 1 60) = true then (if (w_inB t 0 6) = true then (1, (w_up (w_up μ 1 2 s) 1 3 t)) else ((-1), μ)) else ((-1), μ))
/-! X7_day -/
def pX7_day (s : Int32) (t : Int32) (μ : wM) : Prop := w_IX μ
def qX7_day (s : Int32) (t : Int32) (μ : wM) (r : Int32) (μ' : wM) : Prop := r = (fX7_day s t μ).1 ∧ μ' = (fX7_day s t μ).2
def sX7_day : wS := (false, false, 3, fun as μ => ∃ s, ∃ t, as = [.ref 0, .int s, .int t] ∧ pX7_day s t μ, fun as μ r μ' => match as with
  | [.ref _, .int s, .int t] => qX7_day s t μ r μ'
  | _ => False)
def gX7_day : Nat → Option wS := fun k => match k with
  | 55 => some sX7_within
  | _ => none
def uX7_day : Nat → Option (List Nat) := fun _ => none
set_option maxHeartbeats 4000000 in
set_option maxRecDepth 100000 in
theorem vcX7_day_0 (K : wK) (R : Int32 → wM → Prop) (s : Int32) (t : Int32) (μ : wM) (h : (
    ((w_inB s 1 60) = false → R (-1) μ) ∧
    ((w_inB s 1 60) = true → (
      ((w_inB t 0 6) = false → R (-1) μ) ∧
      ((w_inB t 0 6) = true → R 1 (w_up (w_up μ 1 2 s) 1 3 t)))))) : w_n 7 gX7_day shX rfX 43 (some .int) R tX7_day uX7_day K 21 0 [some (.ref 0), some (.int s), some (.int t)] [] μ :=
  And.intro (Exists.intro _ (Exists.intro _ (Exists.intro _ (And.intro rfl (trivial))))) (fun _ _ z747 => by obtain ⟨z745, z746⟩ := z747; have z745 := z745.symm; have z746 := z746.symm; subst z745; subst z746; exact And.intro (fun z748 => And.intro trivial ((h.1 (w_B01_0.mp z748)))) (fun z749 => And.intro (Exists.intro _ (Exists.intro _ (Exists.intro _ (And.intro rfl (trivial))))) (fun _ _ z752 => by obtain ⟨z750, z751⟩ := z752; have z750 := z750.symm; have z751 := z751.symm; subst z750; subst z751; exact And.intro (fun z753 => And.intro trivial (((h.2 (w_B01_n.mp z749)).1 (w_B01_0.mp z753)))) (fun z754 => And.intro (And.intro (of_decide_eq_true rfl) rfl) (And.intro (And.intro (of_decide_eq_true rfl) (And.intro rfl (trivial))) (And.intro (And.intro (of_decide_eq_true rfl) rfl) (And.intro (And.intro (of_decide_eq_true rfl) (And.intro rfl (trivial))) (And.intro trivial (((h.2 (w_B01_n.mp z749)).2 (w_B01_n.mp z754)))))))))))
set_option maxHeartbeats 4000000 in
theorem vX7_day (s : Int32) (t : Int32) (μ : wM) (h : pX7_day s t μ) (K : wK) (hK : w_cl 7 gX7_day shX rfX 43 (some .int) (qX7_day s t μ) tX7_day K) : K 0 [some (.ref 0), some (.int s), some (.int t)] [] μ := by
  refine hK uX7_day 21 _ _ _ _ (vcX7_day_0 K _ s t μ ?_)
  clear hK
  unfold pX7_day at h
  unfold w_IX at h
  refine And.intro (fun z9 => ?_) (fun z9 => ?_)
  · unfold qX7_day fX7_day
    rw [if_neg (by rw [z9]; exact Bool.false_ne_true)]
    exact ⟨rfl, rfl⟩
  · refine And.intro (fun z10 => ?_) (fun z10 => ?_)
    · unfold qX7_day fX7_day
      rw [if_pos z9, if_neg (by rw [z10]; exact Bool.false_ne_true)]
      exact ⟨rfl, rfl⟩
    · unfold qX7_day fX7_day
      rw [if_pos z9, if_pos z10]
      exact ⟨rfl, rfl⟩
set_option maxRecDepth 100000 in
theorem zX7_day (l : Launch) : ∀ (idx : Nat) (S : wS), gX7_day idx = some S → w_Call l 7 idx S 2 shX rfX 43 := by
  intro idx S hS
  unfold gX7_day at hS
  split at hS
  · cases hS
    exact w_callS (mX7_within l) eX7_within.1 (by decide +kernel) eX7_within.2.1 eX7_within.2.2 (by decide +kernel) (by decide) (by decide)
  · cases hS
theorem mX7_day (l : Launch) : w_Met l yX7_day cX7_day 3 (some .int) 2 shX rfX 43 sX7_day.2.2.2.1 sX7_day.2.2.2.2 :=
  w_meth (o := 7) (Γ := gX7_day) (tb := tX7_day) (by decide +kernel) rfl kX7_day rfl (zX7_day l) (fun as μ h => by obtain ⟨s, t, rfl, h⟩ := h; exact Nat.le_of_ble_eq_true rfl) (fun as μ h K hK => by obtain ⟨s, t, rfl, h⟩ := h; exact vX7_day s t μ h K hK)
set_option maxRecDepth 100000 in
theorem eX7_day : Cond.code yX7_day cX7_day 3 (some .int) ∈ w_tbl ∧ Cond.instanceMethod yX7_day ∈ w_tbl ∧ Cond.selects (w_C 7) yX7_day yX7_day ∈ w_tbl ∧ Cond.initialized yX7_day.cls ∈ w_tbl := ⟨by decide +kernel, by decide +kernel, by decide +kernel, by decide +kernel⟩
theorem rX7_day : ∀ as μ, sX7_day.2.2.2.1 as μ → ∃ q as', as = .ref q :: as' ∧ q < 43 ∧ shX q = .inl 7 := by
  intro as μ h
  obtain ⟨s, t, rfl, h⟩ := h
  exact ⟨_, _, rfl, by decide, rfl⟩

def fX7_call (e : Int32) (o : Int32) (μ : wM) : Int32 × wM := (if (w_hasB (μ 1 1) e) = true then (if (w_hasB (μ 1 1) o) = true then (if ((e : Int32) = o) then ((-1), μ) else (if (((μ 1 4) : Int32) < 8) then ((μ 1 4 + 1), (w_up (w_up μ 11 (o : Int32).toNatClampNeg (μ 11 (o : Int32).toNatClampNeg ||| ((1 : Int32) <<< (e &&& 31)))) 1 4 (μ 1 4 + 1))) else ((-3), μ))) else ((-1), μ)) else ((-1), μ))
/-! X7_call -/
def pX7_call (e : Int32) (o : Int32) (μ : wM) : Prop := w_IX μ
def qX7_call (e : Int32) (o : Int32) (μ : wM) (r : Int32) (μ' : wM) : Prop := r = (fX7_call e o μ).1 ∧ μ' = (fX7_call e o μ).2
def sX7_call : wS := (false, false, 3, fun as μ => ∃ e, ∃ o, as = [.ref 0, .int e, .int o] ∧ pX7_call e o μ, fun as μ r μ' => match as with
  | [.ref _, .int e, .int o] => qX7_call e o μ r μ'
  | _ => False)
def gX7_call : Nat → Option wS := fun k => match k with
  | 67 => some sX3_has
  | 98 => some sX3_pair
  | _ => none
def uX7_call : Nat → Option (List Nat) := fun _ => none
set_option maxHeartbeats 4000000 in
set_option maxRecDepth 100000 in
theorem vcX7_call_0 (K : wK) (R : Int32 → wM → Prop) (e : Int32) (o : Int32) (μ : wM) (h : (
    ((w_hasB (μ 1 1) e) = false → R (-1) μ) ∧
    ((w_hasB (μ 1 1) e) = true → (
      ((w_hasB (μ 1 1) o) = false → R (-1) μ) ∧
      ((w_hasB (μ 1 1) o) = true → (
        (((e : Int32) = o) → R (-1) μ) ∧
        (¬ ((e : Int32) = o) → (
          ((((μ 1 4) : Int32) < 8) → pX3_pair e o μ ∧ R (μ 1 4 + 1) (w_up (w_up μ 11 (o : Int32).toNatClampNeg (μ 11 (o : Int32).toNatClampNeg ||| ((1 : Int32) <<< (e &&& 31)))) 1 4 (μ 1 4 + 1))) ∧
          (¬ (((μ 1 4) : Int32) < 8) → R (-3) μ))))))))) : w_n 7 gX7_call shX rfX 43 (some .int) R tX7_call uX7_call K 25 0 [some (.ref 0), some (.int e), some (.int o)] [] μ :=
  And.intro (And.intro (of_decide_eq_true rfl) rfl) (And.intro (Exists.intro _ (And.intro rfl (trivial))) (fun _ _ z774 => by obtain ⟨z772, z773⟩ := z774; have z772 := z772.symm; have z773 := z773.symm; subst z772; subst z773; exact And.intro (fun z775 => And.intro trivial ((h.1 (w_B01_0.mp z775)))) (fun z776 => And.intro (And.intro (of_decide_eq_true rfl) rfl) (And.intro (Exists.intro _ (And.intro rfl (trivial))) (fun _ _ z779 => by obtain ⟨z777, z778⟩ := z779; have z777 := z777.symm; have z778 := z778.symm; subst z777; subst z778; exact And.intro (fun z780 => And.intro trivial (((h.2 (w_B01_n.mp z776)).1 (w_B01_0.mp z780)))) (fun z781 => And.intro (fun z782 => And.intro trivial ((((h.2 (w_B01_n.mp z776)).2 (w_B01_n.mp z781)).1 z782))) (fun z783 => And.intro (And.intro (of_decide_eq_true rfl) rfl) (And.intro (And.intro (of_decide_eq_true rfl) rfl) (And.intro (fun z784 => And.intro (And.intro (of_decide_eq_true rfl) rfl) (And.intro (Exists.intro _ (Exists.intro _ (And.intro rfl (((((h.2 (w_B01_n.mp z776)).2 (w_B01_n.mp z781)).2 z783).1 z784).1)))) (fun _ _ z788 => by obtain ⟨z786, z787⟩ := z788; have z786 := z786.symm; have z787 := z787.symm; subst z786; subst z787; exact And.intro trivial (((((h.2 (w_B01_n.mp z776)).2 (w_B01_n.mp z781)).2 z783).1 z784).2)))) (fun z785 => And.intro trivial (((((h.2 (w_B01_n.mp z776)).2 (w_B01_n.mp z781)).2 z783).2 z785))))))))))))
set_option maxHeartbeats 4000000 in
theorem vX7_call (e : Int32) (o : Int32) (μ : wM) (h : pX7_call e o μ) (K : wK) (hK : w_cl 7 gX7_call shX rfX 43 (some .int) (qX7_call e o μ) tX7_call K) : K 0 [some (.ref 0), some (.int e), some (.int o)] [] μ := by
  refine hK uX7_call 25 _ _ _ _ (vcX7_call_0 K _ e o μ ?_)
  clear hK
  unfold pX7_call at h
  unfold w_IX at h
  refine And.intro (fun z11 => ?_) (fun z11 => ?_)
  · unfold qX7_call fX7_call
    rw [if_neg (by rw [z11]; exact Bool.false_ne_true)]
    exact ⟨rfl, rfl⟩
  · refine And.intro (fun z12 => ?_) (fun z12 => ?_)
    · unfold qX7_call fX7_call
      rw [if_pos z11, if_neg (by rw [z12]; exact Bool.false_ne_true)]
      exact ⟨rfl, rfl⟩
    · refine And.intro (fun z13 => ?_) (fun z13 => ?_)
      · unfold qX7_call fX7_call
        rw [if_pos z11, if_pos z12, if_pos z13]
        exact ⟨rfl, rfl⟩
      · refine And.intro (fun z14 => ?_) (fun z14 => ?_)
        · refine And.intro (by first | exact tk9 (by assumption) | exact has_in h.1 (by assumption) | exact in9 (by assumption) | exact in3 (by assumption) | exact in2 (by assumption) | exact nfull_in h.1 (by assumption) | exact nfull2_in h.2.1 (by assumption) | exact evp (has_in h.1 (by assumption)) | exact h.2.1 | (simp_all; done)) ?_
          unfold qX7_call fX7_call
          rw [if_pos z11, if_pos z12, if_neg z13, if_pos z14]
          exact ⟨rfl, rfl⟩
        · unfold qX7_call fX7_call
          rw [if_pos z11, if_pos z12, if_neg z13, if_neg z14]
          exact ⟨rfl, rfl⟩
set_option maxRecDepth 100000 in
theorem zX7_call (l : Launch) : ∀ (idx : Nat) (S : wS), gX7_call idx = some S → w_Call l 7 idx S 2 shX rfX 43 := by
  intro idx S hS
  unfold gX7_call at hS
  split at hS
  · cases hS
    exact w_callV (ci := 3) (mX3_has l) (by decide) rX3_has eX3_has.1 (by decide +kernel) eX3_has.2.1 eX3_has.2.2.1 eX3_has.2.2.2 (by decide +kernel) (by decide) (by decide)
  · cases hS
    exact w_callV (ci := 3) (mX3_pair l) (by decide) rX3_pair eX3_pair.1 (by decide +kernel) eX3_pair.2.1 eX3_pair.2.2.1 eX3_pair.2.2.2 (by decide +kernel) (by decide) (by decide)
  · cases hS
theorem mX7_call (l : Launch) : w_Met l yX7_call cX7_call 3 (some .int) 2 shX rfX 43 sX7_call.2.2.2.1 sX7_call.2.2.2.2 :=
  w_meth (o := 7) (Γ := gX7_call) (tb := tX7_call) (by decide +kernel) rfl kX7_call rfl (zX7_call l) (fun as μ h => by obtain ⟨e, o, rfl, h⟩ := h; exact Nat.le_of_ble_eq_true rfl) (fun as μ h K hK => by obtain ⟨e, o, rfl, h⟩ := h; exact vX7_call e o μ h K hK)
set_option maxRecDepth 100000 in
theorem eX7_call : Cond.code yX7_call cX7_call 3 (some .int) ∈ w_tbl ∧ Cond.instanceMethod yX7_call ∈ w_tbl ∧ Cond.selects (w_C 7) yX7_call yX7_call ∈ w_tbl ∧ Cond.initialized yX7_call.cls ∈ w_tbl := ⟨by decide +kernel, by decide +kernel, by decide +kernel, by decide +kernel⟩
theorem rX7_call : ∀ as μ, sX7_call.2.2.2.1 as μ → ∃ q as', as = .ref q :: as' ∧ q < 43 ∧ shX q = .inl 7 := by
  intro as μ h
  obtain ⟨e, o, rfl, h⟩ := h
  exact ⟨_, _, rfl, by decide, rfl⟩

def fX7_begins (e : Int32) (μ : wM) : Int32 × wM := (if (w_hasB (μ 1 1) e) = true then (if (((μ 1 7) : Int32) = 0) then ((-1), μ) else (if (w_bt (μ 1 8) e) = true then ((μ 10 (e : Int32).toNatClampNeg), μ) else ((-2), μ))) else ((-1), μ))
/-! X7_begins -/
def pX7_begins (e : Int32) (μ : wM) : Prop := w_IX μ
def qX7_begins (e : Int32) (μ : wM) (r : Int32) (μ' : wM) : Prop := r = (fX7_begins e μ).1 ∧ μ' = (fX7_begins e μ).2
def sX7_begins : wS := (false, false, 2, fun as μ => ∃ e, as = [.ref 0, .int e] ∧ pX7_begins e μ, fun as μ r μ' => match as with
  | [.ref _, .int e] => qX7_begins e μ r μ'
  | _ => False)
def gX7_begins : Nat → Option wS := fun k => match k with
  | 67 => some sX3_has
  | 117 => some sX3_isLaid
  | _ => none
def uX7_begins : Nat → Option (List Nat) := fun _ => none
set_option maxHeartbeats 4000000 in
set_option maxRecDepth 100000 in
theorem vcX7_begins_0 (K : wK) (R : Int32 → wM → Prop) (e : Int32) (μ : wM) (h : (
    ((w_hasB (μ 1 1) e) = false → R (-1) μ) ∧
    ((w_hasB (μ 1 1) e) = true → (
      ((((μ 1 7) : Int32) = 0) → R (-1) μ) ∧
      (¬ (((μ 1 7) : Int32) = 0) → (
        ((w_bt (μ 1 8) e) = false → R (-2) μ) ∧
        ((w_bt (μ 1 8) e) = true → (vp_in e 8) ∧ R (μ 10 (e : Int32).toNatClampNeg) μ))))))) : w_n 7 gX7_begins shX rfX 43 (some .int) R tX7_begins uX7_begins K 22 0 [some (.ref 0), some (.int e)] [] μ :=
  And.intro (And.intro (of_decide_eq_true rfl) rfl) (And.intro (Exists.intro _ (And.intro rfl (trivial))) (fun _ _ z803 => by obtain ⟨z801, z802⟩ := z803; have z801 := z801.symm; have z802 := z802.symm; subst z801; subst z802; exact And.intro (fun z804 => And.intro trivial ((h.1 (w_B01_0.mp z804)))) (fun z805 => And.intro (And.intro (of_decide_eq_true rfl) rfl) (And.intro (And.intro (of_decide_eq_true rfl) rfl) (And.intro (fun z806 => And.intro trivial (((h.2 (w_B01_n.mp z805)).1 z806))) (fun z807 => And.intro (And.intro (of_decide_eq_true rfl) rfl) (And.intro (Exists.intro _ (And.intro rfl (trivial))) (fun _ _ z810 => by obtain ⟨z808, z809⟩ := z810; have z808 := z808.symm; have z809 := z809.symm; subst z808; subst z809; exact And.intro (fun z811 => And.intro trivial ((((h.2 (w_B01_n.mp z805)).2 z807).1 (w_B01_0.mp z811)))) (fun z812 => And.intro (And.intro (of_decide_eq_true rfl) rfl) (And.intro (And.intro (of_decide_eq_true rfl) rfl) (And.intro (And.intro (of_decide_eq_true rfl) (Exists.intro _ (And.intro rfl ((((h.2 (w_B01_n.mp z805)).2 z807).2 (w_B01_n.mp z812)).1)))) (And.intro trivial ((((h.2 (w_B01_n.mp z805)).2 z807).2 (w_B01_n.mp z812)).2)))))))))))))
set_option maxHeartbeats 4000000 in
theorem vX7_begins (e : Int32) (μ : wM) (h : pX7_begins e μ) (K : wK) (hK : w_cl 7 gX7_begins shX rfX 43 (some .int) (qX7_begins e μ) tX7_begins K) : K 0 [some (.ref 0), some (.int e)] [] μ := by
  refine hK uX7_begins 22 _ _ _ _ (vcX7_begins_0 K _ e μ ?_)
  clear hK
  unfold pX7_begins at h
  unfold w_IX at h
  refine And.intro (fun z15 => ?_) (fun z15 => ?_)
  · unfold qX7_begins fX7_begins
    rw [if_neg (by rw [z15]; exact Bool.false_ne_true)]
    exact ⟨rfl, rfl⟩
  · refine And.intro (fun z16 => ?_) (fun z16 => ?_)
    · unfold qX7_begins fX7_begins
      rw [if_pos z15, if_pos z16]
      exact ⟨rfl, rfl⟩
    · refine And.intro (fun z17 => ?_) (fun z17 => ?_)
      · unfold qX7_begins fX7_begins
        rw [if_pos z15, if_neg z16, if_neg (by rw [z17]; exact Bool.false_ne_true)]
        exact ⟨rfl, rfl⟩
      · refine And.intro (by first | exact tk9 (by assumption) | exact has_in h.1 (by assumption) | exact in9 (by assumption) | exact in3 (by assumption) | exact in2 (by assumption) | exact nfull_in h.1 (by assumption) | exact nfull2_in h.2.1 (by assumption) | exact evp (has_in h.1 (by assumption)) | exact h.2.1 | (simp_all; done)) ?_
        unfold qX7_begins fX7_begins
        rw [if_pos z15, if_neg z16, if_pos z17]
        exact ⟨rfl, rfl⟩
set_option maxRecDepth 100000 in
theorem zX7_begins (l : Launch) : ∀ (idx : Nat) (S : wS), gX7_begins idx = some S → w_Call l 7 idx S 2 shX rfX 43 := by
  intro idx S hS
  unfold gX7_begins at hS
  split at hS
  · cases hS
    exact w_callV (ci := 3) (mX3_has l) (by decide) rX3_has eX3_has.1 (by decide +kernel) eX3_has.2.1 eX3_has.2.2.1 eX3_has.2.2.2 (by decide +kernel) (by decide) (by decide)
  · cases hS
    exact w_callV (ci := 3) (mX3_isLaid l) (by decide) rX3_isLaid eX3_isLaid.1 (by decide +kernel) eX3_isLaid.2.1 eX3_isLaid.2.2.1 eX3_isLaid.2.2.2 (by decide +kernel) (by decide) (by decide)
  · cases hS
theorem mX7_begins (l : Launch) : w_Met l yX7_begins cX7_begins 2 (some .int) 2 shX rfX 43 sX7_begins.2.2.2.1 sX7_begins.2.2.2.2 :=
  w_meth (o := 7) (Γ := gX7_begins) (tb := tX7_begins) (by decide +kernel) rfl kX7_begins rfl (zX7_begins l) (fun as μ h => by obtain ⟨e, rfl, h⟩ := h; exact Nat.le_of_ble_eq_true rfl) (fun as μ h K hK => by obtain ⟨e, rfl, h⟩ := h; exact vX7_begins e μ h K hK)
set_option maxRecDepth 100000 in
theorem eX7_begins : Cond.code yX7_begins cX7_begins 2 (some .int) ∈ w_tbl ∧ Cond.instanceMethod yX7_begins ∈ w_tbl ∧ Cond.selects (w_C 7) yX7_begins yX7_begins ∈ w_tbl ∧ Cond.initialized yX7_begins.cls ∈ w_tbl := ⟨by decide +kernel, by decide +kernel, by decide +kernel, by decide +kernel⟩
theorem rX7_begins : ∀ as μ, sX7_begins.2.2.2.1 as μ → ∃ q as', as = .ref q :: as' ∧ q < 43 ∧ shX q = .inl 7 := by
  intro as μ h
  obtain ⟨e, rfl, h⟩ := h
  exact ⟨_, _, rfl, by decide, rfl⟩

def fX7_stone (e : Int32) (g : Int32) (s : Int32) (μ : wM) : Int32 × wM := (if (w_hasB (μ 1 1) e) = true then (if (w_inB g 1000 30000) = true then (if (w_inB s (-100) 100) = true then (if (((μ (Int32.toNatClampNeg e + 27) 1) : Int32) = 0) then (1, (w_up (w_up μ (Int32.toNatClampNeg e + 27) 7 g) (Int32.toNatClampNeg e + 27) 8 s)) else ((-12), μ)) else ((-1), μ)) else ((-1), μ)) else ((-1), μ))
/-! X7_stone -/
def pX7_stone (e : Int32) (g : Int32) (s : Int32) (μ : wM) : Prop := w_IX μ
def qX7_stone (e : Int32) (g : Int32) (s : Int32) (μ : wM) (r : Int32) (μ' : wM) : Prop := r = (fX7_stone e g s μ).1 ∧ μ' = (fX7_stone e g s μ).2
def sX7_stone : wS := (false, false, 4, fun as μ => ∃ e, ∃ g, ∃ s, as = [.ref 0, .int e, .int g, .int s] ∧ pX7_stone e g s μ, fun as μ r μ' => match as with
  | [.ref _, .int e, .int g, .int s] => qX7_stone e g s μ r μ'
  | _ => False)
def gX7_stone : Nat → Option wS := fun k => match k with
  | 55 => some sX7_within
  | 67 => some sX3_has
  | _ => none
def uX7_stone : Nat → Option (List Nat) := fun _ => none
set_option maxHeartbeats 4000000 in
set_option maxRecDepth 100000 in
theorem vcX7_stone_0 (K : wK) (R : Int32 → wM → Prop) (e : Int32) (g : Int32) (s : Int32) (μ : wM) (h : (
    ((w_hasB (μ 1 1) e) = false → R (-1) μ) ∧
    ((w_hasB (μ 1 1) e) = true → (
      ((w_inB g 1000 30000) = false → R (-1) μ) ∧
      ((w_inB g 1000 30000) = true → (
        ((w_inB s (-100) 100) = false → R (-1) μ) ∧
        ((w_inB s (-100) 100) = true → (vp_in e 8) ∧ (
          ((((μ (Int32.toNatClampNeg e + 27) 1) : Int32) = 0) → R 1 (w_up (w_up μ (Int32.toNatClampNeg e + 27) 7 g) (Int32.toNatClampNeg e + 27) 8 s)) ∧
          (¬ (((μ (Int32.toNatClampNeg e + 27) 1) : Int32) = 0) → R (-12) μ))))))))) : w_n 7 gX7_stone shX rfX 43 (some .int) R tX7_stone uX7_stone K 33 0 [some (.ref 0), some (.int e), some (.int g), some (.int s), none] [] μ :=
  And.intro (And.intro (of_decide_eq_true rfl) rfl) (And.intro (Exists.intro _ (And.intro rfl (trivial))) (fun _ _ z832 => by obtain ⟨z830, z831⟩ := z832; have z830 := z830.symm; have z831 := z831.symm; subst z830; subst z831; exact And.intro (fun z833 => And.intro trivial ((h.1 (w_B01_0.mp z833)))) (fun z834 => And.intro (Exists.intro _ (Exists.intro _ (Exists.intro _ (And.intro rfl (trivial))))) (fun _ _ z837 => by obtain ⟨z835, z836⟩ := z837; have z835 := z835.symm; have z836 := z836.symm; subst z835; subst z836; exact And.intro (fun z838 => And.intro trivial (((h.2 (w_B01_n.mp z834)).1 (w_B01_0.mp z838)))) (fun z839 => And.intro (Exists.intro _ (Exists.intro _ (Exists.intro _ (And.intro rfl (trivial))))) (fun _ _ z842 => by obtain ⟨z840, z841⟩ := z842; have z840 := z840.symm; have z841 := z841.symm; subst z840; subst z841; exact And.intro (fun z843 => And.intro trivial ((((h.2 (w_B01_n.mp z834)).2 (w_B01_n.mp z839)).1 (w_B01_0.mp z843)))) (fun z844 => And.intro (And.intro (of_decide_eq_true rfl) rfl) (And.intro (And.intro (of_decide_eq_true rfl) rfl) (And.intro (Or.inl (And.intro (of_decide_eq_true rfl) (Exists.intro _ (And.intro rfl ((((h.2 (w_B01_n.mp z834)).2 (w_B01_n.mp z839)).2 (w_B01_n.mp z844)).1))))) (And.intro (ev_ok ((((h.2 (w_B01_n.mp z834)).2 (w_B01_n.mp z839)).2 (w_B01_n.mp z844)).1)) (And.intro (fun z845 => And.intro (And.intro (ev_ok ((((h.2 (w_B01_n.mp z834)).2 (w_B01_n.mp z839)).2 (w_B01_n.mp z844)).1)).1 (And.intro (ev_ok ((((h.2 (w_B01_n.mp z834)).2 (w_B01_n.mp z839)).2 (w_B01_n.mp z844)).1)).2 (trivial))) (And.intro (And.intro (ev_ok ((((h.2 (w_B01_n.mp z834)).2 (w_B01_n.mp z839)).2 (w_B01_n.mp z844)).1)).1 (And.intro (ev_ok ((((h.2 (w_B01_n.mp z834)).2 (w_B01_n.mp z839)).2 (w_B01_n.mp z844)).1)).2 (trivial))) (And.intro trivial (((((h.2 (w_B01_n.mp z834)).2 (w_B01_n.mp z839)).2 (w_B01_n.mp z844)).2.1 z845))))) (fun z846 => And.intro trivial (((((h.2 (w_B01_n.mp z834)).2 (w_B01_n.mp z839)).2 (w_B01_n.mp z844)).2.2 z846))))))))))))))
set_option maxHeartbeats 4000000 in
theorem vX7_stone (e : Int32) (g : Int32) (s : Int32) (μ : wM) (h : pX7_stone e g s μ) (K : wK) (hK : w_cl 7 gX7_stone shX rfX 43 (some .int) (qX7_stone e g s μ) tX7_stone K) : K 0 [some (.ref 0), some (.int e), some (.int g), some (.int s), none] [] μ := by
  refine hK uX7_stone 33 _ _ _ _ (vcX7_stone_0 K _ e g s μ ?_)
  clear hK
  unfold pX7_stone at h
  unfold w_IX at h
  refine And.intro (fun z18 => ?_) (fun z18 => ?_)
  · unfold qX7_stone fX7_stone
    rw [if_neg (by rw [z18]; exact Bool.false_ne_true)]
    exact ⟨rfl, rfl⟩
  · refine And.intro (fun z19 => ?_) (fun z19 => ?_)
    · unfold qX7_stone fX7_stone
      rw [if_pos z18, if_neg (by rw [z19]; exact Bool.false_ne_true)]
      exact ⟨rfl, rfl⟩
    · refine And.intro (fun z20 => ?_) (fun z20 => ?_)
      · unfold qX7_stone fX7_stone
        rw [if_pos z18, if_pos z19, if_neg (by rw [z20]; exact Bool.false_ne_true)]
        exact ⟨rfl, rfl⟩
      · refine And.intro (by first | exact tk9 (by assumption) | exact has_in h.1 (by assumption) | exact in9 (by assumption) | exact in3 (by assumption) | exact in2 (by assumption) | exact nfull_in h.1 (by assumption) | exact nfull2_in h.2.1 (by assumption) | exact evp (has_in h.1 (by assumption)) | exact h.2.1 | (simp_all; done)) ?_
        refine And.intro (fun z21 => ?_) (fun z21 => ?_)
        · unfold qX7_stone fX7_stone
          rw [if_pos z18, if_pos z19, if_pos z20, if_pos z21]
          exact ⟨rfl, rfl⟩
        · unfold qX7_stone fX7_stone
          rw [if_pos z18, if_pos z19, if_pos z20, if_neg z21]
          exact ⟨rfl, rfl⟩
set_option maxRecDepth 100000 in
theorem zX7_stone (l : Launch) : ∀ (idx : Nat) (S : wS), gX7_stone idx = some S → w_Call l 7 idx S 2 shX rfX 43 := by
  intro idx S hS
  unfold gX7_stone at hS
  split at hS
  · cases hS
    exact w_callS (mX7_within l) eX7_within.1 (by decide +kernel) eX7_within.2.1 eX7_within.2.2 (by decide +kernel) (by decide) (by decide)
  · cases hS
    exact w_callV (ci := 3) (mX3_has l) (by decide) rX3_has eX3_has.1 (by decide +kernel) eX3_has.2.1 eX3_has.2.2.1 eX3_has.2.2.2 (by decide +kernel) (by decide) (by decide)
  · cases hS
theorem mX7_stone (l : Launch) : w_Met l yX7_stone cX7_stone 5 (some .int) 2 shX rfX 43 sX7_stone.2.2.2.1 sX7_stone.2.2.2.2 :=
  w_meth (o := 7) (Γ := gX7_stone) (tb := tX7_stone) (by decide +kernel) rfl kX7_stone rfl (zX7_stone l) (fun as μ h => by obtain ⟨e, g, s, rfl, h⟩ := h; exact Nat.le_of_ble_eq_true rfl) (fun as μ h K hK => by obtain ⟨e, g, s, rfl, h⟩ := h; exact vX7_stone e g s μ h K hK)
set_option maxRecDepth 100000 in
theorem eX7_stone : Cond.code yX7_stone cX7_stone 5 (some .int) ∈ w_tbl ∧ Cond.instanceMethod yX7_stone ∈ w_tbl ∧ Cond.selects (w_C 7) yX7_stone yX7_stone ∈ w_tbl ∧ Cond.initialized yX7_stone.cls ∈ w_tbl := ⟨by decide +kernel, by decide +kernel, by decide +kernel, by decide +kernel⟩
theorem rX7_stone : ∀ as μ, sX7_stone.2.2.2.1 as μ → ∃ q as', as = .ref q :: as' ∧ q < 43 ∧ shX q = .inl 7 := by
  intro as μ h
  obtain ⟨e, g, s, rfl, h⟩ := h
  exact ⟨_, _, rfl, by decide, rfl⟩

def fX7_way (e : Int32) (y : Int32) (μ : wM) : Int32 × wM := (if (w_hasB (μ 1 1) e) = true then (if (w_inB y 100 2000) = true then (if (((μ (Int32.toNatClampNeg e + 27) 1) : Int32) = 1) then ((μ (Int32.toNatClampNeg e + 27) 9), (w_up μ (Int32.toNatClampNeg e + 27) 9 y)) else ((-12), μ)) else ((-1), μ)) else ((-1), μ))
/-! X7_way -/
def pX7_way (e : Int32) (y : Int32) (μ : wM) : Prop := w_IX μ
def qX7_way (e : Int32) (y : Int32) (μ : wM) (r : Int32) (μ' : wM) : Prop := r = (fX7_way e y μ).1 ∧ μ' = (fX7_way e y μ).2
def sX7_way : wS := (false, false, 3, fun as μ => ∃ e, ∃ y, as = [.ref 0, .int e, .int y] ∧ pX7_way e y μ, fun as μ r μ' => match as with
  | [.ref _, .int e, .int y] => qX7_way e y μ r μ'
  | _ => False)
def gX7_way : Nat → Option wS := fun k => match k with
  | 55 => some sX7_within
  | 67 => some sX3_has
  | _ => none
def uX7_way : Nat → Option (List Nat) := fun _ => none
set_option maxHeartbeats 4000000 in
set_option maxRecDepth 100000 in
theorem vcX7_way_0 (K : wK) (R : Int32 → wM → Prop) (e : Int32) (y : Int32) (μ : wM) (h : (
    ((w_hasB (μ 1 1) e) = false → R (-1) μ) ∧
    ((w_hasB (μ 1 1) e) = true → (
      ((w_inB y 100 2000) = false → R (-1) μ) ∧
      ((w_inB y 100 2000) = true → (vp_in e 8) ∧ (
        ((((μ (Int32.toNatClampNeg e + 27) 1) : Int32) = 1) → R (μ (Int32.toNatClampNeg e + 27) 9) (w_up μ (Int32.toNatClampNeg e + 27) 9 y)) ∧
        (¬ (((μ (Int32.toNatClampNeg e + 27) 1) : Int32) = 1) → R (-12) μ))))))) : w_n 7 gX7_way shX rfX 43 (some .int) R tX7_way uX7_way K 29 0 [some (.ref 0), some (.int e), some (.int y), none, none] [] μ :=
  And.intro (And.intro (of_decide_eq_true rfl) rfl) (And.intro (Exists.intro _ (And.intro rfl (trivial))) (fun _ _ z861 => by obtain ⟨z859, z860⟩ := z861; have z859 := z859.symm; have z860 := z860.symm; subst z859; subst z860; exact And.intro (fun z862 => And.intro trivial ((h.1 (w_B01_0.mp z862)))) (fun z863 => And.intro (Exists.intro _ (Exists.intro _ (Exists.intro _ (And.intro rfl (trivial))))) (fun _ _ z866 => by obtain ⟨z864, z865⟩ := z866; have z864 := z864.symm; have z865 := z865.symm; subst z864; subst z865; exact And.intro (fun z867 => And.intro trivial (((h.2 (w_B01_n.mp z863)).1 (w_B01_0.mp z867)))) (fun z868 => And.intro (And.intro (of_decide_eq_true rfl) rfl) (And.intro (And.intro (of_decide_eq_true rfl) rfl) (And.intro (Or.inl (And.intro (of_decide_eq_true rfl) (Exists.intro _ (And.intro rfl (((h.2 (w_B01_n.mp z863)).2 (w_B01_n.mp z868)).1))))) (And.intro (ev_ok (((h.2 (w_B01_n.mp z863)).2 (w_B01_n.mp z868)).1)) (And.intro (fun z869 => And.intro (ev_ok (((h.2 (w_B01_n.mp z863)).2 (w_B01_n.mp z868)).1)) (And.intro (And.intro (ev_ok (((h.2 (w_B01_n.mp z863)).2 (w_B01_n.mp z868)).1)).1 (And.intro (ev_ok (((h.2 (w_B01_n.mp z863)).2 (w_B01_n.mp z868)).1)).2 (trivial))) (And.intro trivial ((((h.2 (w_B01_n.mp z863)).2 (w_B01_n.mp z868)).2.1 z869))))) (fun z870 => And.intro trivial ((((h.2 (w_B01_n.mp z863)).2 (w_B01_n.mp z868)).2.2 z870))))))))))))
set_option maxHeartbeats 4000000 in
theorem vX7_way (e : Int32) (y : Int32) (μ : wM) (h : pX7_way e y μ) (K : wK) (hK : w_cl 7 gX7_way shX rfX 43 (some .int) (qX7_way e y μ) tX7_way K) : K 0 [some (.ref 0), some (.int e), some (.int y), none, none] [] μ := by
  refine hK uX7_way 29 _ _ _ _ (vcX7_way_0 K _ e y μ ?_)
  clear hK
  unfold pX7_way at h
  unfold w_IX at h
  refine And.intro (fun z22 => ?_) (fun z22 => ?_)
  · unfold qX7_way fX7_way
    rw [if_neg (by rw [z22]; exact Bool.false_ne_true)]
    exact ⟨rfl, rfl⟩
  · refine And.intro (fun z23 => ?_) (fun z23 => ?_)
    · unfold qX7_way fX7_way
      rw [if_pos z22, if_neg (by rw [z23]; exact Bool.false_ne_true)]
      exact ⟨rfl, rfl⟩
    · refine And.intro (by first | exact tk9 (by assumption) | exact has_in h.1 (by assumption) | exact in9 (by assumption) | exact in3 (by assumption) | exact in2 (by assumption) | exact nfull_in h.1 (by assumption) | exact nfull2_in h.2.1 (by assumption) | exact evp (has_in h.1 (by assumption)) | exact h.2.1 | (simp_all; done)) ?_
      refine And.intro (fun z24 => ?_) (fun z24 => ?_)
      · unfold qX7_way fX7_way
        rw [if_pos z22, if_pos z23, if_pos z24]
        exact ⟨rfl, rfl⟩
      · unfold qX7_way fX7_way
        rw [if_pos z22, if_pos z23, if_neg z24]
        exact ⟨rfl, rfl⟩
set_option maxRecDepth 100000 in
theorem zX7_way (l : Launch) : ∀ (idx : Nat) (S : wS), gX7_way idx = some S → w_Call l 7 idx S 2 shX rfX 43 := by
  intro idx S hS
  unfold gX7_way at hS
  split at hS
  · cases hS
    exact w_callS (mX7_within l) eX7_within.1 (by decide +kernel) eX7_within.2.1 eX7_within.2.2 (by decide +kernel) (by decide) (by decide)
  · cases hS
    exact w_callV (ci := 3) (mX3_has l) (by decide) rX3_has eX3_has.1 (by decide +kernel) eX3_has.2.1 eX3_has.2.2.1 eX3_has.2.2.2 (by decide +kernel) (by decide) (by decide)
  · cases hS
theorem mX7_way (l : Launch) : w_Met l yX7_way cX7_way 5 (some .int) 2 shX rfX 43 sX7_way.2.2.2.1 sX7_way.2.2.2.2 :=
  w_meth (o := 7) (Γ := gX7_way) (tb := tX7_way) (by decide +kernel) rfl kX7_way rfl (zX7_way l) (fun as μ h => by obtain ⟨e, y, rfl, h⟩ := h; exact Nat.le_of_ble_eq_true rfl) (fun as μ h K hK => by obtain ⟨e, y, rfl, h⟩ := h; exact vX7_way e y μ h K hK)
set_option maxRecDepth 100000 in
theorem eX7_way : Cond.code yX7_way cX7_way 5 (some .int) ∈ w_tbl ∧ Cond.instanceMethod yX7_way ∈ w_tbl ∧ Cond.selects (w_C 7) yX7_way yX7_way ∈ w_tbl ∧ Cond.initialized yX7_way.cls ∈ w_tbl := ⟨by decide +kernel, by decide +kernel, by decide +kernel, by decide +kernel⟩
theorem rX7_way : ∀ as μ, sX7_way.2.2.2.1 as μ → ∃ q as', as = .ref q :: as' ∧ q < 43 ∧ shX q = .inl 7 := by
  intro as μ h
  obtain ⟨e, y, rfl, h⟩ := h
  exact ⟨_, _, rfl, by decide, rfl⟩

def fX7_yards (x : Int32) (y : Int32) (μ : wM) : Int32 × wM := (if (w_inB x 0 9) = true then (if (w_inB y (-50) 50) = true then ((μ 7 (x : Int32).toNatClampNeg), (w_up μ 7 (x : Int32).toNatClampNeg y)) else ((-1001), μ)) else ((-1001), μ))
/-! X7_yards -/
def pX7_yards (x : Int32) (y : Int32) (μ : wM) : Prop := w_IX μ
def qX7_yards (x : Int32) (y : Int32) (μ : wM) (r : Int32) (μ' : wM) : Prop := r = (fX7_yards x y μ).1 ∧ μ' = (fX7_yards x y μ).2
def sX7_yards : wS := (false, false, 3, fun as μ => ∃ x, ∃ y, as = [.ref 0, .int x, .int y] ∧ pX7_yards x y μ, fun as μ r μ' => match as with
  | [.ref _, .int x, .int y] => qX7_yards x y μ r μ'
  | _ => False)
def gX7_yards : Nat → Option wS := fun k => match k with
  | 55 => some sX7_within
  | 71 => some sX7_isMan
  | _ => none
def uX7_yards : Nat → Option (List Nat) := fun _ => none
set_option maxHeartbeats 4000000 in
set_option maxRecDepth 100000 in
theorem vcX7_yards_0 (K : wK) (R : Int32 → wM → Prop) (x : Int32) (y : Int32) (μ : wM) (h : (
    ((w_inB x 0 9) = false → R (-1001) μ) ∧
    ((w_inB x 0 9) = true → (
      ((w_inB y (-50) 50) = false → R (-1001) μ) ∧
      ((w_inB y (-50) 50) = true → (vp_in x 10) ∧ R (μ 7 (x : Int32).toNatClampNeg) (w_up μ 7 (x : Int32).toNatClampNeg y)))))) : w_n 7 gX7_yards shX rfX 43 (some .int) R tX7_yards uX7_yards K 21 0 [some (.ref 0), some (.int x), some (.int y), none] [] μ :=
  And.intro (Exists.intro _ (And.intro rfl (trivial))) (fun _ _ z883 => by obtain ⟨z881, z882⟩ := z883; have z881 := z881.symm; have z882 := z882.symm; subst z881; subst z882; exact And.intro (fun z884 => And.intro trivial ((h.1 (w_B01_0.mp z884)))) (fun z885 => And.intro (Exists.intro _ (Exists.intro _ (Exists.intro _ (And.intro rfl (trivial))))) (fun _ _ z888 => by obtain ⟨z886, z887⟩ := z888; have z886 := z886.symm; have z887 := z887.symm; subst z886; subst z887; exact And.intro (fun z889 => And.intro trivial (((h.2 (w_B01_n.mp z885)).1 (w_B01_0.mp z889)))) (fun z890 => And.intro (And.intro (of_decide_eq_true rfl) rfl) (And.intro (And.intro (of_decide_eq_true rfl) (Exists.intro _ (And.intro rfl (((h.2 (w_B01_n.mp z885)).2 (w_B01_n.mp z890)).1)))) (And.intro (And.intro (of_decide_eq_true rfl) rfl) (And.intro (And.intro (of_decide_eq_true rfl) (Exists.intro _ (And.intro rfl (((h.2 (w_B01_n.mp z885)).2 (w_B01_n.mp z890)).1)))) (And.intro trivial (((h.2 (w_B01_n.mp z885)).2 (w_B01_n.mp z890)).2)))))))))
set_option maxHeartbeats 4000000 in
theorem vX7_yards (x : Int32) (y : Int32) (μ : wM) (h : pX7_yards x y μ) (K : wK) (hK : w_cl 7 gX7_yards shX rfX 43 (some .int) (qX7_yards x y μ) tX7_yards K) : K 0 [some (.ref 0), some (.int x), some (.int y), none] [] μ := by
  refine hK uX7_yards 21 _ _ _ _ (vcX7_yards_0 K _ x y μ ?_)
  clear hK
  unfold pX7_yards at h
  unfold w_IX at h
  refine And.intro (fun z25 => ?_) (fun z25 => ?_)
  · unfold qX7_yards fX7_yards
    rw [if_neg (by rw [z25]; exact Bool.false_ne_true)]
    exact ⟨rfl, rfl⟩
  · refine And.intro (fun z26 => ?_) (fun z26 => ?_)
    · unfold qX7_yards fX7_yards
      rw [if_pos z25, if_neg (by rw [z26]; exact Bool.false_ne_true)]
      exact ⟨rfl, rfl⟩
    · refine And.intro (by first | exact tk9 (by assumption) | exact has_in h.1 (by assumption) | exact in9 (by assumption) | exact in3 (by assumption) | exact in2 (by assumption) | exact nfull_in h.1 (by assumption) | exact nfull2_in h.2.1 (by assumption) | exact evp (has_in h.1 (by assumption)) | exact h.2.1 | (simp_all; done)) ?_
      unfold qX7_yards fX7_yards
      rw [if_pos z25, if_pos z26]
      exact ⟨rfl, rfl⟩
set_option maxRecDepth 100000 in
theorem zX7_yards (l : Launch) : ∀ (idx : Nat) (S : wS), gX7_yards idx = some S → w_Call l 7 idx S 3 shX rfX 43 := by
  intro idx S hS
  unfold gX7_yards at hS
  split at hS
  · cases hS
    exact w_callS (mX7_within l) eX7_within.1 (by decide +kernel) eX7_within.2.1 eX7_within.2.2 (by decide +kernel) (by decide) (by decide)
  · cases hS
    exact w_callS (mX7_isMan l) eX7_isMan.1 (by decide +kernel) eX7_isMan.2.1 eX7_isMan.2.2 (by decide +kernel) (by decide) (by decide)
  · cases hS
theorem mX7_yards (l : Launch) : w_Met l yX7_yards cX7_yards 4 (some .int) 3 shX rfX 43 sX7_yards.2.2.2.1 sX7_yards.2.2.2.2 :=
  w_meth (o := 7) (Γ := gX7_yards) (tb := tX7_yards) (by decide +kernel) rfl kX7_yards rfl (zX7_yards l) (fun as μ h => by obtain ⟨x, y, rfl, h⟩ := h; exact Nat.le_of_ble_eq_true rfl) (fun as μ h K hK => by obtain ⟨x, y, rfl, h⟩ := h; exact vX7_yards x y μ h K hK)
set_option maxRecDepth 100000 in
theorem eX7_yards : Cond.code yX7_yards cX7_yards 4 (some .int) ∈ w_tbl ∧ Cond.instanceMethod yX7_yards ∈ w_tbl ∧ Cond.selects (w_C 7) yX7_yards yX7_yards ∈ w_tbl ∧ Cond.initialized yX7_yards.cls ∈ w_tbl := ⟨by decide +kernel, by decide +kernel, by decide +kernel, by decide +kernel⟩
theorem rX7_yards : ∀ as μ, sX7_yards.2.2.2.1 as μ → ∃ q as', as = .ref q :: as' ∧ q < 43 ∧ shX q = .inl 7 := by
  intro as μ h
  obtain ⟨x, y, rfl, h⟩ := h
  exact ⟨_, _, rfl, by decide, rfl⟩

def fX7_entry (e : Int32) (x : Int32) (a : Int32) (b : Int32) (μ : wM) : Int32 × wM := (if (w_hasB (μ 1 1) e) = true then (if (w_tk (μ (Int32.toNatClampNeg e + 27) 1) (μ (Int32.toNatClampNeg e + 27) 4) x a b) = true then (if (decide (160 < μ 2 5 + 1)) = true then ((-3), μ) else ((μ 2 5), (w_up (w_up (w_up (w_up (w_up (w_up μ 14 (μ 2 5).toNatClampNeg e) 15 (μ 2 5).toNatClampNeg x) 16 (μ 2 5).toNatClampNeg a) 17 (μ 2 5).toNatClampNeg b) 18 (μ 2 5).toNatClampNeg (μ 7 (x : Int32).toNatClampNeg)) 2 5 (μ 2 5 + 1)))) else ((-1), μ)) else ((-1), μ))
/-! X7_entry -/
def pX7_entry (e : Int32) (x : Int32) (a : Int32) (b : Int32) (μ : wM) : Prop := w_IX μ
def qX7_entry (e : Int32) (x : Int32) (a : Int32) (b : Int32) (μ : wM) (r : Int32) (μ' : wM) : Prop := r = (fX7_entry e x a b μ).1 ∧ μ' = (fX7_entry e x a b μ).2
def sX7_entry : wS := (false, false, 5, fun as μ => ∃ e, ∃ x, ∃ a, ∃ b, as = [.ref 0, .int e, .int x, .int a, .int b] ∧ pX7_entry e x a b μ, fun as μ r μ' => match as with
  | [.ref _, .int e, .int x, .int a, .int b] => qX7_entry e x a b μ r μ'
  | _ => False)
def gX7_entry : Nat → Option wS := fun k => match k with
  | 67 => some sX3_has
  | 141 => some sX1_takes
  | 144 => some sX2_isFullFor
  | 147 => some sX2_add
  | _ => none
def uX7_entry : Nat → Option (List Nat) := fun _ => none
set_option maxHeartbeats 4000000 in
set_option maxRecDepth 100000 in
theorem vcX7_entry_0 (K : wK) (R : Int32 → wM → Prop) (e : Int32) (x : Int32) (a : Int32) (b : Int32) (μ : wM) (h : (
    ((w_hasB (μ 1 1) e) = false → R (-1) μ) ∧
    ((w_hasB (μ 1 1) e) = true → (vp_in e 8) ∧ pX1_takes (Int32.toNatClampNeg e + 27) x a b μ ∧ (
      ((w_tk (μ (Int32.toNatClampNeg e + 27) 1) (μ (Int32.toNatClampNeg e + 27) 4) x a b) = false → R (-1) μ) ∧
      ((w_tk (μ (Int32.toNatClampNeg e + 27) 1) (μ (Int32.toNatClampNeg e + 27) 4) x a b) = true → (
        ((decide (160 < μ 2 5 + 1)) = false → (vp_in x 10) ∧ pX2_add e x a b (μ 7 (x : Int32).toNatClampNeg) μ ∧ R (μ 2 5) (w_up (w_up (w_up (w_up (w_up (w_up μ 14 (μ 2 5).toNatClampNeg e) 15 (μ 2 5).toNatClampNeg x) 16 (μ 2 5).toNatClampNeg a) 17 (μ 2 5).toNatClampNeg b) 18 (μ 2 5).toNatClampNeg (μ 7 (x : Int32).toNatClampNeg)) 2 5 (μ 2 5 + 1))) ∧
        ((decide (160 < μ 2 5 + 1)) = true → R (-3) μ))))))) : w_n 7 gX7_entry shX rfX 43 (some .int) R tX7_entry uX7_entry K 33 0 [some (.ref 0), some (.int e), some (.int x), some (.int a), some (.int b)] [] μ :=
  And.intro (And.intro (of_decide_eq_true rfl) rfl) (And.intro (Exists.intro _ (And.intro rfl (trivial))) (fun _ _ z911 => by obtain ⟨z909, z910⟩ := z911; have z909 := z909.symm; have z910 := z910.symm; subst z909; subst z910; exact And.intro (fun z912 => And.intro trivial ((h.1 (w_B01_0.mp z912)))) (fun z913 => And.intro (And.intro (of_decide_eq_true rfl) rfl) (And.intro (And.intro (of_decide_eq_true rfl) rfl) (And.intro (Or.inl (And.intro (of_decide_eq_true rfl) (Exists.intro _ (And.intro rfl ((h.2 (w_B01_n.mp z913)).1))))) (And.intro (Exists.intro _ (Exists.intro _ (Exists.intro _ (Exists.intro _ (And.intro rfl ((h.2 (w_B01_n.mp z913)).2.1)))))) (fun _ _ z916 => by obtain ⟨z914, z915⟩ := z916; have z914 := z914.symm; have z915 := z915.symm; subst z914; subst z915; exact And.intro (fun z917 => And.intro trivial (((h.2 (w_B01_n.mp z913)).2.2.1 (w_B01_0.mp z917)))) (fun z918 => And.intro (And.intro (of_decide_eq_true rfl) rfl) (And.intro (Exists.intro _ (And.intro rfl (trivial))) (fun _ _ z921 => by obtain ⟨z919, z920⟩ := z921; have z919 := z919.symm; have z920 := z920.symm; subst z919; subst z920; exact And.intro (fun z922 => And.intro (And.intro (of_decide_eq_true rfl) rfl) (And.intro (And.intro (of_decide_eq_true rfl) rfl) (And.intro (And.intro (of_decide_eq_true rfl) (Exists.intro _ (And.intro rfl ((((h.2 (w_B01_n.mp z913)).2.2.2 (w_B01_n.mp z918)).1 (w_B01_0.mp z922)).1)))) (And.intro (Exists.intro _ (Exists.intro _ (Exists.intro _ (Exists.intro _ (Exists.intro _ (And.intro rfl ((((h.2 (w_B01_n.mp z913)).2.2.2 (w_B01_n.mp z918)).1 (w_B01_0.mp z922)).2.1))))))) (fun _ _ z926 => by obtain ⟨z924, z925⟩ := z926; have z924 := z924.symm; have z925 := z925.symm; subst z924; subst z925; exact And.intro trivial ((((h.2 (w_B01_n.mp z913)).2.2.2 (w_B01_n.mp z918)).1 (w_B01_0.mp z922)).2.2)))))) (fun z923 => And.intro trivial ((((h.2 (w_B01_n.mp z913)).2.2.2 (w_B01_n.mp z918)).2 (w_B01_n.mp z923))))))))))))))
set_option maxHeartbeats 4000000 in
theorem vX7_entry (e : Int32) (x : Int32) (a : Int32) (b : Int32) (μ : wM) (h : pX7_entry e x a b μ) (K : wK) (hK : w_cl 7 gX7_entry shX rfX 43 (some .int) (qX7_entry e x a b μ) tX7_entry K) : K 0 [some (.ref 0), some (.int e), some (.int x), some (.int a), some (.int b)] [] μ := by
  refine hK uX7_entry 33 _ _ _ _ (vcX7_entry_0 K _ e x a b μ ?_)
  clear hK
  unfold pX7_entry at h
  unfold w_IX at h
  refine And.intro (fun z27 => ?_) (fun z27 => ?_)
  · unfold qX7_entry fX7_entry
    rw [if_neg (by rw [z27]; exact Bool.false_ne_true)]
    exact ⟨rfl, rfl⟩
  · refine And.intro (by first | exact tk9 (by assumption) | exact has_in h.1 (by assumption) | exact in9 (by assumption) | exact in3 (by assumption) | exact in2 (by assumption) | exact nfull_in h.1 (by assumption) | exact nfull2_in h.2.1 (by assumption) | exact evp (has_in h.1 (by assumption)) | exact h.2.1 | (simp_all; done)) ?_
    refine And.intro (by first | exact tk9 (by assumption) | exact has_in h.1 (by assumption) | exact in9 (by assumption) | exact in3 (by assumption) | exact in2 (by assumption) | exact nfull_in h.1 (by assumption) | exact nfull2_in h.2.1 (by assumption) | exact evp (has_in h.1 (by assumption)) | exact h.2.1 | (simp_all; done)) ?_
    refine And.intro (fun z28 => ?_) (fun z28 => ?_)
    · unfold qX7_entry fX7_entry
      rw [if_pos z27, if_neg (by rw [z28]; exact Bool.false_ne_true)]
      exact ⟨rfl, rfl⟩
    · refine And.intro (fun z29 => ?_) (fun z29 => ?_)
      · refine And.intro (by first | exact tk9 (by assumption) | exact has_in h.1 (by assumption) | exact in9 (by assumption) | exact in3 (by assumption) | exact in2 (by assumption) | exact nfull_in h.1 (by assumption) | exact nfull2_in h.2.1 (by assumption) | exact evp (has_in h.1 (by assumption)) | exact h.2.1 | (simp_all; done)) ?_
        refine And.intro (by first | exact tk9 (by assumption) | exact has_in h.1 (by assumption) | exact in9 (by assumption) | exact in3 (by assumption) | exact in2 (by assumption) | exact nfull_in h.1 (by assumption) | exact nfull2_in h.2.1 (by assumption) | exact evp (has_in h.1 (by assumption)) | exact h.2.1 | (simp_all; done)) ?_
        unfold qX7_entry fX7_entry
        rw [if_pos z27, if_pos z28, if_neg (by rw [z29]; exact Bool.false_ne_true)]
        exact ⟨rfl, rfl⟩
      · unfold qX7_entry fX7_entry
        rw [if_pos z27, if_pos z28, if_pos z29]
        exact ⟨rfl, rfl⟩
set_option maxRecDepth 100000 in
theorem zX7_entry (l : Launch) : ∀ (idx : Nat) (S : wS), gX7_entry idx = some S → w_Call l 7 idx S 4 shX rfX 43 := by
  intro idx S hS
  unfold gX7_entry at hS
  split at hS
  · cases hS
    exact w_callV (ci := 3) (mX3_has l) (by decide) rX3_has eX3_has.1 (by decide +kernel) eX3_has.2.1 eX3_has.2.2.1 eX3_has.2.2.2 (by decide +kernel) (by decide) (by decide)
  · cases hS
    exact w_callV (ci := 1) (mX1_takes l) (by decide) rX1_takes eX1_takes.1 (by decide +kernel) eX1_takes.2.1 eX1_takes.2.2.1 eX1_takes.2.2.2 (by decide +kernel) (by decide) (by decide)
  · cases hS
    exact w_callV (ci := 2) (mX2_isFullFor l) (by decide) rX2_isFullFor eX2_isFullFor.1 (by decide +kernel) eX2_isFullFor.2.1 eX2_isFullFor.2.2.1 eX2_isFullFor.2.2.2 (by decide +kernel) (by decide) (by decide)
  · cases hS
    exact w_callV (ci := 2) (mX2_add l) (by decide) rX2_add eX2_add.1 (by decide +kernel) eX2_add.2.1 eX2_add.2.2.1 eX2_add.2.2.2 (by decide +kernel) (by decide) (by decide)
  · cases hS
theorem mX7_entry (l : Launch) : w_Met l yX7_entry cX7_entry 5 (some .int) 4 shX rfX 43 sX7_entry.2.2.2.1 sX7_entry.2.2.2.2 :=
  w_meth (o := 7) (Γ := gX7_entry) (tb := tX7_entry) (by decide +kernel) rfl kX7_entry rfl (zX7_entry l) (fun as μ h => by obtain ⟨e, x, a, b, rfl, h⟩ := h; exact Nat.le_of_ble_eq_true rfl) (fun as μ h K hK => by obtain ⟨e, x, a, b, rfl, h⟩ := h; exact vX7_entry e x a b μ h K hK)
set_option maxRecDepth 100000 in
theorem eX7_entry : Cond.code yX7_entry cX7_entry 5 (some .int) ∈ w_tbl ∧ Cond.instanceMethod yX7_entry ∈ w_tbl ∧ Cond.selects (w_C 7) yX7_entry yX7_entry ∈ w_tbl ∧ Cond.initialized yX7_entry.cls ∈ w_tbl := ⟨by decide +kernel, by decide +kernel, by decide +kernel, by decide +kernel⟩
theorem rX7_entry : ∀ as μ, sX7_entry.2.2.2.1 as μ → ∃ q as', as = .ref q :: as' ∧ q < 43 ∧ shX q = .inl 7 := by
  intro as μ h
  obtain ⟨e, x, a, b, rfl, h⟩ := h
  exact ⟨_, _, rfl, by decide, rfl⟩

def fX7_fail (e : Int32) (i : Int32) (μ : wM) : Int32 × wM := (if (w_hasB (μ 1 1) e) = true then (if (((μ (Int32.toNatClampNeg e + 27) 6) : Int32) = 0) then (0, (w_up μ (Int32.toNatClampNeg e + 27) 6 i)) else (1, (w_up μ (Int32.toNatClampNeg e + 27) 6 i))) else ((-1), μ))
/-! X7_fail -/
def pX7_fail (e : Int32) (i : Int32) (μ : wM) : Prop := w_IX μ ∧ w_bit i
def qX7_fail (e : Int32) (i : Int32) (μ : wM) (r : Int32) (μ' : wM) : Prop := r = (fX7_fail e i μ).1 ∧ μ' = (fX7_fail e i μ).2
def sX7_fail : wS := (false, false, 3, fun as μ => ∃ e, ∃ i, as = [.ref 0, .int e, .int i] ∧ pX7_fail e i μ, fun as μ r μ' => match as with
  | [.ref _, .int e, .int i] => qX7_fail e i μ r μ'
  | _ => False)
def gX7_fail : Nat → Option wS := fun k => match k with
  | 67 => some sX3_has
  | _ => none
def uX7_fail : Nat → Option (List Nat) := fun _ => none
set_option maxHeartbeats 4000000 in
set_option maxRecDepth 100000 in
theorem vcX7_fail_0 (K : wK) (R : Int32 → wM → Prop) (e : Int32) (i : Int32) (μ : wM) (h : (
    ((w_hasB (μ 1 1) e) = false → R (-1) μ) ∧
    ((w_hasB (μ 1 1) e) = true → (vp_in e 8) ∧ (
      ((((μ (Int32.toNatClampNeg e + 27) 6) : Int32) = 0) → (w_bit i) ∧ R 0 (w_up μ (Int32.toNatClampNeg e + 27) 6 i)) ∧
      (¬ (((μ (Int32.toNatClampNeg e + 27) 6) : Int32) = 0) → (w_bit i) ∧ R 1 (w_up μ (Int32.toNatClampNeg e + 27) 6 i)))))) : w_n 7 gX7_fail shX rfX 43 (some .int) R tX7_fail uX7_fail K 25 0 [some (.ref 0), some (.int e), some (.int i), none] [] μ :=
  And.intro (And.intro (of_decide_eq_true rfl) rfl) (And.intro (Exists.intro _ (And.intro rfl (trivial))) (fun _ _ z936 => by obtain ⟨z934, z935⟩ := z936; have z934 := z934.symm; have z935 := z935.symm; subst z934; subst z935; exact And.intro (fun z937 => And.intro trivial ((h.1 (w_B01_0.mp z937)))) (fun z938 => And.intro (And.intro (of_decide_eq_true rfl) rfl) (And.intro (And.intro (of_decide_eq_true rfl) rfl) (And.intro (Or.inl (And.intro (of_decide_eq_true rfl) (Exists.intro _ (And.intro rfl ((h.2 (w_B01_n.mp z938)).1))))) (And.intro (ev_ok ((h.2 (w_B01_n.mp z938)).1)) (And.intro (fun z939 => And.intro (And.intro (of_decide_eq_true rfl) rfl) (And.intro (And.intro (of_decide_eq_true rfl) rfl) (And.intro (Or.inl (And.intro (of_decide_eq_true rfl) (Exists.intro _ (And.intro rfl ((h.2 (w_B01_n.mp z938)).1))))) (And.intro (And.intro (ev_ok ((h.2 (w_B01_n.mp z938)).1)).1 (And.intro (ev_ok ((h.2 (w_B01_n.mp z938)).1)).2 ((((h.2 (w_B01_n.mp z938)).2.1 z939).1)))) (And.intro trivial (((h.2 (w_B01_n.mp z938)).2.1 z939).2)))))) (fun z940 => And.intro (And.intro (of_decide_eq_true rfl) rfl) (And.intro (And.intro (of_decide_eq_true rfl) rfl) (And.intro (Or.inl (And.intro (of_decide_eq_true rfl) (Exists.intro _ (And.intro rfl ((h.2 (w_B01_n.mp z938)).1))))) (And.intro (And.intro (ev_ok ((h.2 (w_B01_n.mp z938)).1)).1 (And.intro (ev_ok ((h.2 (w_B01_n.mp z938)).1)).2 ((((h.2 (w_B01_n.mp z938)).2.2 z940).1)))) (And.intro trivial (((h.2 (w_B01_n.mp z938)).2.2 z940).2)))))))))))))
set_option maxHeartbeats 4000000 in
theorem vX7_fail (e : Int32) (i : Int32) (μ : wM) (h : pX7_fail e i μ) (K : wK) (hK : w_cl 7 gX7_fail shX rfX 43 (some .int) (qX7_fail e i μ) tX7_fail K) : K 0 [some (.ref 0), some (.int e), some (.int i), none] [] μ := by
  refine hK uX7_fail 25 _ _ _ _ (vcX7_fail_0 K _ e i μ ?_)
  clear hK
  unfold pX7_fail at h
  unfold w_IX at h
  refine And.intro (fun z30 => ?_) (fun z30 => ?_)
  · unfold qX7_fail fX7_fail
    rw [if_neg (by rw [z30]; exact Bool.false_ne_true)]
    exact ⟨rfl, rfl⟩
  · refine And.intro (by first | exact tk9 (by assumption) | exact has_in h.1.1 (by assumption) | exact in9 (by assumption) | exact in3 (by assumption) | exact in2 (by assumption) | exact nfull_in h.1.1 (by assumption) | exact nfull2_in h.1.2.1 (by assumption) | exact evp (has_in h.1.1 (by assumption)) | exact h.1.2.1 | (simp_all; done)) ?_
    refine And.intro (fun z31 => ?_) (fun z31 => ?_)
    · refine And.intro (by first | exact tk9 (by assumption) | exact has_in h.1.1 (by assumption) | exact in9 (by assumption) | exact in3 (by assumption) | exact in2 (by assumption) | exact nfull_in h.1.1 (by assumption) | exact nfull2_in h.1.2.1 (by assumption) | exact evp (has_in h.1.1 (by assumption)) | exact h.1.2.1 | (simp_all; done)) ?_
      unfold qX7_fail fX7_fail
      rw [if_pos z30, if_pos z31]
      exact ⟨rfl, rfl⟩
    · refine And.intro (by first | exact tk9 (by assumption) | exact has_in h.1.1 (by assumption) | exact in9 (by assumption) | exact in3 (by assumption) | exact in2 (by assumption) | exact nfull_in h.1.1 (by assumption) | exact nfull2_in h.1.2.1 (by assumption) | exact evp (has_in h.1.1 (by assumption)) | exact h.1.2.1 | (simp_all; done)) ?_
      unfold qX7_fail fX7_fail
      rw [if_pos z30, if_neg z31]
      exact ⟨rfl, rfl⟩
set_option maxRecDepth 100000 in
theorem zX7_fail (l : Launch) : ∀ (idx : Nat) (S : wS), gX7_fail idx = some S → w_Call l 7 idx S 2 shX rfX 43 := by
  intro idx S hS
  unfold gX7_fail at hS
  split at hS
  · cases hS
    exact w_callV (ci := 3) (mX3_has l) (by decide) rX3_has eX3_has.1 (by decide +kernel) eX3_has.2.1 eX3_has.2.2.1 eX3_has.2.2.2 (by decide +kernel) (by decide) (by decide)
  · cases hS
theorem mX7_fail (l : Launch) : w_Met l yX7_fail cX7_fail 4 (some .int) 2 shX rfX 43 sX7_fail.2.2.2.1 sX7_fail.2.2.2.2 :=
  w_meth (o := 7) (Γ := gX7_fail) (tb := tX7_fail) (by decide +kernel) rfl kX7_fail rfl (zX7_fail l) (fun as μ h => by obtain ⟨e, i, rfl, h⟩ := h; exact Nat.le_of_ble_eq_true rfl) (fun as μ h K hK => by obtain ⟨e, i, rfl, h⟩ := h; exact vX7_fail e i μ h K hK)
set_option maxRecDepth 100000 in
theorem eX7_fail : Cond.code yX7_fail cX7_fail 4 (some .int) ∈ w_tbl ∧ Cond.instanceMethod yX7_fail ∈ w_tbl ∧ Cond.selects (w_C 7) yX7_fail yX7_fail ∈ w_tbl ∧ Cond.initialized yX7_fail.cls ∈ w_tbl := ⟨by decide +kernel, by decide +kernel, by decide +kernel, by decide +kernel⟩
theorem rX7_fail : ∀ as μ, sX7_fail.2.2.2.1 as μ → ∃ q as', as = .ref q :: as' ∧ q < 43 ∧ shX q = .inl 7 := by
  intro as μ h
  obtain ⟨e, i, rfl, h⟩ := h
  exact ⟨_, _, rfl, by decide, rfl⟩

def fX7_purse (e : Int32) (p : Int32) (μ : wM) : Int32 × wM := (if (w_hasB (μ 1 1) e) = true then (if (w_inB p 0 100000) = true then ((μ (Int32.toNatClampNeg e + 27) 5), (w_up μ (Int32.toNatClampNeg e + 27) 5 p)) else ((-1), μ)) else ((-1), μ))
/-! X7_purse -/
def pX7_purse (e : Int32) (p : Int32) (μ : wM) : Prop := w_IX μ
def qX7_purse (e : Int32) (p : Int32) (μ : wM) (r : Int32) (μ' : wM) : Prop := r = (fX7_purse e p μ).1 ∧ μ' = (fX7_purse e p μ).2
def sX7_purse : wS := (false, false, 3, fun as μ => ∃ e, ∃ p, as = [.ref 0, .int e, .int p] ∧ pX7_purse e p μ, fun as μ r μ' => match as with
  | [.ref _, .int e, .int p] => qX7_purse e p μ r μ'
  | _ => False)
def gX7_purse : Nat → Option wS := fun k => match k with
  | 55 => some sX7_within
  | 67 => some sX3_has
  | _ => none
def uX7_purse : Nat → Option (List Nat) := fun _ => none
set_option maxHeartbeats 4000000 in
set_option maxRecDepth 100000 in
theorem vcX7_purse_0 (K : wK) (R : Int32 → wM → Prop) (e : Int32) (p : Int32) (μ : wM) (h : (
    ((w_hasB (μ 1 1) e) = false → R (-1) μ) ∧
    ((w_hasB (μ 1 1) e) = true → (
      ((w_inB p 0 100000) = false → R (-1) μ) ∧
      ((w_inB p 0 100000) = true → (vp_in e 8) ∧ R (μ (Int32.toNatClampNeg e + 27) 5) (w_up μ (Int32.toNatClampNeg e + 27) 5 p)))))) : w_n 7 gX7_purse shX rfX 43 (some .int) R tX7_purse uX7_purse K 27 0 [some (.ref 0), some (.int e), some (.int p), none] [] μ :=
  And.intro (And.intro (of_decide_eq_true rfl) rfl) (And.intro (Exists.intro _ (And.intro rfl (trivial))) (fun _ _ z953 => by obtain ⟨z951, z952⟩ := z953; have z951 := z951.symm; have z952 := z952.symm; subst z951; subst z952; exact And.intro (fun z954 => And.intro trivial ((h.1 (w_B01_0.mp z954)))) (fun z955 => And.intro (Exists.intro _ (Exists.intro _ (Exists.intro _ (And.intro rfl (trivial))))) (fun _ _ z958 => by obtain ⟨z956, z957⟩ := z958; have z956 := z956.symm; have z957 := z957.symm; subst z956; subst z957; exact And.intro (fun z959 => And.intro trivial (((h.2 (w_B01_n.mp z955)).1 (w_B01_0.mp z959)))) (fun z960 => And.intro (And.intro (of_decide_eq_true rfl) rfl) (And.intro (And.intro (of_decide_eq_true rfl) rfl) (And.intro (Or.inl (And.intro (of_decide_eq_true rfl) (Exists.intro _ (And.intro rfl (((h.2 (w_B01_n.mp z955)).2 (w_B01_n.mp z960)).1))))) (And.intro (ev_ok (((h.2 (w_B01_n.mp z955)).2 (w_B01_n.mp z960)).1)) (And.intro (And.intro (of_decide_eq_true rfl) rfl) (And.intro (And.intro (of_decide_eq_true rfl) rfl) (And.intro (Or.inl (And.intro (of_decide_eq_true rfl) (Exists.intro _ (And.intro rfl (((h.2 (w_B01_n.mp z955)).2 (w_B01_n.mp z960)).1))))) (And.intro (And.intro (ev_ok (((h.2 (w_B01_n.mp z955)).2 (w_B01_n.mp z960)).1)).1 (And.intro (ev_ok (((h.2 (w_B01_n.mp z955)).2 (w_B01_n.mp z960)).1)).2 (trivial))) (And.intro trivial (((h.2 (w_B01_n.mp z955)).2 (w_B01_n.mp z960)).2))))))))))))))
set_option maxHeartbeats 4000000 in
theorem vX7_purse (e : Int32) (p : Int32) (μ : wM) (h : pX7_purse e p μ) (K : wK) (hK : w_cl 7 gX7_purse shX rfX 43 (some .int) (qX7_purse e p μ) tX7_purse K) : K 0 [some (.ref 0), some (.int e), some (.int p), none] [] μ := by
  refine hK uX7_purse 27 _ _ _ _ (vcX7_purse_0 K _ e p μ ?_)
  clear hK
  unfold pX7_purse at h
  unfold w_IX at h
  refine And.intro (fun z32 => ?_) (fun z32 => ?_)
  · unfold qX7_purse fX7_purse
    rw [if_neg (by rw [z32]; exact Bool.false_ne_true)]
    exact ⟨rfl, rfl⟩
  · refine And.intro (fun z33 => ?_) (fun z33 => ?_)
    · unfold qX7_purse fX7_purse
      rw [if_pos z32, if_neg (by rw [z33]; exact Bool.false_ne_true)]
      exact ⟨rfl, rfl⟩
    · refine And.intro (by first | exact tk9 (by assumption) | exact has_in h.1 (by assumption) | exact in9 (by assumption) | exact in3 (by assumption) | exact in2 (by assumption) | exact nfull_in h.1 (by assumption) | exact nfull2_in h.2.1 (by assumption) | exact evp (has_in h.1 (by assumption)) | exact h.2.1 | (simp_all; done)) ?_
      unfold qX7_purse fX7_purse
      rw [if_pos z32, if_pos z33]
      exact ⟨rfl, rfl⟩
set_option maxRecDepth 100000 in
theorem zX7_purse (l : Launch) : ∀ (idx : Nat) (S : wS), gX7_purse idx = some S → w_Call l 7 idx S 2 shX rfX 43 := by
  intro idx S hS
  unfold gX7_purse at hS
  split at hS
  · cases hS
    exact w_callS (mX7_within l) eX7_within.1 (by decide +kernel) eX7_within.2.1 eX7_within.2.2 (by decide +kernel) (by decide) (by decide)
  · cases hS
    exact w_callV (ci := 3) (mX3_has l) (by decide) rX3_has eX3_has.1 (by decide +kernel) eX3_has.2.1 eX3_has.2.2.1 eX3_has.2.2.2 (by decide +kernel) (by decide) (by decide)
  · cases hS
theorem mX7_purse (l : Launch) : w_Met l yX7_purse cX7_purse 4 (some .int) 2 shX rfX 43 sX7_purse.2.2.2.1 sX7_purse.2.2.2.2 :=
  w_meth (o := 7) (Γ := gX7_purse) (tb := tX7_purse) (by decide +kernel) rfl kX7_purse rfl (zX7_purse l) (fun as μ h => by obtain ⟨e, p, rfl, h⟩ := h; exact Nat.le_of_ble_eq_true rfl) (fun as μ h K hK => by obtain ⟨e, p, rfl, h⟩ := h; exact vX7_purse e p μ h K hK)
set_option maxRecDepth 100000 in
theorem eX7_purse : Cond.code yX7_purse cX7_purse 4 (some .int) ∈ w_tbl ∧ Cond.instanceMethod yX7_purse ∈ w_tbl ∧ Cond.selects (w_C 7) yX7_purse yX7_purse ∈ w_tbl ∧ Cond.initialized yX7_purse.cls ∈ w_tbl := ⟨by decide +kernel, by decide +kernel, by decide +kernel, by decide +kernel⟩
theorem rX7_purse : ∀ as μ, sX7_purse.2.2.2.1 as μ → ∃ q as', as = .ref q :: as' ∧ q < 43 ∧ shX q = .inl 7 := by
  intro as μ h
  obtain ⟨e, p, rfl, h⟩ := h
  exact ⟨_, _, rfl, by decide, rfl⟩
end
section
/-! X8_in -/
def pX8_in (a : Int32) (b : Int32) (c : Int32) (μ : wM) : Prop := True
def qX8_in (a : Int32) (b : Int32) (c : Int32) (μ : wM) (r : Int32) (μ' : wM) : Prop := r = (w_B01 (w_inB a b c)) ∧ μ' = μ
def sX8_in : wS := (true, false, 3, fun as μ => ∃ a, ∃ b, ∃ c, as = [.int a, .int b, .int c] ∧ pX8_in a b c μ, fun as μ r μ' => match as with
  | [.int a, .int b, .int c] => qX8_in a b c μ r μ'
  | _ => False)
def gX8_in : Nat → Option wS := fun k => match k with
  | _ => none
def uX8_in : Nat → Option (List Nat) := fun _ => none
set_option maxHeartbeats 4000000 in
set_option maxRecDepth 100000 in
theorem vcX8_in_0 (K : wK) (R : Int32 → wM → Prop) (a : Int32) (b : Int32) (c : Int32) (μ : wM) (h : (
    (((a : Int32) < b) → R 0 μ) ∧
    (¬ ((a : Int32) < b) → (
      (((c : Int32) < a) → R 0 μ) ∧
      (¬ ((c : Int32) < a) → R 1 μ))))) : w_n 8 gX8_in shM rfM 32 (some .boolean) R tX8_in uX8_in K 10 0 [some (.int a), some (.int b), some (.int c)] [] μ :=
  And.intro (fun z1235 => And.intro (Or.inl rfl) ((h.1 z1235))) (fun z1236 => And.intro (fun z1237 => And.intro (Or.inl rfl) (((h.2 z1236).1 z1237))) (fun z1238 => And.intro (Or.inr rfl) (((h.2 z1236).2 z1238))))
set_option maxHeartbeats 4000000 in
theorem vX8_in (a : Int32) (b : Int32) (c : Int32) (μ : wM) (h : pX8_in a b c μ) (K : wK) (hK : w_cl 8 gX8_in shM rfM 32 (some .boolean) (qX8_in a b c μ) tX8_in K) : K 0 [some (.int a), some (.int b), some (.int c)] [] μ := by
  refine hK uX8_in 10 _ _ _ _ (vcX8_in_0 K _ a b c μ ?_)
  clear hK
  unfold pX8_in at h
  unfold qX8_in
  refine ⟨fun c1 => ⟨w_B01_f ?_, rfl⟩, fun c1 => ⟨fun c2 => ⟨w_B01_f ?_, rfl⟩, fun c2 => ⟨w_B01_t ?_, rfl⟩⟩⟩
  · rw [w_inB_t]; intro z; exact i_nle.mpr c1 z.1
  · rw [w_inB_t]; intro z; exact i_nle.mpr c2 z.2
  · rw [w_inB_t]; exact ⟨i_nlt.mp c1, i_nlt.mp c2⟩
set_option maxRecDepth 100000 in
theorem zX8_in (l : Launch) : ∀ (idx : Nat) (S : wS), gX8_in idx = some S → w_Call l 8 idx S 1 shM rfM 32 := by
  intro idx S hS
  unfold gX8_in at hS
  split at hS
  · cases hS
theorem mX8_in (l : Launch) : w_Met l yX8_in cX8_in 3 (some .boolean) 1 shM rfM 32 sX8_in.2.2.2.1 sX8_in.2.2.2.2 :=
  w_meth (o := 8) (Γ := gX8_in) (tb := tX8_in) (by decide +kernel) rfl kX8_in rfl (zX8_in l) (fun as μ h => by obtain ⟨a, b, c, rfl, h⟩ := h; exact Nat.le_of_ble_eq_true rfl) (fun as μ h K hK => by obtain ⟨a, b, c, rfl, h⟩ := h; exact vX8_in a b c μ h K hK)
set_option maxRecDepth 100000 in
theorem eX8_in : Cond.code yX8_in cX8_in 3 (some .boolean) ∈ w_tbl ∧ Cond.static yX8_in ∈ w_tbl ∧ Cond.initialized yX8_in.cls ∈ w_tbl := ⟨by decide +kernel, by decide +kernel, by decide +kernel⟩

/-! X8_isMan -/
def pX8_isMan (a : Int32) (μ : wM) : Prop := True
def qX8_isMan (a : Int32) (μ : wM) (r : Int32) (μ' : wM) : Prop := r = (w_B01 (w_inB a 0 9)) ∧ μ' = μ
def sX8_isMan : wS := (true, false, 1, fun as μ => ∃ a, as = [.int a] ∧ pX8_isMan a μ, fun as μ r μ' => match as with
  | [.int a] => qX8_isMan a μ r μ'
  | _ => False)
def gX8_isMan : Nat → Option wS := fun k => match k with
  | 1 => some sX8_in
  | _ => none
def uX8_isMan : Nat → Option (List Nat) := fun _ => none
set_option maxHeartbeats 4000000 in
set_option maxRecDepth 100000 in
theorem vcX8_isMan_0 (K : wK) (R : Int32 → wM → Prop) (a : Int32) (μ : wM) (h : R (w_B01 (w_inB a 0 9)) μ) : w_n 8 gX8_isMan shM rfM 32 (some .boolean) R tX8_isMan uX8_isMan K 6 0 [some (.int a)] [] μ :=
  And.intro (Exists.intro _ (Exists.intro _ (Exists.intro _ (And.intro rfl (trivial))))) (fun _ _ z1244 => by obtain ⟨z1242, z1243⟩ := z1244; have z1242 := z1242.symm; have z1243 := z1243.symm; subst z1242; subst z1243; exact And.intro (w_B01_bit _) (h))
set_option maxHeartbeats 4000000 in
theorem vX8_isMan (a : Int32) (μ : wM) (h : pX8_isMan a μ) (K : wK) (hK : w_cl 8 gX8_isMan shM rfM 32 (some .boolean) (qX8_isMan a μ) tX8_isMan K) : K 0 [some (.int a)] [] μ := by
  refine hK uX8_isMan 6 _ _ _ _ (vcX8_isMan_0 K _ a μ ?_)
  clear hK
  unfold pX8_isMan at h
  unfold qX8_isMan
  exact ⟨rfl, rfl⟩
set_option maxRecDepth 100000 in
theorem zX8_isMan (l : Launch) : ∀ (idx : Nat) (S : wS), gX8_isMan idx = some S → w_Call l 8 idx S 2 shM rfM 32 := by
  intro idx S hS
  unfold gX8_isMan at hS
  split at hS
  · cases hS
    exact w_callS (mX8_in l) eX8_in.1 (by decide +kernel) eX8_in.2.1 eX8_in.2.2 (by decide +kernel) (by decide) (by decide)
  · cases hS
theorem mX8_isMan (l : Launch) : w_Met l yX8_isMan cX8_isMan 1 (some .boolean) 2 shM rfM 32 sX8_isMan.2.2.2.1 sX8_isMan.2.2.2.2 :=
  w_meth (o := 8) (Γ := gX8_isMan) (tb := tX8_isMan) (by decide +kernel) rfl kX8_isMan rfl (zX8_isMan l) (fun as μ h => by obtain ⟨a, rfl, h⟩ := h; exact Nat.le_of_ble_eq_true rfl) (fun as μ h K hK => by obtain ⟨a, rfl, h⟩ := h; exact vX8_isMan a μ h K hK)
set_option maxRecDepth 100000 in
theorem eX8_isMan : Cond.code yX8_isMan cX8_isMan 1 (some .boolean) ∈ w_tbl ∧ Cond.static yX8_isMan ∈ w_tbl ∧ Cond.initialized yX8_isMan.cls ∈ w_tbl := ⟨by decide +kernel, by decide +kernel, by decide +kernel⟩

/-! X8_isSheet -/
def pX8_isSheet (a : Int32) (μ : wM) : Prop := True
def qX8_isSheet (a : Int32) (μ : wM) (r : Int32) (μ' : wM) : Prop := r = (w_B01 (w_inB a 0 3)) ∧ μ' = μ
def sX8_isSheet : wS := (true, false, 1, fun as μ => ∃ a, as = [.int a] ∧ pX8_isSheet a μ, fun as μ r μ' => match as with
  | [.int a] => qX8_isSheet a μ r μ'
  | _ => False)
def gX8_isSheet : Nat → Option wS := fun k => match k with
  | 1 => some sX8_in
  | _ => none
def uX8_isSheet : Nat → Option (List Nat) := fun _ => none
set_option maxHeartbeats 4000000 in
set_option maxRecDepth 100000 in
theorem vcX8_isSheet_0 (K : wK) (R : Int32 → wM → Prop) (a : Int32) (μ : wM) (h : R (w_B01 (w_inB a 0 3)) μ) : w_n 8 gX8_isSheet shM rfM 32 (some .boolean) R tX8_isSheet uX8_isSheet K 6 0 [some (.int a)] [] μ :=
  And.intro (Exists.intro _ (Exists.intro _ (Exists.intro _ (And.intro rfl (trivial))))) (fun _ _ z1250 => by obtain ⟨z1248, z1249⟩ := z1250; have z1248 := z1248.symm; have z1249 := z1249.symm; subst z1248; subst z1249; exact And.intro (w_B01_bit _) (h))
set_option maxHeartbeats 4000000 in
theorem vX8_isSheet (a : Int32) (μ : wM) (h : pX8_isSheet a μ) (K : wK) (hK : w_cl 8 gX8_isSheet shM rfM 32 (some .boolean) (qX8_isSheet a μ) tX8_isSheet K) : K 0 [some (.int a)] [] μ := by
  refine hK uX8_isSheet 6 _ _ _ _ (vcX8_isSheet_0 K _ a μ ?_)
  clear hK
  unfold pX8_isSheet at h
  unfold qX8_isSheet
  exact ⟨rfl, rfl⟩
set_option maxRecDepth 100000 in
theorem zX8_isSheet (l : Launch) : ∀ (idx : Nat) (S : wS), gX8_isSheet idx = some S → w_Call l 8 idx S 2 shM rfM 32 := by
  intro idx S hS
  unfold gX8_isSheet at hS
  split at hS
  · cases hS
    exact w_callS (mX8_in l) eX8_in.1 (by decide +kernel) eX8_in.2.1 eX8_in.2.2 (by decide +kernel) (by decide) (by decide)
  · cases hS
theorem mX8_isSheet (l : Launch) : w_Met l yX8_isSheet cX8_isSheet 1 (some .boolean) 2 shM rfM 32 sX8_isSheet.2.2.2.1 sX8_isSheet.2.2.2.2 :=
  w_meth (o := 8) (Γ := gX8_isSheet) (tb := tX8_isSheet) (by decide +kernel) rfl kX8_isSheet rfl (zX8_isSheet l) (fun as μ h => by obtain ⟨a, rfl, h⟩ := h; exact Nat.le_of_ble_eq_true rfl) (fun as μ h K hK => by obtain ⟨a, rfl, h⟩ := h; exact vX8_isSheet a μ h K hK)
set_option maxRecDepth 100000 in
theorem eX8_isSheet : Cond.code yX8_isSheet cX8_isSheet 1 (some .boolean) ∈ w_tbl ∧ Cond.static yX8_isSheet ∈ w_tbl ∧ Cond.initialized yX8_isSheet.cls ∈ w_tbl := ⟨by decide +kernel, by decide +kernel, by decide +kernel⟩

/-! X8_isEvent -/
def pX8_isEvent (e : Int32) (μ : wM) : Prop := True
def qX8_isEvent (e : Int32) (μ : wM) (r : Int32) (μ' : wM) : Prop := r = (w_B01 (w_inB e 0 (μ 0 0 - 1))) ∧ μ' = μ
def sX8_isEvent : wS := (false, false, 2, fun as μ => ∃ e, as = [.ref 0, .int e] ∧ pX8_isEvent e μ, fun as μ r μ' => match as with
  | [.ref _, .int e] => qX8_isEvent e μ r μ'
  | _ => False)
def gX8_isEvent : Nat → Option wS := fun k => match k with
  | 1 => some sX8_in
  | _ => none
def uX8_isEvent : Nat → Option (List Nat) := fun _ => none
set_option maxHeartbeats 4000000 in
set_option maxRecDepth 100000 in
theorem vcX8_isEvent_0 (K : wK) (R : Int32 → wM → Prop) (e : Int32) (μ : wM) (h : R (w_B01 (w_inB e 0 ((μ 0 0) - 1))) μ) : w_n 8 gX8_isEvent shM rfM 32 (some .boolean) R tX8_isEvent uX8_isEvent K 9 0 [some (.ref 0), some (.int e)] [] μ :=
  And.intro (And.intro (of_decide_eq_true rfl) rfl) (And.intro (Exists.intro _ (Exists.intro _ (Exists.intro _ (And.intro rfl (trivial))))) (fun _ _ z1256 => by obtain ⟨z1254, z1255⟩ := z1256; have z1254 := z1254.symm; have z1255 := z1255.symm; subst z1254; subst z1255; exact And.intro (w_B01_bit _) (h)))
set_option maxHeartbeats 4000000 in
theorem vX8_isEvent (e : Int32) (μ : wM) (h : pX8_isEvent e μ) (K : wK) (hK : w_cl 8 gX8_isEvent shM rfM 32 (some .boolean) (qX8_isEvent e μ) tX8_isEvent K) : K 0 [some (.ref 0), some (.int e)] [] μ := by
  refine hK uX8_isEvent 9 _ _ _ _ (vcX8_isEvent_0 K _ e μ ?_)
  clear hK
  unfold pX8_isEvent at h
  unfold qX8_isEvent
  exact ⟨rfl, rfl⟩
set_option maxRecDepth 100000 in
theorem zX8_isEvent (l : Launch) : ∀ (idx : Nat) (S : wS), gX8_isEvent idx = some S → w_Call l 8 idx S 2 shM rfM 32 := by
  intro idx S hS
  unfold gX8_isEvent at hS
  split at hS
  · cases hS
    exact w_callS (mX8_in l) eX8_in.1 (by decide +kernel) eX8_in.2.1 eX8_in.2.2 (by decide +kernel) (by decide) (by decide)
  · cases hS
theorem mX8_isEvent (l : Launch) : w_Met l yX8_isEvent cX8_isEvent 2 (some .boolean) 2 shM rfM 32 sX8_isEvent.2.2.2.1 sX8_isEvent.2.2.2.2 :=
  w_meth (o := 8) (Γ := gX8_isEvent) (tb := tX8_isEvent) (by decide +kernel) rfl kX8_isEvent rfl (zX8_isEvent l) (fun as μ h => by obtain ⟨e, rfl, h⟩ := h; exact Nat.le_of_ble_eq_true rfl) (fun as μ h K hK => by obtain ⟨e, rfl, h⟩ := h; exact vX8_isEvent e μ h K hK)
set_option maxRecDepth 100000 in
theorem eX8_isEvent : Cond.code yX8_isEvent cX8_isEvent 2 (some .boolean) ∈ w_tbl ∧ Cond.instanceMethod yX8_isEvent ∈ w_tbl ∧ Cond.selects (w_C 8) yX8_isEvent yX8_isEvent ∈ w_tbl ∧ Cond.initialized yX8_isEvent.cls ∈ w_tbl := ⟨by decide +kernel, by decide +kernel, by decide +kernel, by decide +kernel⟩
theorem rX8_isEvent : ∀ as μ, sX8_isEvent.2.2.2.1 as μ → ∃ q as', as = .ref q :: as' ∧ q < 32 ∧ shM q = .inl 8 := by
  intro as μ h
  obtain ⟨e, rfl, h⟩ := h
  exact ⟨_, _, rfl, by decide, rfl⟩

theorem inM_in {c e : Int32} (h : vp_in c 9) (z : w_inB e 0 (c - 1) = true) : vp_in e 8 := by
  obtain ⟨C, hC, rfl, -⟩ := vp_in_le h (by decide)
  obtain ⟨z1, z2⟩ := w_inB_t.mp z
  obtain ⟨E, hE, rfl⟩ := nI_of (i_nlt.mpr z1)
  cases C with
  | zero =>
    exfalso
    have q := i_le.mp z2
    rw [nI_toInt hE, show (nI 0 - 1 : Int32).toInt = -1 from by decide] at q
    omega
  | succ C =>
    rw [nI_pred] at z2
    exact vp_in_nI (by have := (nI_leI hE (by omega)).mp z2; omega) (by omega)
/-- what holds of the model's memory between calls -/
def w_JX (μ : wM) : Prop := vp_in (μ 0 0) 9 ∧ vp_in (μ 0 22) 161 ∧ vp_in (μ 0 13) 9 ∧ vp_in (μ 0 19) 7 ∧ vp_in (μ 0 35) 7 ∧ vp_in (μ 0 39) 41
theorem ne8_in {c : Int32} (h : vp_in c 9) (z : ¬ c = 8) : vp_in c 8 := by
  obtain ⟨C, hC, rfl, -⟩ := vp_in_le h (by decide)
  exact vp_in_nI (by
    rcases Nat.lt_or_ge C 8 with q | q
    · exact q
    · exact absurd (by rw [show C = 8 by omega]; rfl) z) (by omega)
theorem ne160_in {c : Int32} (h : vp_in c 161) (z : ¬ c = 160) : vp_in c 160 := by
  obtain ⟨C, hC, rfl, -⟩ := vp_in_le h (by decide)
  exact vp_in_nI (by
    rcases Nat.lt_or_ge C 160 with q | q
    · exact q
    · exact absurd (by rw [show C = 160 by omega]; rfl) z) (by omega)
theorem ord_in {c e : Int32} (h : vp_in c 7) (z : w_inB e 0 (c - 1) = true) : vp_in e 6 := by
  obtain ⟨C, hC, rfl, -⟩ := vp_in_le h (by decide)
  obtain ⟨z1, z2⟩ := w_inB_t.mp z
  obtain ⟨E, hE, rfl⟩ := nI_of (i_nlt.mpr z1)
  cases C with
  | zero =>
    exfalso
    have q := i_le.mp z2
    rw [nI_toInt hE, show (nI 0 - 1 : Int32).toInt = -1 from by decide] at q
    omega
  | succ C =>
    rw [nI_pred] at z2
    exact vp_in_nI (by have := (nI_leI hE (by omega)).mp z2; omega) (by omega)
def fX8_event (k : Int32) (p : Int32) (s : Int32) (μ : wM) : Int32 × wM := (if (w_inB k 0 2) = true then (if (w_inB p 1 15) = true then (if (w_inB s 1 12) = true then (if (((μ 0 0) : Int32) = 8) then ((-3), μ) else ((((μ 0 0) + 1) - 1), (w_up (w_up (w_up (w_up (w_up (w_up μ 1 ((μ 0 0) : Int32).toNatClampNeg k) 2 ((μ 0 0) : Int32).toNatClampNeg p) 3 ((μ 0 0) : Int32).toNatClampNeg s) 7 ((μ 0 0) : Int32).toNatClampNeg 10000) 9 ((μ 0 0) : Int32).toNatClampNeg 220) 0 0 ((μ 0 0) + 1)))) else ((-1), μ)) else ((-1), μ)) else ((-1), μ))
/-! X8_event -/
def pX8_event (k : Int32) (p : Int32) (s : Int32) (μ : wM) : Prop := w_JX μ
def qX8_event (k : Int32) (p : Int32) (s : Int32) (μ : wM) (r : Int32) (μ' : wM) : Prop := r = (fX8_event k p s μ).1 ∧ μ' = (fX8_event k p s μ).2
def sX8_event : wS := (false, false, 4, fun as μ => ∃ k, ∃ p, ∃ s, as = [.ref 0, .int k, .int p, .int s] ∧ pX8_event k p s μ, fun as μ r μ' => match as with
  | [.ref _, .int k, .int p, .int s] => qX8_event k p s μ r μ'
  | _ => False)
def gX8_event : Nat → Option wS := fun k => match k with
  | 1 => some sX8_in
  | _ => none
def uX8_event : Nat → Option (List Nat) := fun _ => none
set_option maxHeartbeats 4000000 in
set_option maxRecDepth 100000 in
theorem vcX8_event_0 (K : wK) (R : Int32 → wM → Prop) (k : Int32) (p : Int32) (s : Int32) (μ : wM) (h : (
    ((w_inB k 0 2) = false → R (-1) μ) ∧
    ((w_inB k 0 2) = true → (
      ((w_inB p 1 15) = false → R (-1) μ) ∧
      ((w_inB p 1 15) = true → (
        ((w_inB s 1 12) = false → R (-1) μ) ∧
        ((w_inB s 1 12) = true → (
          ((((μ 0 0) : Int32) = 8) → R (-3) μ) ∧
          (¬ (((μ 0 0) : Int32) = 8) → (vp_in (μ 0 0) 8) ∧ R (((μ 0 0) + 1) - 1) (w_up (w_up (w_up (w_up (w_up (w_up μ 1 ((μ 0 0) : Int32).toNatClampNeg k) 2 ((μ 0 0) : Int32).toNatClampNeg p) 3 ((μ 0 0) : Int32).toNatClampNeg s) 7 ((μ 0 0) : Int32).toNatClampNeg 10000) 9 ((μ 0 0) : Int32).toNatClampNeg 220) 0 0 ((μ 0 0) + 1))))))))))) : w_n 8 gX8_event shM rfM 32 (some .int) R tX8_event uX8_event K 61 0 [some (.ref 0), some (.int k), some (.int p), some (.int s)] [] μ :=
  And.intro (Exists.intro _ (Exists.intro _ (Exists.intro _ (And.intro rfl (trivial))))) (fun _ _ z1276 => by obtain ⟨z1274, z1275⟩ := z1276; have z1274 := z1274.symm; have z1275 := z1275.symm; subst z1274; subst z1275; exact And.intro (fun z1277 => And.intro trivial ((h.1 (w_B01_0.mp z1277)))) (fun z1278 => And.intro (Exists.intro _ (Exists.intro _ (Exists.intro _ (And.intro rfl (trivial))))) (fun _ _ z1281 => by obtain ⟨z1279, z1280⟩ := z1281; have z1279 := z1279.symm; have z1280 := z1280.symm; subst z1279; subst z1280; exact And.intro (fun z1282 => And.intro trivial (((h.2 (w_B01_n.mp z1278)).1 (w_B01_0.mp z1282)))) (fun z1283 => And.intro (Exists.intro _ (Exists.intro _ (Exists.intro _ (And.intro rfl (trivial))))) (fun _ _ z1286 => by obtain ⟨z1284, z1285⟩ := z1286; have z1284 := z1284.symm; have z1285 := z1285.symm; subst z1284; subst z1285; exact And.intro (fun z1287 => And.intro trivial ((((h.2 (w_B01_n.mp z1278)).2 (w_B01_n.mp z1283)).1 (w_B01_0.mp z1287)))) (fun z1288 => And.intro (And.intro (of_decide_eq_true rfl) rfl) (And.intro (fun z1289 => And.intro trivial (((((h.2 (w_B01_n.mp z1278)).2 (w_B01_n.mp z1283)).2 (w_B01_n.mp z1288)).1 z1289))) (fun z1290 => And.intro (And.intro (of_decide_eq_true rfl) rfl) (And.intro (And.intro (of_decide_eq_true rfl) rfl) (And.intro (And.intro (of_decide_eq_true rfl) (Exists.intro _ (And.intro rfl (((((h.2 (w_B01_n.mp z1278)).2 (w_B01_n.mp z1283)).2 (w_B01_n.mp z1288)).2 z1290).1)))) (And.intro (And.intro (of_decide_eq_true rfl) rfl) (And.intro (And.intro (of_decide_eq_true rfl) rfl) (And.intro (And.intro (of_decide_eq_true rfl) (Exists.intro _ (And.intro rfl (((((h.2 (w_B01_n.mp z1278)).2 (w_B01_n.mp z1283)).2 (w_B01_n.mp z1288)).2 z1290).1)))) (And.intro (And.intro (of_decide_eq_true rfl) rfl) (And.intro (And.intro (of_decide_eq_true rfl) rfl) (And.intro (And.intro (of_decide_eq_true rfl) (Exists.intro _ (And.intro rfl (((((h.2 (w_B01_n.mp z1278)).2 (w_B01_n.mp z1283)).2 (w_B01_n.mp z1288)).2 z1290).1)))) (And.intro (And.intro (of_decide_eq_true rfl) rfl) (And.intro (And.intro (of_decide_eq_true rfl) rfl) (And.intro (And.intro (of_decide_eq_true rfl) (Exists.intro _ (And.intro rfl (((((h.2 (w_B01_n.mp z1278)).2 (w_B01_n.mp z1283)).2 (w_B01_n.mp z1288)).2 z1290).1)))) (And.intro (And.intro (of_decide_eq_true rfl) rfl) (And.intro (And.intro (of_decide_eq_true rfl) rfl) (And.intro (And.intro (of_decide_eq_true rfl) (Exists.intro _ (And.intro rfl (((((h.2 (w_B01_n.mp z1278)).2 (w_B01_n.mp z1283)).2 (w_B01_n.mp z1288)).2 z1290).1)))) (And.intro (And.intro (of_decide_eq_true rfl) rfl) (And.intro (And.intro (of_decide_eq_true rfl) (And.intro rfl (trivial))) (And.intro (And.intro (of_decide_eq_true rfl) rfl) (And.intro trivial (((((h.2 (w_B01_n.mp z1278)).2 (w_B01_n.mp z1283)).2 (w_B01_n.mp z1288)).2 z1290).2)))))))))))))))))))))))))))
set_option maxHeartbeats 4000000 in
theorem vX8_event (k : Int32) (p : Int32) (s : Int32) (μ : wM) (h : pX8_event k p s μ) (K : wK) (hK : w_cl 8 gX8_event shM rfM 32 (some .int) (qX8_event k p s μ) tX8_event K) : K 0 [some (.ref 0), some (.int k), some (.int p), some (.int s)] [] μ := by
  refine hK uX8_event 61 _ _ _ _ (vcX8_event_0 K _ k p s μ ?_)
  clear hK
  unfold pX8_event at h
  have h0 := h
  unfold w_JX at h
  refine And.intro (fun z58 => ?_) (fun z58 => ?_)
  · unfold qX8_event fX8_event
    rw [if_neg (by rw [z58]; exact Bool.false_ne_true)]
    exact ⟨rfl, rfl⟩
  · refine And.intro (fun z59 => ?_) (fun z59 => ?_)
    · unfold qX8_event fX8_event
      rw [if_pos z58, if_neg (by rw [z59]; exact Bool.false_ne_true)]
      exact ⟨rfl, rfl⟩
    · refine And.intro (fun z60 => ?_) (fun z60 => ?_)
      · unfold qX8_event fX8_event
        rw [if_pos z58, if_pos z59, if_neg (by rw [z60]; exact Bool.false_ne_true)]
        exact ⟨rfl, rfl⟩
      · refine And.intro (fun z61 => ?_) (fun z61 => ?_)
        · unfold qX8_event fX8_event
          rw [if_pos z58, if_pos z59, if_pos z60, if_pos z61]
          exact ⟨rfl, rfl⟩
        · refine And.intro (by first | exact inM_in h.1 (by assumption) | exact in9 (by assumption) | exact in3 (by assumption) | exact in2 (by assumption) | exact ne8_in h.1 (by assumption) | exact ne8_in h.2.2.1 (by assumption) | exact ne160_in h.2.1 (by assumption) | exact ord_in h.2.2.2.1 (by assumption) | exact h.2.1 | (simp_all; done)) ?_
          unfold qX8_event fX8_event
          rw [if_pos z58, if_pos z59, if_pos z60, if_neg z61]
          exact ⟨rfl, rfl⟩
set_option maxRecDepth 100000 in
theorem zX8_event (l : Launch) : ∀ (idx : Nat) (S : wS), gX8_event idx = some S → w_Call l 8 idx S 2 shM rfM 32 := by
  intro idx S hS
  unfold gX8_event at hS
  split at hS
  · cases hS
    exact w_callS (mX8_in l) eX8_in.1 (by decide +kernel) eX8_in.2.1 eX8_in.2.2 (by decide +kernel) (by decide) (by decide)
  · cases hS
theorem mX8_event (l : Launch) : w_Met l yX8_event cX8_event 4 (some .int) 2 shM rfM 32 sX8_event.2.2.2.1 sX8_event.2.2.2.2 :=
  w_meth (o := 8) (Γ := gX8_event) (tb := tX8_event) (by decide +kernel) rfl kX8_event rfl (zX8_event l) (fun as μ h => by obtain ⟨k, p, s, rfl, h⟩ := h; exact Nat.le_of_ble_eq_true rfl) (fun as μ h K hK => by obtain ⟨k, p, s, rfl, h⟩ := h; exact vX8_event k p s μ h K hK)
set_option maxRecDepth 100000 in
theorem eX8_event : Cond.code yX8_event cX8_event 4 (some .int) ∈ w_tbl ∧ Cond.instanceMethod yX8_event ∈ w_tbl ∧ Cond.selects (w_C 8) yX8_event yX8_event ∈ w_tbl ∧ Cond.initialized yX8_event.cls ∈ w_tbl := ⟨by decide +kernel, by decide +kernel, by decide +kernel, by decide +kernel⟩
theorem rX8_event : ∀ as μ, sX8_event.2.2.2.1 as μ → ∃ q as', as = .ref q :: as' ∧ q < 32 ∧ shM q = .inl 8 := by
  intro as μ h
  obtain ⟨k, p, s, rfl, h⟩ := h
  exact ⟨_, _, rfl, by decide, rfl⟩

def fX8_day (s : Int32) (t : Int32) (μ : wM) : Int32 × wM := (if (w_inB s 1 60) = true then (if (w_inB t 0 6) = true then (1, (w_up (w_up μ 0 11 s) 0 12 t)) else ((-1), μ)) else ((-1), μ))
/-! X8_day -/
def pX8_day (s : Int32) (t : Int32) (μ : wM) : Prop := w_JX μ
def qX8_day (s : Int32) (t : Int32) (μ : wM) (r : Int32) (μ' : wM) : Prop := r = (fX8_day s t μ).1 ∧ μ' = (fX8_day s t μ).2
def sX8_day : wS := (false, false, 3, fun as μ => ∃ s, ∃ t, as = [.ref 0, .int s, .int t] ∧ pX8_day s t μ, fun as μ r μ' => match as with
  | [.ref _, .int s, .int t] => qX8_day s t μ r μ'
  | _ => False)
def gX8_day : Nat → Option wS := fun k => match k with
  | 1 => some sX8_in
  | _ => none
def uX8_day : Nat → Option (List Nat) := fun _ => none
set_option maxHeartbeats 4000000 in
set_option maxRecDepth 100000 in
theorem vcX8_day_0 (K : wK) (R : Int32 → wM → Prop) (s : Int32) (t : Int32) (μ : wM) (h : (
    ((w_inB s 1 60) = false → R (-1) μ) ∧
    ((w_inB s 1 60) = true → (
      ((w_inB t 0 6) = false → R (-1) μ) ∧
      ((w_inB t 0 6) = true → R 1 (w_up (w_up μ 0 11 s) 0 12 t)))))) : w_n 8 gX8_day shM rfM 32 (some .int) R tX8_day uX8_day K 19 0 [some (.ref 0), some (.int s), some (.int t)] [] μ :=
  And.intro (Exists.intro _ (Exists.intro _ (Exists.intro _ (And.intro rfl (trivial))))) (fun _ _ z1303 => by obtain ⟨z1301, z1302⟩ := z1303; have z1301 := z1301.symm; have z1302 := z1302.symm; subst z1301; subst z1302; exact And.intro (fun z1304 => And.intro trivial ((h.1 (w_B01_0.mp z1304)))) (fun z1305 => And.intro (Exists.intro _ (Exists.intro _ (Exists.intro _ (And.intro rfl (trivial))))) (fun _ _ z1308 => by obtain ⟨z1306, z1307⟩ := z1308; have z1306 := z1306.symm; have z1307 := z1307.symm; subst z1306; subst z1307; exact And.intro (fun z1309 => And.intro trivial (((h.2 (w_B01_n.mp z1305)).1 (w_B01_0.mp z1309)))) (fun z1310 => And.intro (And.intro (of_decide_eq_true rfl) (And.intro rfl (trivial))) (And.intro (And.intro (of_decide_eq_true rfl) (And.intro rfl (trivial))) (And.intro trivial (((h.2 (w_B01_n.mp z1305)).2 (w_B01_n.mp z1310)))))))))
set_option maxHeartbeats 4000000 in
theorem vX8_day (s : Int32) (t : Int32) (μ : wM) (h : pX8_day s t μ) (K : wK) (hK : w_cl 8 gX8_day shM rfM 32 (some .int) (qX8_day s t μ) tX8_day K) : K 0 [some (.ref 0), some (.int s), some (.int t)] [] μ := by
  refine hK uX8_day 19 _ _ _ _ (vcX8_day_0 K _ s t μ ?_)
  clear hK
  unfold pX8_day at h
  have h0 := h
  unfold w_JX at h
  refine And.intro (fun z62 => ?_) (fun z62 => ?_)
  · unfold qX8_day fX8_day
    rw [if_neg (by rw [z62]; exact Bool.false_ne_true)]
    exact ⟨rfl, rfl⟩
  · refine And.intro (fun z63 => ?_) (fun z63 => ?_)
    · unfold qX8_day fX8_day
      rw [if_pos z62, if_neg (by rw [z63]; exact Bool.false_ne_true)]
      exact ⟨rfl, rfl⟩
    · unfold qX8_day fX8_day
      rw [if_pos z62, if_pos z63]
      exact ⟨rfl, rfl⟩
set_option maxRecDepth 100000 in
theorem zX8_day (l : Launch) : ∀ (idx : Nat) (S : wS), gX8_day idx = some S → w_Call l 8 idx S 2 shM rfM 32 := by
  intro idx S hS
  unfold gX8_day at hS
  split at hS
  · cases hS
    exact w_callS (mX8_in l) eX8_in.1 (by decide +kernel) eX8_in.2.1 eX8_in.2.2 (by decide +kernel) (by decide) (by decide)
  · cases hS
theorem mX8_day (l : Launch) : w_Met l yX8_day cX8_day 3 (some .int) 2 shM rfM 32 sX8_day.2.2.2.1 sX8_day.2.2.2.2 :=
  w_meth (o := 8) (Γ := gX8_day) (tb := tX8_day) (by decide +kernel) rfl kX8_day rfl (zX8_day l) (fun as μ h => by obtain ⟨s, t, rfl, h⟩ := h; exact Nat.le_of_ble_eq_true rfl) (fun as μ h K hK => by obtain ⟨s, t, rfl, h⟩ := h; exact vX8_day s t μ h K hK)
set_option maxRecDepth 100000 in
theorem eX8_day : Cond.code yX8_day cX8_day 3 (some .int) ∈ w_tbl ∧ Cond.instanceMethod yX8_day ∈ w_tbl ∧ Cond.selects (w_C 8) yX8_day yX8_day ∈ w_tbl ∧ Cond.initialized yX8_day.cls ∈ w_tbl := ⟨by decide +kernel, by decide +kernel, by decide +kernel, by decide +kernel⟩
theorem rX8_day : ∀ as μ, sX8_day.2.2.2.1 as μ → ∃ q as', as = .ref q :: as' ∧ q < 32 ∧ shM q = .inl 8 := by
  intro as μ h
  obtain ⟨s, t, rfl, h⟩ := h
  exact ⟨_, _, rfl, by decide, rfl⟩

def fX8_call (e : Int32) (o : Int32) (μ : wM) : Int32 × wM := (if (w_inB e 0 (μ 0 0 - 1)) = true then (if (w_inB o 0 (μ 0 0 - 1)) = true then (if ((e : Int32) = o) then ((-1), μ) else (if (((μ 0 13) : Int32) = 8) then ((-3), μ) else (((μ 0 13) + 1), (w_up (w_up (w_up μ 11 ((μ 0 13) : Int32).toNatClampNeg e) 12 ((μ 0 13) : Int32).toNatClampNeg o) 0 13 ((μ 0 13) + 1))))) else ((-1), μ)) else ((-1), μ))
/-! X8_call -/
def pX8_call (e : Int32) (o : Int32) (μ : wM) : Prop := w_JX μ
def qX8_call (e : Int32) (o : Int32) (μ : wM) (r : Int32) (μ' : wM) : Prop := r = (fX8_call e o μ).1 ∧ μ' = (fX8_call e o μ).2
def sX8_call : wS := (false, false, 3, fun as μ => ∃ e, ∃ o, as = [.ref 0, .int e, .int o] ∧ pX8_call e o μ, fun as μ r μ' => match as with
  | [.ref _, .int e, .int o] => qX8_call e o μ r μ'
  | _ => False)
def gX8_call : Nat → Option wS := fun k => match k with
  | 121 => some sX8_isEvent
  | _ => none
def uX8_call : Nat → Option (List Nat) := fun _ => none
set_option maxHeartbeats 4000000 in
set_option maxRecDepth 100000 in
theorem vcX8_call_0 (K : wK) (R : Int32 → wM → Prop) (e : Int32) (o : Int32) (μ : wM) (h : (
    ((w_inB e 0 (μ 0 0 - 1)) = false → R (-1) μ) ∧
    ((w_inB e 0 (μ 0 0 - 1)) = true → (
      ((w_inB o 0 (μ 0 0 - 1)) = false → R (-1) μ) ∧
      ((w_inB o 0 (μ 0 0 - 1)) = true → (
        (((e : Int32) = o) → R (-1) μ) ∧
        (¬ ((e : Int32) = o) → (
          ((((μ 0 13) : Int32) = 8) → R (-3) μ) ∧
          (¬ (((μ 0 13) : Int32) = 8) → (vp_in (μ 0 13) 8) ∧ R ((μ 0 13) + 1) (w_up (w_up (w_up μ 11 ((μ 0 13) : Int32).toNatClampNeg e) 12 ((μ 0 13) : Int32).toNatClampNeg o) 0 13 ((μ 0 13) + 1))))))))))) : w_n 8 gX8_call shM rfM 32 (some .int) R tX8_call uX8_call K 37 0 [some (.ref 0), some (.int e), some (.int o)] [] μ :=
  And.intro (Exists.intro _ (And.intro rfl (trivial))) (fun _ _ z1327 => by obtain ⟨z1325, z1326⟩ := z1327; have z1325 := z1325.symm; have z1326 := z1326.symm; subst z1325; subst z1326; exact And.intro (fun z1328 => And.intro trivial ((h.1 (w_B01_0.mp z1328)))) (fun z1329 => And.intro (Exists.intro _ (And.intro rfl (trivial))) (fun _ _ z1332 => by obtain ⟨z1330, z1331⟩ := z1332; have z1330 := z1330.symm; have z1331 := z1331.symm; subst z1330; subst z1331; exact And.intro (fun z1333 => And.intro trivial (((h.2 (w_B01_n.mp z1329)).1 (w_B01_0.mp z1333)))) (fun z1334 => And.intro (fun z1335 => And.intro trivial ((((h.2 (w_B01_n.mp z1329)).2 (w_B01_n.mp z1334)).1 z1335))) (fun z1336 => And.intro (And.intro (of_decide_eq_true rfl) rfl) (And.intro (fun z1337 => And.intro trivial (((((h.2 (w_B01_n.mp z1329)).2 (w_B01_n.mp z1334)).2 z1336).1 z1337))) (fun z1338 => And.intro (And.intro (of_decide_eq_true rfl) rfl) (And.intro (And.intro (of_decide_eq_true rfl) rfl) (And.intro (And.intro (of_decide_eq_true rfl) (Exists.intro _ (And.intro rfl (((((h.2 (w_B01_n.mp z1329)).2 (w_B01_n.mp z1334)).2 z1336).2 z1338).1)))) (And.intro (And.intro (of_decide_eq_true rfl) rfl) (And.intro (And.intro (of_decide_eq_true rfl) rfl) (And.intro (And.intro (of_decide_eq_true rfl) (Exists.intro _ (And.intro rfl (((((h.2 (w_B01_n.mp z1329)).2 (w_B01_n.mp z1334)).2 z1336).2 z1338).1)))) (And.intro (And.intro (of_decide_eq_true rfl) rfl) (And.intro (And.intro (of_decide_eq_true rfl) (And.intro rfl (trivial))) (And.intro (And.intro (of_decide_eq_true rfl) rfl) (And.intro trivial (((((h.2 (w_B01_n.mp z1329)).2 (w_B01_n.mp z1334)).2 z1336).2 z1338).2)))))))))))))))))
set_option maxHeartbeats 4000000 in
theorem vX8_call (e : Int32) (o : Int32) (μ : wM) (h : pX8_call e o μ) (K : wK) (hK : w_cl 8 gX8_call shM rfM 32 (some .int) (qX8_call e o μ) tX8_call K) : K 0 [some (.ref 0), some (.int e), some (.int o)] [] μ := by
  refine hK uX8_call 37 _ _ _ _ (vcX8_call_0 K _ e o μ ?_)
  clear hK
  unfold pX8_call at h
  have h0 := h
  unfold w_JX at h
  refine And.intro (fun z64 => ?_) (fun z64 => ?_)
  · unfold qX8_call fX8_call
    rw [if_neg (by rw [z64]; exact Bool.false_ne_true)]
    exact ⟨rfl, rfl⟩
  · refine And.intro (fun z65 => ?_) (fun z65 => ?_)
    · unfold qX8_call fX8_call
      rw [if_pos z64, if_neg (by rw [z65]; exact Bool.false_ne_true)]
      exact ⟨rfl, rfl⟩
    · refine And.intro (fun z66 => ?_) (fun z66 => ?_)
      · unfold qX8_call fX8_call
        rw [if_pos z64, if_pos z65, if_pos z66]
        exact ⟨rfl, rfl⟩
      · refine And.intro (fun z67 => ?_) (fun z67 => ?_)
        · unfold qX8_call fX8_call
          rw [if_pos z64, if_pos z65, if_neg z66, if_pos z67]
          exact ⟨rfl, rfl⟩
        · refine And.intro (by first | exact inM_in h.1 (by assumption) | exact in9 (by assumption) | exact in3 (by assumption) | exact in2 (by assumption) | exact ne8_in h.1 (by assumption) | exact ne8_in h.2.2.1 (by assumption) | exact ne160_in h.2.1 (by assumption) | exact ord_in h.2.2.2.1 (by assumption) | exact h.2.1 | (simp_all; done)) ?_
          unfold qX8_call fX8_call
          rw [if_pos z64, if_pos z65, if_neg z66, if_neg z67]
          exact ⟨rfl, rfl⟩
set_option maxRecDepth 100000 in
theorem zX8_call (l : Launch) : ∀ (idx : Nat) (S : wS), gX8_call idx = some S → w_Call l 8 idx S 3 shM rfM 32 := by
  intro idx S hS
  unfold gX8_call at hS
  split at hS
  · cases hS
    exact w_callV (ci := 8) (mX8_isEvent l) (by decide) rX8_isEvent eX8_isEvent.1 (by decide +kernel) eX8_isEvent.2.1 eX8_isEvent.2.2.1 eX8_isEvent.2.2.2 (by decide +kernel) (by decide) (by decide)
  · cases hS
theorem mX8_call (l : Launch) : w_Met l yX8_call cX8_call 3 (some .int) 3 shM rfM 32 sX8_call.2.2.2.1 sX8_call.2.2.2.2 :=
  w_meth (o := 8) (Γ := gX8_call) (tb := tX8_call) (by decide +kernel) rfl kX8_call rfl (zX8_call l) (fun as μ h => by obtain ⟨e, o, rfl, h⟩ := h; exact Nat.le_of_ble_eq_true rfl) (fun as μ h K hK => by obtain ⟨e, o, rfl, h⟩ := h; exact vX8_call e o μ h K hK)
set_option maxRecDepth 100000 in
theorem eX8_call : Cond.code yX8_call cX8_call 3 (some .int) ∈ w_tbl ∧ Cond.instanceMethod yX8_call ∈ w_tbl ∧ Cond.selects (w_C 8) yX8_call yX8_call ∈ w_tbl ∧ Cond.initialized yX8_call.cls ∈ w_tbl := ⟨by decide +kernel, by decide +kernel, by decide +kernel, by decide +kernel⟩
theorem rX8_call : ∀ as μ, sX8_call.2.2.2.1 as μ → ∃ q as', as = .ref q :: as' ∧ q < 32 ∧ shM q = .inl 8 := by
  intro as μ h
  obtain ⟨e, o, rfl, h⟩ := h
  exact ⟨_, _, rfl, by decide, rfl⟩

def fX8_begins (e : Int32) (μ : wM) : Int32 × wM := (if (((μ 0 18) : Int32) = 0) then ((-1), μ) else (if (w_inB e 0 (μ 0 0 - 1)) = true then (if ((0 : Int32) ≤ (μ 16 (e : Int32).toNatClampNeg)) then ((μ 16 (e : Int32).toNatClampNeg), μ) else ((-2), μ)) else ((-1), μ)))
/-! X8_begins -/
def pX8_begins (e : Int32) (μ : wM) : Prop := w_JX μ
def qX8_begins (e : Int32) (μ : wM) (r : Int32) (μ' : wM) : Prop := r = (fX8_begins e μ).1 ∧ μ' = (fX8_begins e μ).2
def sX8_begins : wS := (false, false, 2, fun as μ => ∃ e, as = [.ref 0, .int e] ∧ pX8_begins e μ, fun as μ r μ' => match as with
  | [.ref _, .int e] => qX8_begins e μ r μ'
  | _ => False)
def gX8_begins : Nat → Option wS := fun k => match k with
  | 121 => some sX8_isEvent
  | _ => none
def uX8_begins : Nat → Option (List Nat) := fun _ => none
set_option maxHeartbeats 4000000 in
set_option maxRecDepth 100000 in
theorem vcX8_begins_0 (K : wK) (R : Int32 → wM → Prop) (e : Int32) (μ : wM) (h : (
    ((((μ 0 18) : Int32) = 0) → R (-1) μ) ∧
    (¬ (((μ 0 18) : Int32) = 0) → (
      ((w_inB e 0 (μ 0 0 - 1)) = false → R (-1) μ) ∧
      ((w_inB e 0 (μ 0 0 - 1)) = true → (vp_in e 8) ∧ (
        (((0 : Int32) ≤ (μ 16 (e : Int32).toNatClampNeg)) → R (μ 16 (e : Int32).toNatClampNeg) μ) ∧
        (¬ ((0 : Int32) ≤ (μ 16 (e : Int32).toNatClampNeg)) → R (-2) μ))))))) : w_n 8 gX8_begins shM rfM 32 (some .int) R tX8_begins uX8_begins K 18 0 [some (.ref 0), some (.int e)] [] μ :=
  And.intro (And.intro (of_decide_eq_true rfl) rfl) (And.intro (fun z1348 => And.intro trivial ((h.1 z1348))) (fun z1349 => And.intro (Exists.intro _ (And.intro rfl (trivial))) (fun _ _ z1352 => by obtain ⟨z1350, z1351⟩ := z1352; have z1350 := z1350.symm; have z1351 := z1351.symm; subst z1350; subst z1351; exact And.intro (fun z1353 => And.intro trivial (((h.2 z1349).1 (w_B01_0.mp z1353)))) (fun z1354 => And.intro (And.intro (of_decide_eq_true rfl) rfl) (And.intro (And.intro (of_decide_eq_true rfl) (Exists.intro _ (And.intro rfl (((h.2 z1349).2 (w_B01_n.mp z1354)).1)))) (And.intro (fun z1355 => And.intro (And.intro (of_decide_eq_true rfl) rfl) (And.intro (And.intro (of_decide_eq_true rfl) (Exists.intro _ (And.intro rfl (((h.2 z1349).2 (w_B01_n.mp z1354)).1)))) (And.intro trivial ((((h.2 z1349).2 (w_B01_n.mp z1354)).2.1 z1355))))) (fun z1356 => And.intro trivial ((((h.2 z1349).2 (w_B01_n.mp z1354)).2.2 z1356)))))))))
set_option maxHeartbeats 4000000 in
theorem vX8_begins (e : Int32) (μ : wM) (h : pX8_begins e μ) (K : wK) (hK : w_cl 8 gX8_begins shM rfM 32 (some .int) (qX8_begins e μ) tX8_begins K) : K 0 [some (.ref 0), some (.int e)] [] μ := by
  refine hK uX8_begins 18 _ _ _ _ (vcX8_begins_0 K _ e μ ?_)
  clear hK
  unfold pX8_begins at h
  have h0 := h
  unfold w_JX at h
  refine And.intro (fun z68 => ?_) (fun z68 => ?_)
  · unfold qX8_begins fX8_begins
    rw [if_pos z68]
    exact ⟨rfl, rfl⟩
  · refine And.intro (fun z69 => ?_) (fun z69 => ?_)
    · unfold qX8_begins fX8_begins
      rw [if_neg z68, if_neg (by rw [z69]; exact Bool.false_ne_true)]
      exact ⟨rfl, rfl⟩
    · refine And.intro (by first | exact inM_in h.1 (by assumption) | exact in9 (by assumption) | exact in3 (by assumption) | exact in2 (by assumption) | exact ne8_in h.1 (by assumption) | exact ne8_in h.2.2.1 (by assumption) | exact ne160_in h.2.1 (by assumption) | exact ord_in h.2.2.2.1 (by assumption) | exact h.2.1 | (simp_all; done)) ?_
      refine And.intro (fun z70 => ?_) (fun z70 => ?_)
      · unfold qX8_begins fX8_begins
        rw [if_neg z68, if_pos z69, if_pos z70]
        exact ⟨rfl, rfl⟩
      · unfold qX8_begins fX8_begins
        rw [if_neg z68, if_pos z69, if_neg z70]
        exact ⟨rfl, rfl⟩
set_option maxRecDepth 100000 in
theorem zX8_begins (l : Launch) : ∀ (idx : Nat) (S : wS), gX8_begins idx = some S → w_Call l 8 idx S 3 shM rfM 32 := by
  intro idx S hS
  unfold gX8_begins at hS
  split at hS
  · cases hS
    exact w_callV (ci := 8) (mX8_isEvent l) (by decide) rX8_isEvent eX8_isEvent.1 (by decide +kernel) eX8_isEvent.2.1 eX8_isEvent.2.2.1 eX8_isEvent.2.2.2 (by decide +kernel) (by decide) (by decide)
  · cases hS
theorem mX8_begins (l : Launch) : w_Met l yX8_begins cX8_begins 2 (some .int) 3 shM rfM 32 sX8_begins.2.2.2.1 sX8_begins.2.2.2.2 :=
  w_meth (o := 8) (Γ := gX8_begins) (tb := tX8_begins) (by decide +kernel) rfl kX8_begins rfl (zX8_begins l) (fun as μ h => by obtain ⟨e, rfl, h⟩ := h; exact Nat.le_of_ble_eq_true rfl) (fun as μ h K hK => by obtain ⟨e, rfl, h⟩ := h; exact vX8_begins e μ h K hK)
set_option maxRecDepth 100000 in
theorem eX8_begins : Cond.code yX8_begins cX8_begins 2 (some .int) ∈ w_tbl ∧ Cond.instanceMethod yX8_begins ∈ w_tbl ∧ Cond.selects (w_C 8) yX8_begins yX8_begins ∈ w_tbl ∧ Cond.initialized yX8_begins.cls ∈ w_tbl := ⟨by decide +kernel, by decide +kernel, by decide +kernel, by decide +kernel⟩
theorem rX8_begins : ∀ as μ, sX8_begins.2.2.2.1 as μ → ∃ q as', as = .ref q :: as' ∧ q < 32 ∧ shM q = .inl 8 := by
  intro as μ h
  obtain ⟨e, rfl, h⟩ := h
  exact ⟨_, _, rfl, by decide, rfl⟩

def fX8_order (i : Int32) (μ : wM) : Int32 × wM := (if ((i : Int32) = (-1)) then ((μ 0 19), μ) else (if (w_inB i 0 ((μ 0 19) - 1)) = true then ((μ 15 (i : Int32).toNatClampNeg), μ) else ((-1), μ)))
/-! X8_order -/
def pX8_order (i : Int32) (μ : wM) : Prop := w_JX μ
def qX8_order (i : Int32) (μ : wM) (r : Int32) (μ' : wM) : Prop := r = (fX8_order i μ).1 ∧ μ' = (fX8_order i μ).2
def sX8_order : wS := (false, false, 2, fun as μ => ∃ i, as = [.ref 0, .int i] ∧ pX8_order i μ, fun as μ r μ' => match as with
  | [.ref _, .int i] => qX8_order i μ r μ'
  | _ => False)
def gX8_order : Nat → Option wS := fun k => match k with
  | 1 => some sX8_in
  | _ => none
def uX8_order : Nat → Option (List Nat) := fun _ => none
set_option maxHeartbeats 4000000 in
set_option maxRecDepth 100000 in
theorem vcX8_order_0 (K : wK) (R : Int32 → wM → Prop) (i : Int32) (μ : wM) (h : (
    (((i : Int32) = (-1)) → R (μ 0 19) μ) ∧
    (¬ ((i : Int32) = (-1)) → (
      ((w_inB i 0 ((μ 0 19) - 1)) = false → R (-1) μ) ∧
      ((w_inB i 0 ((μ 0 19) - 1)) = true → (vp_in i 6) ∧ R (μ 15 (i : Int32).toNatClampNeg) μ))))) : w_n 8 gX8_order shM rfM 32 (some .int) R tX8_order uX8_order K 18 0 [some (.ref 0), some (.int i)] [] μ :=
  And.intro (fun z1364 => And.intro (And.intro (of_decide_eq_true rfl) rfl) (And.intro trivial ((h.1 z1364)))) (fun z1365 => And.intro (And.intro (of_decide_eq_true rfl) rfl) (And.intro (Exists.intro _ (Exists.intro _ (Exists.intro _ (And.intro rfl (trivial))))) (fun _ _ z1368 => by obtain ⟨z1366, z1367⟩ := z1368; have z1366 := z1366.symm; have z1367 := z1367.symm; subst z1366; subst z1367; exact And.intro (fun z1369 => And.intro trivial (((h.2 z1365).1 (w_B01_0.mp z1369)))) (fun z1370 => And.intro (And.intro (of_decide_eq_true rfl) rfl) (And.intro (And.intro (of_decide_eq_true rfl) (Exists.intro _ (And.intro rfl (((h.2 z1365).2 (w_B01_n.mp z1370)).1)))) (And.intro trivial (((h.2 z1365).2 (w_B01_n.mp z1370)).2)))))))
set_option maxHeartbeats 4000000 in
theorem vX8_order (i : Int32) (μ : wM) (h : pX8_order i μ) (K : wK) (hK : w_cl 8 gX8_order shM rfM 32 (some .int) (qX8_order i μ) tX8_order K) : K 0 [some (.ref 0), some (.int i)] [] μ := by
  refine hK uX8_order 18 _ _ _ _ (vcX8_order_0 K _ i μ ?_)
  clear hK
  unfold pX8_order at h
  have h0 := h
  unfold w_JX at h
  refine And.intro (fun z71 => ?_) (fun z71 => ?_)
  · unfold qX8_order fX8_order
    rw [if_pos z71]
    exact ⟨rfl, rfl⟩
  · refine And.intro (fun z72 => ?_) (fun z72 => ?_)
    · unfold qX8_order fX8_order
      rw [if_neg z71, if_neg (by rw [z72]; exact Bool.false_ne_true)]
      exact ⟨rfl, rfl⟩
    · refine And.intro (by first | exact inM_in h.1 (by assumption) | exact in9 (by assumption) | exact in3 (by assumption) | exact in2 (by assumption) | exact ne8_in h.1 (by assumption) | exact ne8_in h.2.2.1 (by assumption) | exact ne160_in h.2.1 (by assumption) | exact ord_in h.2.2.2.1 (by assumption) | exact h.2.1 | (simp_all; done)) ?_
      unfold qX8_order fX8_order
      rw [if_neg z71, if_pos z72]
      exact ⟨rfl, rfl⟩
set_option maxRecDepth 100000 in
theorem zX8_order (l : Launch) : ∀ (idx : Nat) (S : wS), gX8_order idx = some S → w_Call l 8 idx S 2 shM rfM 32 := by
  intro idx S hS
  unfold gX8_order at hS
  split at hS
  · cases hS
    exact w_callS (mX8_in l) eX8_in.1 (by decide +kernel) eX8_in.2.1 eX8_in.2.2 (by decide +kernel) (by decide) (by decide)
  · cases hS
theorem mX8_order (l : Launch) : w_Met l yX8_order cX8_order 2 (some .int) 2 shM rfM 32 sX8_order.2.2.2.1 sX8_order.2.2.2.2 :=
  w_meth (o := 8) (Γ := gX8_order) (tb := tX8_order) (by decide +kernel) rfl kX8_order rfl (zX8_order l) (fun as μ h => by obtain ⟨i, rfl, h⟩ := h; exact Nat.le_of_ble_eq_true rfl) (fun as μ h K hK => by obtain ⟨i, rfl, h⟩ := h; exact vX8_order i μ h K hK)
set_option maxRecDepth 100000 in
theorem eX8_order : Cond.code yX8_order cX8_order 2 (some .int) ∈ w_tbl ∧ Cond.instanceMethod yX8_order ∈ w_tbl ∧ Cond.selects (w_C 8) yX8_order yX8_order ∈ w_tbl ∧ Cond.initialized yX8_order.cls ∈ w_tbl := ⟨by decide +kernel, by decide +kernel, by decide +kernel, by decide +kernel⟩
theorem rX8_order : ∀ as μ, sX8_order.2.2.2.1 as μ → ∃ q as', as = .ref q :: as' ∧ q < 32 ∧ shM q = .inl 8 := by
  intro as μ h
  obtain ⟨i, rfl, h⟩ := h
  exact ⟨_, _, rfl, by decide, rfl⟩

def fX8_stone (e : Int32) (g : Int32) (s : Int32) (μ : wM) : Int32 × wM := (if (w_inB e 0 (μ 0 0 - 1)) = true then (if (w_inB g 1000 30000) = true then (if (w_inB s (-100) 100) = true then (if (((μ 1 (e : Int32).toNatClampNeg) : Int32) = 0) then (1, (w_up (w_up μ 7 (e : Int32).toNatClampNeg g) 8 (e : Int32).toNatClampNeg s)) else ((-12), μ)) else ((-1), μ)) else ((-1), μ)) else ((-1), μ))
/-! X8_stone -/
def pX8_stone (e : Int32) (g : Int32) (s : Int32) (μ : wM) : Prop := w_JX μ
def qX8_stone (e : Int32) (g : Int32) (s : Int32) (μ : wM) (r : Int32) (μ' : wM) : Prop := r = (fX8_stone e g s μ).1 ∧ μ' = (fX8_stone e g s μ).2
def sX8_stone : wS := (false, false, 4, fun as μ => ∃ e, ∃ g, ∃ s, as = [.ref 0, .int e, .int g, .int s] ∧ pX8_stone e g s μ, fun as μ r μ' => match as with
  | [.ref _, .int e, .int g, .int s] => qX8_stone e g s μ r μ'
  | _ => False)
def gX8_stone : Nat → Option wS := fun k => match k with
  | 1 => some sX8_in
  | 121 => some sX8_isEvent
  | _ => none
def uX8_stone : Nat → Option (List Nat) := fun _ => none
set_option maxHeartbeats 4000000 in
set_option maxRecDepth 100000 in
theorem vcX8_stone_0 (K : wK) (R : Int32 → wM → Prop) (e : Int32) (g : Int32) (s : Int32) (μ : wM) (h : (
    ((w_inB e 0 (μ 0 0 - 1)) = false → R (-1) μ) ∧
    ((w_inB e 0 (μ 0 0 - 1)) = true → (
      ((w_inB g 1000 30000) = false → R (-1) μ) ∧
      ((w_inB g 1000 30000) = true → (
        ((w_inB s (-100) 100) = false → R (-1) μ) ∧
        ((w_inB s (-100) 100) = true → (vp_in e 8) ∧ (
          ((((μ 1 (e : Int32).toNatClampNeg) : Int32) = 0) → R 1 (w_up (w_up μ 7 (e : Int32).toNatClampNeg g) 8 (e : Int32).toNatClampNeg s)) ∧
          (¬ (((μ 1 (e : Int32).toNatClampNeg) : Int32) = 0) → R (-12) μ))))))))) : w_n 8 gX8_stone shM rfM 32 (some .int) R tX8_stone uX8_stone K 32 0 [some (.ref 0), some (.int e), some (.int g), some (.int s)] [] μ :=
  And.intro (Exists.intro _ (And.intro rfl (trivial))) (fun _ _ z1390 => by obtain ⟨z1388, z1389⟩ := z1390; have z1388 := z1388.symm; have z1389 := z1389.symm; subst z1388; subst z1389; exact And.intro (fun z1391 => And.intro trivial ((h.1 (w_B01_0.mp z1391)))) (fun z1392 => And.intro (Exists.intro _ (Exists.intro _ (Exists.intro _ (And.intro rfl (trivial))))) (fun _ _ z1395 => by obtain ⟨z1393, z1394⟩ := z1395; have z1393 := z1393.symm; have z1394 := z1394.symm; subst z1393; subst z1394; exact And.intro (fun z1396 => And.intro trivial (((h.2 (w_B01_n.mp z1392)).1 (w_B01_0.mp z1396)))) (fun z1397 => And.intro (Exists.intro _ (Exists.intro _ (Exists.intro _ (And.intro rfl (trivial))))) (fun _ _ z1400 => by obtain ⟨z1398, z1399⟩ := z1400; have z1398 := z1398.symm; have z1399 := z1399.symm; subst z1398; subst z1399; exact And.intro (fun z1401 => And.intro trivial ((((h.2 (w_B01_n.mp z1392)).2 (w_B01_n.mp z1397)).1 (w_B01_0.mp z1401)))) (fun z1402 => And.intro (And.intro (of_decide_eq_true rfl) rfl) (And.intro (And.intro (of_decide_eq_true rfl) (Exists.intro _ (And.intro rfl ((((h.2 (w_B01_n.mp z1392)).2 (w_B01_n.mp z1397)).2 (w_B01_n.mp z1402)).1)))) (And.intro (fun z1403 => And.intro (And.intro (of_decide_eq_true rfl) rfl) (And.intro (And.intro (of_decide_eq_true rfl) (Exists.intro _ (And.intro rfl ((((h.2 (w_B01_n.mp z1392)).2 (w_B01_n.mp z1397)).2 (w_B01_n.mp z1402)).1)))) (And.intro (And.intro (of_decide_eq_true rfl) rfl) (And.intro (And.intro (of_decide_eq_true rfl) (Exists.intro _ (And.intro rfl ((((h.2 (w_B01_n.mp z1392)).2 (w_B01_n.mp z1397)).2 (w_B01_n.mp z1402)).1)))) (And.intro trivial (((((h.2 (w_B01_n.mp z1392)).2 (w_B01_n.mp z1397)).2 (w_B01_n.mp z1402)).2.1 z1403))))))) (fun z1404 => And.intro trivial (((((h.2 (w_B01_n.mp z1392)).2 (w_B01_n.mp z1397)).2 (w_B01_n.mp z1402)).2.2 z1404)))))))))))
set_option maxHeartbeats 4000000 in
theorem vX8_stone (e : Int32) (g : Int32) (s : Int32) (μ : wM) (h : pX8_stone e g s μ) (K : wK) (hK : w_cl 8 gX8_stone shM rfM 32 (some .int) (qX8_stone e g s μ) tX8_stone K) : K 0 [some (.ref 0), some (.int e), some (.int g), some (.int s)] [] μ := by
  refine hK uX8_stone 32 _ _ _ _ (vcX8_stone_0 K _ e g s μ ?_)
  clear hK
  unfold pX8_stone at h
  have h0 := h
  unfold w_JX at h
  refine And.intro (fun z73 => ?_) (fun z73 => ?_)
  · unfold qX8_stone fX8_stone
    rw [if_neg (by rw [z73]; exact Bool.false_ne_true)]
    exact ⟨rfl, rfl⟩
  · refine And.intro (fun z74 => ?_) (fun z74 => ?_)
    · unfold qX8_stone fX8_stone
      rw [if_pos z73, if_neg (by rw [z74]; exact Bool.false_ne_true)]
      exact ⟨rfl, rfl⟩
    · refine And.intro (fun z75 => ?_) (fun z75 => ?_)
      · unfold qX8_stone fX8_stone
        rw [if_pos z73, if_pos z74, if_neg (by rw [z75]; exact Bool.false_ne_true)]
        exact ⟨rfl, rfl⟩
      · refine And.intro (by first | exact inM_in h.1 (by assumption) | exact in9 (by assumption) | exact in3 (by assumption) | exact in2 (by assumption) | exact ne8_in h.1 (by assumption) | exact ne8_in h.2.2.1 (by assumption) | exact ne160_in h.2.1 (by assumption) | exact ord_in h.2.2.2.1 (by assumption) | exact h.2.1 | (simp_all; done)) ?_
        refine And.intro (fun z76 => ?_) (fun z76 => ?_)
        · unfold qX8_stone fX8_stone
          rw [if_pos z73, if_pos z74, if_pos z75, if_pos z76]
          exact ⟨rfl, rfl⟩
        · unfold qX8_stone fX8_stone
          rw [if_pos z73, if_pos z74, if_pos z75, if_neg z76]
          exact ⟨rfl, rfl⟩
set_option maxRecDepth 100000 in
theorem zX8_stone (l : Launch) : ∀ (idx : Nat) (S : wS), gX8_stone idx = some S → w_Call l 8 idx S 3 shM rfM 32 := by
  intro idx S hS
  unfold gX8_stone at hS
  split at hS
  · cases hS
    exact w_callS (mX8_in l) eX8_in.1 (by decide +kernel) eX8_in.2.1 eX8_in.2.2 (by decide +kernel) (by decide) (by decide)
  · cases hS
    exact w_callV (ci := 8) (mX8_isEvent l) (by decide) rX8_isEvent eX8_isEvent.1 (by decide +kernel) eX8_isEvent.2.1 eX8_isEvent.2.2.1 eX8_isEvent.2.2.2 (by decide +kernel) (by decide) (by decide)
  · cases hS
theorem mX8_stone (l : Launch) : w_Met l yX8_stone cX8_stone 4 (some .int) 3 shM rfM 32 sX8_stone.2.2.2.1 sX8_stone.2.2.2.2 :=
  w_meth (o := 8) (Γ := gX8_stone) (tb := tX8_stone) (by decide +kernel) rfl kX8_stone rfl (zX8_stone l) (fun as μ h => by obtain ⟨e, g, s, rfl, h⟩ := h; exact Nat.le_of_ble_eq_true rfl) (fun as μ h K hK => by obtain ⟨e, g, s, rfl, h⟩ := h; exact vX8_stone e g s μ h K hK)
set_option maxRecDepth 100000 in
theorem eX8_stone : Cond.code yX8_stone cX8_stone 4 (some .int) ∈ w_tbl ∧ Cond.instanceMethod yX8_stone ∈ w_tbl ∧ Cond.selects (w_C 8) yX8_stone yX8_stone ∈ w_tbl ∧ Cond.initialized yX8_stone.cls ∈ w_tbl := ⟨by decide +kernel, by decide +kernel, by decide +kernel, by decide +kernel⟩
theorem rX8_stone : ∀ as μ, sX8_stone.2.2.2.1 as μ → ∃ q as', as = .ref q :: as' ∧ q < 32 ∧ shM q = .inl 8 := by
  intro as μ h
  obtain ⟨e, g, s, rfl, h⟩ := h
  exact ⟨_, _, rfl, by decide, rfl⟩

def fX8_way (e : Int32) (y : Int32) (μ : wM) : Int32 × wM := (if (w_inB e 0 (μ 0 0 - 1)) = true then (if (w_inB y 100 2000) = true then (if (((μ 1 (e : Int32).toNatClampNeg) : Int32) = 1) then ((μ 9 (e : Int32).toNatClampNeg), (w_up μ 9 (e : Int32).toNatClampNeg y)) else ((-12), μ)) else ((-1), μ)) else ((-1), μ))
/-! X8_way -/
def pX8_way (e : Int32) (y : Int32) (μ : wM) : Prop := w_JX μ
def qX8_way (e : Int32) (y : Int32) (μ : wM) (r : Int32) (μ' : wM) : Prop := r = (fX8_way e y μ).1 ∧ μ' = (fX8_way e y μ).2
def sX8_way : wS := (false, false, 3, fun as μ => ∃ e, ∃ y, as = [.ref 0, .int e, .int y] ∧ pX8_way e y μ, fun as μ r μ' => match as with
  | [.ref _, .int e, .int y] => qX8_way e y μ r μ'
  | _ => False)
def gX8_way : Nat → Option wS := fun k => match k with
  | 1 => some sX8_in
  | 121 => some sX8_isEvent
  | _ => none
def uX8_way : Nat → Option (List Nat) := fun _ => none
set_option maxHeartbeats 4000000 in
set_option maxRecDepth 100000 in
theorem vcX8_way_0 (K : wK) (R : Int32 → wM → Prop) (e : Int32) (y : Int32) (μ : wM) (h : (
    ((w_inB e 0 (μ 0 0 - 1)) = false → R (-1) μ) ∧
    ((w_inB e 0 (μ 0 0 - 1)) = true → (
      ((w_inB y 100 2000) = false → R (-1) μ) ∧
      ((w_inB y 100 2000) = true → (vp_in e 8) ∧ (
        ((((μ 1 (e : Int32).toNatClampNeg) : Int32) = 1) → R (μ 9 (e : Int32).toNatClampNeg) (w_up μ 9 (e : Int32).toNatClampNeg y)) ∧
        (¬ (((μ 1 (e : Int32).toNatClampNeg) : Int32) = 1) → R (-12) μ))))))) : w_n 8 gX8_way shM rfM 32 (some .int) R tX8_way uX8_way K 28 0 [some (.ref 0), some (.int e), some (.int y), none] [] μ :=
  And.intro (Exists.intro _ (And.intro rfl (trivial))) (fun _ _ z1419 => by obtain ⟨z1417, z1418⟩ := z1419; have z1417 := z1417.symm; have z1418 := z1418.symm; subst z1417; subst z1418; exact And.intro (fun z1420 => And.intro trivial ((h.1 (w_B01_0.mp z1420)))) (fun z1421 => And.intro (Exists.intro _ (Exists.intro _ (Exists.intro _ (And.intro rfl (trivial))))) (fun _ _ z1424 => by obtain ⟨z1422, z1423⟩ := z1424; have z1422 := z1422.symm; have z1423 := z1423.symm; subst z1422; subst z1423; exact And.intro (fun z1425 => And.intro trivial (((h.2 (w_B01_n.mp z1421)).1 (w_B01_0.mp z1425)))) (fun z1426 => And.intro (And.intro (of_decide_eq_true rfl) rfl) (And.intro (And.intro (of_decide_eq_true rfl) (Exists.intro _ (And.intro rfl (((h.2 (w_B01_n.mp z1421)).2 (w_B01_n.mp z1426)).1)))) (And.intro (fun z1427 => And.intro (And.intro (of_decide_eq_true rfl) rfl) (And.intro (And.intro (of_decide_eq_true rfl) (Exists.intro _ (And.intro rfl (((h.2 (w_B01_n.mp z1421)).2 (w_B01_n.mp z1426)).1)))) (And.intro (And.intro (of_decide_eq_true rfl) rfl) (And.intro (And.intro (of_decide_eq_true rfl) (Exists.intro _ (And.intro rfl (((h.2 (w_B01_n.mp z1421)).2 (w_B01_n.mp z1426)).1)))) (And.intro trivial ((((h.2 (w_B01_n.mp z1421)).2 (w_B01_n.mp z1426)).2.1 z1427))))))) (fun z1428 => And.intro trivial ((((h.2 (w_B01_n.mp z1421)).2 (w_B01_n.mp z1426)).2.2 z1428)))))))))
set_option maxHeartbeats 4000000 in
theorem vX8_way (e : Int32) (y : Int32) (μ : wM) (h : pX8_way e y μ) (K : wK) (hK : w_cl 8 gX8_way shM rfM 32 (some .int) (qX8_way e y μ) tX8_way K) : K 0 [some (.ref 0), some (.int e), some (.int y), none] [] μ := by
  refine hK uX8_way 28 _ _ _ _ (vcX8_way_0 K _ e y μ ?_)
  clear hK
  unfold pX8_way at h
  have h0 := h
  unfold w_JX at h
  refine And.intro (fun z77 => ?_) (fun z77 => ?_)
  · unfold qX8_way fX8_way
    rw [if_neg (by rw [z77]; exact Bool.false_ne_true)]
    exact ⟨rfl, rfl⟩
  · refine And.intro (fun z78 => ?_) (fun z78 => ?_)
    · unfold qX8_way fX8_way
      rw [if_pos z77, if_neg (by rw [z78]; exact Bool.false_ne_true)]
      exact ⟨rfl, rfl⟩
    · refine And.intro (by first | exact inM_in h.1 (by assumption) | exact in9 (by assumption) | exact in3 (by assumption) | exact in2 (by assumption) | exact ne8_in h.1 (by assumption) | exact ne8_in h.2.2.1 (by assumption) | exact ne160_in h.2.1 (by assumption) | exact ord_in h.2.2.2.1 (by assumption) | exact h.2.1 | (simp_all; done)) ?_
      refine And.intro (fun z79 => ?_) (fun z79 => ?_)
      · unfold qX8_way fX8_way
        rw [if_pos z77, if_pos z78, if_pos z79]
        exact ⟨rfl, rfl⟩
      · unfold qX8_way fX8_way
        rw [if_pos z77, if_pos z78, if_neg z79]
        exact ⟨rfl, rfl⟩
set_option maxRecDepth 100000 in
theorem zX8_way (l : Launch) : ∀ (idx : Nat) (S : wS), gX8_way idx = some S → w_Call l 8 idx S 3 shM rfM 32 := by
  intro idx S hS
  unfold gX8_way at hS
  split at hS
  · cases hS
    exact w_callS (mX8_in l) eX8_in.1 (by decide +kernel) eX8_in.2.1 eX8_in.2.2 (by decide +kernel) (by decide) (by decide)
  · cases hS
    exact w_callV (ci := 8) (mX8_isEvent l) (by decide) rX8_isEvent eX8_isEvent.1 (by decide +kernel) eX8_isEvent.2.1 eX8_isEvent.2.2.1 eX8_isEvent.2.2.2 (by decide +kernel) (by decide) (by decide)
  · cases hS
theorem mX8_way (l : Launch) : w_Met l yX8_way cX8_way 4 (some .int) 3 shM rfM 32 sX8_way.2.2.2.1 sX8_way.2.2.2.2 :=
  w_meth (o := 8) (Γ := gX8_way) (tb := tX8_way) (by decide +kernel) rfl kX8_way rfl (zX8_way l) (fun as μ h => by obtain ⟨e, y, rfl, h⟩ := h; exact Nat.le_of_ble_eq_true rfl) (fun as μ h K hK => by obtain ⟨e, y, rfl, h⟩ := h; exact vX8_way e y μ h K hK)
set_option maxRecDepth 100000 in
theorem eX8_way : Cond.code yX8_way cX8_way 4 (some .int) ∈ w_tbl ∧ Cond.instanceMethod yX8_way ∈ w_tbl ∧ Cond.selects (w_C 8) yX8_way yX8_way ∈ w_tbl ∧ Cond.initialized yX8_way.cls ∈ w_tbl := ⟨by decide +kernel, by decide +kernel, by decide +kernel, by decide +kernel⟩
theorem rX8_way : ∀ as μ, sX8_way.2.2.2.1 as μ → ∃ q as', as = .ref q :: as' ∧ q < 32 ∧ shM q = .inl 8 := by
  intro as μ h
  obtain ⟨e, y, rfl, h⟩ := h
  exact ⟨_, _, rfl, by decide, rfl⟩

def fX8_yards (x : Int32) (y : Int32) (μ : wM) : Int32 × wM := (if (w_inB x 0 9) = true then (if (w_inB y (-50) 50) = true then ((μ 10 (x : Int32).toNatClampNeg), (w_up μ 10 (x : Int32).toNatClampNeg y)) else ((-1001), μ)) else ((-1001), μ))
/-! X8_yards -/
def pX8_yards (x : Int32) (y : Int32) (μ : wM) : Prop := w_JX μ
def qX8_yards (x : Int32) (y : Int32) (μ : wM) (r : Int32) (μ' : wM) : Prop := r = (fX8_yards x y μ).1 ∧ μ' = (fX8_yards x y μ).2
def sX8_yards : wS := (false, false, 3, fun as μ => ∃ x, ∃ y, as = [.ref 0, .int x, .int y] ∧ pX8_yards x y μ, fun as μ r μ' => match as with
  | [.ref _, .int x, .int y] => qX8_yards x y μ r μ'
  | _ => False)
def gX8_yards : Nat → Option wS := fun k => match k with
  | 1 => some sX8_in
  | 125 => some sX8_isMan
  | _ => none
def uX8_yards : Nat → Option (List Nat) := fun _ => none
set_option maxHeartbeats 4000000 in
set_option maxRecDepth 100000 in
theorem vcX8_yards_0 (K : wK) (R : Int32 → wM → Prop) (x : Int32) (y : Int32) (μ : wM) (h : (
    ((w_inB x 0 9) = false → R (-1001) μ) ∧
    ((w_inB x 0 9) = true → (
      ((w_inB y (-50) 50) = false → R (-1001) μ) ∧
      ((w_inB y (-50) 50) = true → (vp_in x 10) ∧ R (μ 10 (x : Int32).toNatClampNeg) (w_up μ 10 (x : Int32).toNatClampNeg y)))))) : w_n 8 gX8_yards shM rfM 32 (some .int) R tX8_yards uX8_yards K 21 0 [some (.ref 0), some (.int x), some (.int y), none] [] μ :=
  And.intro (Exists.intro _ (And.intro rfl (trivial))) (fun _ _ z1441 => by obtain ⟨z1439, z1440⟩ := z1441; have z1439 := z1439.symm; have z1440 := z1440.symm; subst z1439; subst z1440; exact And.intro (fun z1442 => And.intro trivial ((h.1 (w_B01_0.mp z1442)))) (fun z1443 => And.intro (Exists.intro _ (Exists.intro _ (Exists.intro _ (And.intro rfl (trivial))))) (fun _ _ z1446 => by obtain ⟨z1444, z1445⟩ := z1446; have z1444 := z1444.symm; have z1445 := z1445.symm; subst z1444; subst z1445; exact And.intro (fun z1447 => And.intro trivial (((h.2 (w_B01_n.mp z1443)).1 (w_B01_0.mp z1447)))) (fun z1448 => And.intro (And.intro (of_decide_eq_true rfl) rfl) (And.intro (And.intro (of_decide_eq_true rfl) (Exists.intro _ (And.intro rfl (((h.2 (w_B01_n.mp z1443)).2 (w_B01_n.mp z1448)).1)))) (And.intro (And.intro (of_decide_eq_true rfl) rfl) (And.intro (And.intro (of_decide_eq_true rfl) (Exists.intro _ (And.intro rfl (((h.2 (w_B01_n.mp z1443)).2 (w_B01_n.mp z1448)).1)))) (And.intro trivial (((h.2 (w_B01_n.mp z1443)).2 (w_B01_n.mp z1448)).2)))))))))
set_option maxHeartbeats 4000000 in
theorem vX8_yards (x : Int32) (y : Int32) (μ : wM) (h : pX8_yards x y μ) (K : wK) (hK : w_cl 8 gX8_yards shM rfM 32 (some .int) (qX8_yards x y μ) tX8_yards K) : K 0 [some (.ref 0), some (.int x), some (.int y), none] [] μ := by
  refine hK uX8_yards 21 _ _ _ _ (vcX8_yards_0 K _ x y μ ?_)
  clear hK
  unfold pX8_yards at h
  have h0 := h
  unfold w_JX at h
  refine And.intro (fun z80 => ?_) (fun z80 => ?_)
  · unfold qX8_yards fX8_yards
    rw [if_neg (by rw [z80]; exact Bool.false_ne_true)]
    exact ⟨rfl, rfl⟩
  · refine And.intro (fun z81 => ?_) (fun z81 => ?_)
    · unfold qX8_yards fX8_yards
      rw [if_pos z80, if_neg (by rw [z81]; exact Bool.false_ne_true)]
      exact ⟨rfl, rfl⟩
    · refine And.intro (by first | exact inM_in h.1 (by assumption) | exact in9 (by assumption) | exact in3 (by assumption) | exact in2 (by assumption) | exact ne8_in h.1 (by assumption) | exact ne8_in h.2.2.1 (by assumption) | exact ne160_in h.2.1 (by assumption) | exact ord_in h.2.2.2.1 (by assumption) | exact h.2.1 | (simp_all; done)) ?_
      unfold qX8_yards fX8_yards
      rw [if_pos z80, if_pos z81]
      exact ⟨rfl, rfl⟩
set_option maxRecDepth 100000 in
theorem zX8_yards (l : Launch) : ∀ (idx : Nat) (S : wS), gX8_yards idx = some S → w_Call l 8 idx S 3 shM rfM 32 := by
  intro idx S hS
  unfold gX8_yards at hS
  split at hS
  · cases hS
    exact w_callS (mX8_in l) eX8_in.1 (by decide +kernel) eX8_in.2.1 eX8_in.2.2 (by decide +kernel) (by decide) (by decide)
  · cases hS
    exact w_callS (mX8_isMan l) eX8_isMan.1 (by decide +kernel) eX8_isMan.2.1 eX8_isMan.2.2 (by decide +kernel) (by decide) (by decide)
  · cases hS
theorem mX8_yards (l : Launch) : w_Met l yX8_yards cX8_yards 4 (some .int) 3 shM rfM 32 sX8_yards.2.2.2.1 sX8_yards.2.2.2.2 :=
  w_meth (o := 8) (Γ := gX8_yards) (tb := tX8_yards) (by decide +kernel) rfl kX8_yards rfl (zX8_yards l) (fun as μ h => by obtain ⟨x, y, rfl, h⟩ := h; exact Nat.le_of_ble_eq_true rfl) (fun as μ h K hK => by obtain ⟨x, y, rfl, h⟩ := h; exact vX8_yards x y μ h K hK)
set_option maxRecDepth 100000 in
theorem eX8_yards : Cond.code yX8_yards cX8_yards 4 (some .int) ∈ w_tbl ∧ Cond.instanceMethod yX8_yards ∈ w_tbl ∧ Cond.selects (w_C 8) yX8_yards yX8_yards ∈ w_tbl ∧ Cond.initialized yX8_yards.cls ∈ w_tbl := ⟨by decide +kernel, by decide +kernel, by decide +kernel, by decide +kernel⟩
theorem rX8_yards : ∀ as μ, sX8_yards.2.2.2.1 as μ → ∃ q as', as = .ref q :: as' ∧ q < 32 ∧ shM q = .inl 8 := by
  intro as μ h
  obtain ⟨x, y, rfl, h⟩ := h
  exact ⟨_, _, rfl, by decide, rfl⟩

def fX8_drop (s : Int32) (μ : wM) : Int32 × wM := (if (w_inB s 0 3) = true then (if ((0 : Int32) ≤ (μ 21 (s : Int32).toNatClampNeg)) then ((μ 22 (s : Int32).toNatClampNeg), (w_up μ 21 (s : Int32).toNatClampNeg (-1))) else ((-11), μ)) else ((-1), μ))
/-! X8_drop -/
def pX8_drop (s : Int32) (μ : wM) : Prop := w_JX μ
def qX8_drop (s : Int32) (μ : wM) (r : Int32) (μ' : wM) : Prop := r = (fX8_drop s μ).1 ∧ μ' = (fX8_drop s μ).2
def sX8_drop : wS := (false, false, 2, fun as μ => ∃ s, as = [.ref 0, .int s] ∧ pX8_drop s μ, fun as μ r μ' => match as with
  | [.ref _, .int s] => qX8_drop s μ r μ'
  | _ => False)
def gX8_drop : Nat → Option wS := fun k => match k with
  | 170 => some sX8_isSheet
  | _ => none
def uX8_drop : Nat → Option (List Nat) := fun _ => none
set_option maxHeartbeats 4000000 in
set_option maxRecDepth 100000 in
theorem vcX8_drop_0 (K : wK) (R : Int32 → wM → Prop) (s : Int32) (μ : wM) (h : (
    ((w_inB s 0 3) = false → R (-1) μ) ∧
    ((w_inB s 0 3) = true → (vp_in s 4) ∧ (
      (((0 : Int32) ≤ (μ 21 (s : Int32).toNatClampNeg)) → R (μ 22 (s : Int32).toNatClampNeg) (w_up μ 21 (s : Int32).toNatClampNeg (-1))) ∧
      (¬ ((0 : Int32) ≤ (μ 21 (s : Int32).toNatClampNeg)) → R (-11) μ))))) : w_n 8 gX8_drop shM rfM 32 (some .int) R tX8_drop uX8_drop K 19 0 [some (.ref 0), some (.int s)] [] μ :=
  And.intro (Exists.intro _ (And.intro rfl (trivial))) (fun _ _ z1458 => by obtain ⟨z1456, z1457⟩ := z1458; have z1456 := z1456.symm; have z1457 := z1457.symm; subst z1456; subst z1457; exact And.intro (fun z1459 => And.intro trivial ((h.1 (w_B01_0.mp z1459)))) (fun z1460 => And.intro (And.intro (of_decide_eq_true rfl) rfl) (And.intro (And.intro (of_decide_eq_true rfl) (Exists.intro _ (And.intro rfl ((h.2 (w_B01_n.mp z1460)).1)))) (And.intro (fun z1461 => And.intro (And.intro (of_decide_eq_true rfl) rfl) (And.intro (And.intro (of_decide_eq_true rfl) (Exists.intro _ (And.intro rfl ((h.2 (w_B01_n.mp z1460)).1)))) (And.intro (And.intro (of_decide_eq_true rfl) rfl) (And.intro (And.intro (of_decide_eq_true rfl) (Exists.intro _ (And.intro rfl ((h.2 (w_B01_n.mp z1460)).1)))) (And.intro trivial (((h.2 (w_B01_n.mp z1460)).2.1 z1461))))))) (fun z1462 => And.intro trivial (((h.2 (w_B01_n.mp z1460)).2.2 z1462)))))))
set_option maxHeartbeats 4000000 in
theorem vX8_drop (s : Int32) (μ : wM) (h : pX8_drop s μ) (K : wK) (hK : w_cl 8 gX8_drop shM rfM 32 (some .int) (qX8_drop s μ) tX8_drop K) : K 0 [some (.ref 0), some (.int s)] [] μ := by
  refine hK uX8_drop 19 _ _ _ _ (vcX8_drop_0 K _ s μ ?_)
  clear hK
  unfold pX8_drop at h
  have h0 := h
  unfold w_JX at h
  refine And.intro (fun z82 => ?_) (fun z82 => ?_)
  · unfold qX8_drop fX8_drop
    rw [if_neg (by rw [z82]; exact Bool.false_ne_true)]
    exact ⟨rfl, rfl⟩
  · refine And.intro (by first | exact inM_in h.1 (by assumption) | exact in9 (by assumption) | exact in3 (by assumption) | exact in2 (by assumption) | exact ne8_in h.1 (by assumption) | exact ne8_in h.2.2.1 (by assumption) | exact ne160_in h.2.1 (by assumption) | exact ord_in h.2.2.2.1 (by assumption) | exact h.2.1 | (simp_all; done)) ?_
    refine And.intro (fun z83 => ?_) (fun z83 => ?_)
    · unfold qX8_drop fX8_drop
      rw [if_pos z82, if_pos z83]
      exact ⟨rfl, rfl⟩
    · unfold qX8_drop fX8_drop
      rw [if_pos z82, if_neg z83]
      exact ⟨rfl, rfl⟩
set_option maxRecDepth 100000 in
theorem zX8_drop (l : Launch) : ∀ (idx : Nat) (S : wS), gX8_drop idx = some S → w_Call l 8 idx S 3 shM rfM 32 := by
  intro idx S hS
  unfold gX8_drop at hS
  split at hS
  · cases hS
    exact w_callS (mX8_isSheet l) eX8_isSheet.1 (by decide +kernel) eX8_isSheet.2.1 eX8_isSheet.2.2 (by decide +kernel) (by decide) (by decide)
  · cases hS
theorem mX8_drop (l : Launch) : w_Met l yX8_drop cX8_drop 2 (some .int) 3 shM rfM 32 sX8_drop.2.2.2.1 sX8_drop.2.2.2.2 :=
  w_meth (o := 8) (Γ := gX8_drop) (tb := tX8_drop) (by decide +kernel) rfl kX8_drop rfl (zX8_drop l) (fun as μ h => by obtain ⟨s, rfl, h⟩ := h; exact Nat.le_of_ble_eq_true rfl) (fun as μ h K hK => by obtain ⟨s, rfl, h⟩ := h; exact vX8_drop s μ h K hK)
set_option maxRecDepth 100000 in
theorem eX8_drop : Cond.code yX8_drop cX8_drop 2 (some .int) ∈ w_tbl ∧ Cond.instanceMethod yX8_drop ∈ w_tbl ∧ Cond.selects (w_C 8) yX8_drop yX8_drop ∈ w_tbl ∧ Cond.initialized yX8_drop.cls ∈ w_tbl := ⟨by decide +kernel, by decide +kernel, by decide +kernel, by decide +kernel⟩
theorem rX8_drop : ∀ as μ, sX8_drop.2.2.2.1 as μ → ∃ q as', as = .ref q :: as' ∧ q < 32 ∧ shM q = .inl 8 := by
  intro as μ h
  obtain ⟨s, rfl, h⟩ := h
  exact ⟨_, _, rfl, by decide, rfl⟩

def fX8_fail (e : Int32) (i : Int32) (μ : wM) : Int32 × wM := (if (w_inB e 0 (μ 0 0 - 1)) = true then (if (((μ 6 (e : Int32).toNatClampNeg) : Int32) = 0) then (0, (w_up μ 6 (e : Int32).toNatClampNeg i)) else (1, (w_up μ 6 (e : Int32).toNatClampNeg i))) else ((-1), μ))
/-! X8_fail -/
def pX8_fail (e : Int32) (i : Int32) (μ : wM) : Prop := w_JX μ ∧ w_bit i
def qX8_fail (e : Int32) (i : Int32) (μ : wM) (r : Int32) (μ' : wM) : Prop := r = (fX8_fail e i μ).1 ∧ μ' = (fX8_fail e i μ).2
def sX8_fail : wS := (false, false, 3, fun as μ => ∃ e, ∃ i, as = [.ref 0, .int e, .int i] ∧ pX8_fail e i μ, fun as μ r μ' => match as with
  | [.ref _, .int e, .int i] => qX8_fail e i μ r μ'
  | _ => False)
def gX8_fail : Nat → Option wS := fun k => match k with
  | 121 => some sX8_isEvent
  | _ => none
def uX8_fail : Nat → Option (List Nat) := fun _ => none
set_option maxHeartbeats 4000000 in
set_option maxRecDepth 100000 in
theorem vcX8_fail_0 (K : wK) (R : Int32 → wM → Prop) (e : Int32) (i : Int32) (μ : wM) (h : (
    ((w_inB e 0 (μ 0 0 - 1)) = false → R (-1) μ) ∧
    ((w_inB e 0 (μ 0 0 - 1)) = true → (vp_in e 8) ∧ (w_bit i) ∧ (
      ((((μ 6 (e : Int32).toNatClampNeg) : Int32) = 0) → R 0 (w_up μ 6 (e : Int32).toNatClampNeg i)) ∧
      (¬ (((μ 6 (e : Int32).toNatClampNeg) : Int32) = 0) → R 1 (w_up μ 6 (e : Int32).toNatClampNeg i)))))) : w_n 8 gX8_fail shM rfM 32 (some .int) R tX8_fail uX8_fail K 20 0 [some (.ref 0), some (.int e), some (.int i), none] [] μ :=
  And.intro (Exists.intro _ (And.intro rfl (trivial))) (fun _ _ z1472 => by obtain ⟨z1470, z1471⟩ := z1472; have z1470 := z1470.symm; have z1471 := z1471.symm; subst z1470; subst z1471; exact And.intro (fun z1473 => And.intro trivial ((h.1 (w_B01_0.mp z1473)))) (fun z1474 => And.intro (And.intro (of_decide_eq_true rfl) rfl) (And.intro (And.intro (of_decide_eq_true rfl) (Exists.intro _ (And.intro rfl ((h.2 (w_B01_n.mp z1474)).1)))) (And.intro (And.intro (of_decide_eq_true rfl) rfl) (And.intro (And.intro (And.intro (of_decide_eq_true rfl) (Exists.intro _ (And.intro rfl ((h.2 (w_B01_n.mp z1474)).1)))) (((h.2 (w_B01_n.mp z1474)).2.1))) (And.intro (fun z1475 => And.intro trivial (((h.2 (w_B01_n.mp z1474)).2.2.1 z1475))) (fun z1476 => And.intro trivial (((h.2 (w_B01_n.mp z1474)).2.2.2 z1476)))))))))
set_option maxHeartbeats 4000000 in
theorem vX8_fail (e : Int32) (i : Int32) (μ : wM) (h : pX8_fail e i μ) (K : wK) (hK : w_cl 8 gX8_fail shM rfM 32 (some .int) (qX8_fail e i μ) tX8_fail K) : K 0 [some (.ref 0), some (.int e), some (.int i), none] [] μ := by
  refine hK uX8_fail 20 _ _ _ _ (vcX8_fail_0 K _ e i μ ?_)
  clear hK
  unfold pX8_fail at h
  have h0 := h
  unfold w_JX at h
  refine And.intro (fun z84 => ?_) (fun z84 => ?_)
  · unfold qX8_fail fX8_fail
    rw [if_neg (by rw [z84]; exact Bool.false_ne_true)]
    exact ⟨rfl, rfl⟩
  · refine And.intro (by first | exact inM_in h.1.1 (by assumption) | exact in9 (by assumption) | exact in3 (by assumption) | exact in2 (by assumption) | exact ne8_in h.1.1 (by assumption) | exact ne8_in h.1.2.2.1 (by assumption) | exact ne160_in h.1.2.1 (by assumption) | exact ord_in h.1.2.2.2.1 (by assumption) | exact h.1.2.1 | (simp_all; done)) ?_
    refine And.intro (by first | exact inM_in h.1.1 (by assumption) | exact in9 (by assumption) | exact in3 (by assumption) | exact in2 (by assumption) | exact ne8_in h.1.1 (by assumption) | exact ne8_in h.1.2.2.1 (by assumption) | exact ne160_in h.1.2.1 (by assumption) | exact ord_in h.1.2.2.2.1 (by assumption) | exact h.1.2.1 | (simp_all; done)) ?_
    refine And.intro (fun z85 => ?_) (fun z85 => ?_)
    · unfold qX8_fail fX8_fail
      rw [if_pos z84, if_pos z85]
      exact ⟨rfl, rfl⟩
    · unfold qX8_fail fX8_fail
      rw [if_pos z84, if_neg z85]
      exact ⟨rfl, rfl⟩
set_option maxRecDepth 100000 in
theorem zX8_fail (l : Launch) : ∀ (idx : Nat) (S : wS), gX8_fail idx = some S → w_Call l 8 idx S 3 shM rfM 32 := by
  intro idx S hS
  unfold gX8_fail at hS
  split at hS
  · cases hS
    exact w_callV (ci := 8) (mX8_isEvent l) (by decide) rX8_isEvent eX8_isEvent.1 (by decide +kernel) eX8_isEvent.2.1 eX8_isEvent.2.2.1 eX8_isEvent.2.2.2 (by decide +kernel) (by decide) (by decide)
  · cases hS
theorem mX8_fail (l : Launch) : w_Met l yX8_fail cX8_fail 4 (some .int) 3 shM rfM 32 sX8_fail.2.2.2.1 sX8_fail.2.2.2.2 :=
  w_meth (o := 8) (Γ := gX8_fail) (tb := tX8_fail) (by decide +kernel) rfl kX8_fail rfl (zX8_fail l) (fun as μ h => by obtain ⟨e, i, rfl, h⟩ := h; exact Nat.le_of_ble_eq_true rfl) (fun as μ h K hK => by obtain ⟨e, i, rfl, h⟩ := h; exact vX8_fail e i μ h K hK)
set_option maxRecDepth 100000 in
theorem eX8_fail : Cond.code yX8_fail cX8_fail 4 (some .int) ∈ w_tbl ∧ Cond.instanceMethod yX8_fail ∈ w_tbl ∧ Cond.selects (w_C 8) yX8_fail yX8_fail ∈ w_tbl ∧ Cond.initialized yX8_fail.cls ∈ w_tbl := ⟨by decide +kernel, by decide +kernel, by decide +kernel, by decide +kernel⟩
theorem rX8_fail : ∀ as μ, sX8_fail.2.2.2.1 as μ → ∃ q as', as = .ref q :: as' ∧ q < 32 ∧ shM q = .inl 8 := by
  intro as μ h
  obtain ⟨e, i, rfl, h⟩ := h
  exact ⟨_, _, rfl, by decide, rfl⟩

def fX8_purse (e : Int32) (p : Int32) (μ : wM) : Int32 × wM := (if (w_inB e 0 (μ 0 0 - 1)) = true then (if (w_inB p 0 100000) = true then ((μ 5 (e : Int32).toNatClampNeg), (w_up μ 5 (e : Int32).toNatClampNeg p)) else ((-1), μ)) else ((-1), μ))
/-! X8_purse -/
def pX8_purse (e : Int32) (p : Int32) (μ : wM) : Prop := w_JX μ
def qX8_purse (e : Int32) (p : Int32) (μ : wM) (r : Int32) (μ' : wM) : Prop := r = (fX8_purse e p μ).1 ∧ μ' = (fX8_purse e p μ).2
def sX8_purse : wS := (false, false, 3, fun as μ => ∃ e, ∃ p, as = [.ref 0, .int e, .int p] ∧ pX8_purse e p μ, fun as μ r μ' => match as with
  | [.ref _, .int e, .int p] => qX8_purse e p μ r μ'
  | _ => False)
def gX8_purse : Nat → Option wS := fun k => match k with
  | 1 => some sX8_in
  | 121 => some sX8_isEvent
  | _ => none
def uX8_purse : Nat → Option (List Nat) := fun _ => none
set_option maxHeartbeats 4000000 in
set_option maxRecDepth 100000 in
theorem vcX8_purse_0 (K : wK) (R : Int32 → wM → Prop) (e : Int32) (p : Int32) (μ : wM) (h : (
    ((w_inB e 0 (μ 0 0 - 1)) = false → R (-1) μ) ∧
    ((w_inB e 0 (μ 0 0 - 1)) = true → (
      ((w_inB p 0 100000) = false → R (-1) μ) ∧
      ((w_inB p 0 100000) = true → (vp_in e 8) ∧ R (μ 5 (e : Int32).toNatClampNeg) (w_up μ 5 (e : Int32).toNatClampNeg p)))))) : w_n 8 gX8_purse shM rfM 32 (some .int) R tX8_purse uX8_purse K 22 0 [some (.ref 0), some (.int e), some (.int p), none] [] μ :=
  And.intro (Exists.intro _ (And.intro rfl (trivial))) (fun _ _ z1489 => by obtain ⟨z1487, z1488⟩ := z1489; have z1487 := z1487.symm; have z1488 := z1488.symm; subst z1487; subst z1488; exact And.intro (fun z1490 => And.intro trivial ((h.1 (w_B01_0.mp z1490)))) (fun z1491 => And.intro (Exists.intro _ (Exists.intro _ (Exists.intro _ (And.intro rfl (trivial))))) (fun _ _ z1494 => by obtain ⟨z1492, z1493⟩ := z1494; have z1492 := z1492.symm; have z1493 := z1493.symm; subst z1492; subst z1493; exact And.intro (fun z1495 => And.intro trivial (((h.2 (w_B01_n.mp z1491)).1 (w_B01_0.mp z1495)))) (fun z1496 => And.intro (And.intro (of_decide_eq_true rfl) rfl) (And.intro (And.intro (of_decide_eq_true rfl) (Exists.intro _ (And.intro rfl (((h.2 (w_B01_n.mp z1491)).2 (w_B01_n.mp z1496)).1)))) (And.intro (And.intro (of_decide_eq_true rfl) rfl) (And.intro (And.intro (of_decide_eq_true rfl) (Exists.intro _ (And.intro rfl (((h.2 (w_B01_n.mp z1491)).2 (w_B01_n.mp z1496)).1)))) (And.intro trivial (((h.2 (w_B01_n.mp z1491)).2 (w_B01_n.mp z1496)).2)))))))))
set_option maxHeartbeats 4000000 in
theorem vX8_purse (e : Int32) (p : Int32) (μ : wM) (h : pX8_purse e p μ) (K : wK) (hK : w_cl 8 gX8_purse shM rfM 32 (some .int) (qX8_purse e p μ) tX8_purse K) : K 0 [some (.ref 0), some (.int e), some (.int p), none] [] μ := by
  refine hK uX8_purse 22 _ _ _ _ (vcX8_purse_0 K _ e p μ ?_)
  clear hK
  unfold pX8_purse at h
  have h0 := h
  unfold w_JX at h
  refine And.intro (fun z86 => ?_) (fun z86 => ?_)
  · unfold qX8_purse fX8_purse
    rw [if_neg (by rw [z86]; exact Bool.false_ne_true)]
    exact ⟨rfl, rfl⟩
  · refine And.intro (fun z87 => ?_) (fun z87 => ?_)
    · unfold qX8_purse fX8_purse
      rw [if_pos z86, if_neg (by rw [z87]; exact Bool.false_ne_true)]
      exact ⟨rfl, rfl⟩
    · refine And.intro (by first | exact inM_in h.1 (by assumption) | exact in9 (by assumption) | exact in3 (by assumption) | exact in2 (by assumption) | exact ne8_in h.1 (by assumption) | exact ne8_in h.2.2.1 (by assumption) | exact ne160_in h.2.1 (by assumption) | exact ord_in h.2.2.2.1 (by assumption) | exact h.2.1 | (simp_all; done)) ?_
      unfold qX8_purse fX8_purse
      rw [if_pos z86, if_pos z87]
      exact ⟨rfl, rfl⟩
set_option maxRecDepth 100000 in
theorem zX8_purse (l : Launch) : ∀ (idx : Nat) (S : wS), gX8_purse idx = some S → w_Call l 8 idx S 3 shM rfM 32 := by
  intro idx S hS
  unfold gX8_purse at hS
  split at hS
  · cases hS
    exact w_callS (mX8_in l) eX8_in.1 (by decide +kernel) eX8_in.2.1 eX8_in.2.2 (by decide +kernel) (by decide) (by decide)
  · cases hS
    exact w_callV (ci := 8) (mX8_isEvent l) (by decide) rX8_isEvent eX8_isEvent.1 (by decide +kernel) eX8_isEvent.2.1 eX8_isEvent.2.2.1 eX8_isEvent.2.2.2 (by decide +kernel) (by decide) (by decide)
  · cases hS
theorem mX8_purse (l : Launch) : w_Met l yX8_purse cX8_purse 4 (some .int) 3 shM rfM 32 sX8_purse.2.2.2.1 sX8_purse.2.2.2.2 :=
  w_meth (o := 8) (Γ := gX8_purse) (tb := tX8_purse) (by decide +kernel) rfl kX8_purse rfl (zX8_purse l) (fun as μ h => by obtain ⟨e, p, rfl, h⟩ := h; exact Nat.le_of_ble_eq_true rfl) (fun as μ h K hK => by obtain ⟨e, p, rfl, h⟩ := h; exact vX8_purse e p μ h K hK)
set_option maxRecDepth 100000 in
theorem eX8_purse : Cond.code yX8_purse cX8_purse 4 (some .int) ∈ w_tbl ∧ Cond.instanceMethod yX8_purse ∈ w_tbl ∧ Cond.selects (w_C 8) yX8_purse yX8_purse ∈ w_tbl ∧ Cond.initialized yX8_purse.cls ∈ w_tbl := ⟨by decide +kernel, by decide +kernel, by decide +kernel, by decide +kernel⟩
theorem rX8_purse : ∀ as μ, sX8_purse.2.2.2.1 as μ → ∃ q as', as = .ref q :: as' ∧ q < 32 ∧ shM q = .inl 8 := by
  intro as μ h
  obtain ⟨e, p, rfl, h⟩ := h
  exact ⟨_, _, rfl, by decide, rfl⟩
end
section
theorem w_IX.LV {μ : wM} (h : w_IX μ) {E : Nat} (hE : E < 8) : w_LV μ (E + 27) := by
  obtain ⟨h1, h2, h3, h4, h5, -⟩ := h
  intro i hi he
  obtain ⟨a1, e, he8, a2, a3⟩ := h5 i hi
  rw [h4 E hE, a2] at he
  have : e = E := (nI_eq (by omega) (by omega)).mp he
  subst this
  exact ⟨a1, a3⟩
theorem rd_ok {μ : wM} {e n : Int32} (h : w_IX μ) (z : w_hasB (μ 1 1) e = true) (zn : w_inB n 0 (μ 2 5) = true) : pX0_read (Int32.toNatClampNeg e + 27) n μ := by
  have he := has_in h.1 z
  obtain ⟨z1, z2⟩ := w_inB_t.mp zn
  exact ⟨(ev_ok he).1, (ev_ok he).2, by omega, h.2.1, z1, z2, h.LV (vp_in_lt he), h.2.2.1⟩
theorem rd_okc {μ : wM} {e : Int32} (h : w_IX μ) (he : vp_in e 8) : pX0_read (Int32.toNatClampNeg e + 27) (μ 2 5) μ := by
  obtain ⟨C, hC, hCn, -⟩ := vp_in_le h.2.1 (by decide)
  exact ⟨(ev_ok he).1, (ev_ok he).2, by omega, h.2.1, by rw [hCn]; exact nI_pos' (by omega), by rw [hCn]; exact nI_le (Nat.le_refl _) (by omega), h.LV (vp_in_lt he), h.2.2.1⟩
theorem mk_ok {x k : Int32} (hx : w_inB x 0 9 = true) (hk : w_inB k 0 5 = true) : vp_in (x * 6 + k) 60 := by
  obtain ⟨X, hX, rfl, -⟩ := vp_in_le (in9 hx) (by decide)
  obtain ⟨k, hK, rfl, -⟩ := vp_in_le (in_in (k := 5) (by decide) hk) (by decide)
  rw [ix6]
  exact vp_in_nI (by omega) (by omega)
theorem in50 {k : Int32} (hk : w_inB k 0 0 = true) : w_inB k 0 5 = true := by
  obtain ⟨k, hK, rfl, -⟩ := vp_in_le (in_in (k := 0) (by decide) hk) (by decide)
  rw [show k = 0 by omega]
  decide
theorem ty_ok1 {n : Int32} (z : w_inB n 1 8 = true) : 1 ≤ n ∧ n ≤ 8 := w_inB_t.mp z
theorem ty_ok2 {μ : wM} {n : Int32} (h : w_IX μ) (z : w_inB n 1 8 = true) (zf : decide (40 < μ 4 1 + n) = false) : vp_in (μ 4 1) 41 ∧ 1 ≤ n ∧ n ≤ 8 ∧ (μ 4 1).toNatClampNeg + n.toNatClampNeg ≤ 40 := by
  obtain ⟨z1, z2⟩ := w_inB_t.mp z
  obtain ⟨L, hL, hLn, hLc⟩ := vp_in_le h.2.2.2.2.2.1 (by decide)
  obtain ⟨N, hN, hNn⟩ : ∃ N : Nat, N ≤ 8 ∧ n = nI N := nI_of2 (M := 8) (n := 8) rfl (fun q => by
    have := i_le.mp z1
    have := i_lt.mp q
    have e1 : (1 : Int32).toInt = 1 := rfl
    have e0 : (0 : Int32).toInt = 0 := rfl
    omega) z2
  refine ⟨h.2.2.2.2.2.1, z1, z2, ?_⟩
  have zf := of_decide_eq_false zf
  rw [hLn, hNn, nI_add] at zf
  rw [hLc, hNn, nI_clamp (by omega)]
  rcases Nat.lt_or_ge 40 (L + N) with q | q
  · exact absurd (nI_lt (a := 40) q (by omega)) zf
  · exact q
theorem stp {s : Int32} (h : vp_in s 4) : Int32.toNatClampNeg s + 35 < 43 ∧ shX (Int32.toNatClampNeg s + 35) = .inl 5 ∧ True := ⟨(st_ok h).1, (st_ok h).2, trivial⟩
theorem stp2 {s : Int32} (h : vp_in s 4) : Int32.toNatClampNeg s + 35 < 43 ∧ shX (Int32.toNatClampNeg s + 35) = .inl 5 ∧ ∃ j, j < 4 ∧ Int32.toNatClampNeg s + 35 = j + 35 := ⟨(st_ok h).1, (st_ok h).2, _, vp_in_lt h, rfl⟩
def fX7_type (w : Int64) (n : Int32) (μ : wM) : Int32 × wM := (if (w_inB n 1 8) = true then (if (w_typ w (n : Int32).toNatClampNeg) = true then (if (decide (40 < μ 4 1 + n)) = true then ((-3), μ) else ((nI ((μ 4 1).toNatClampNeg + (n : Int32).toNatClampNeg)), (w_tp μ w (n : Int32).toNatClampNeg (μ 4 1).toNatClampNeg (n : Int32).toNatClampNeg))) else ((-1), μ)) else ((-1), μ))
/-! X7_type -/
def pX7_type (w : Int64) (n : Int32) (μ : wM) : Prop := w_IX μ
def qX7_type (w : Int64) (n : Int32) (μ : wM) (r : Int32) (μ' : wM) : Prop := r = (fX7_type w n μ).1 ∧ μ' = (fX7_type w n μ).2
def sX7_type : wS := (false, false, 3, fun as μ => ∃ w, ∃ n, as = [.ref 0, .long w, .int n] ∧ pX7_type w n μ, fun as μ r μ' => match as with
  | [.ref _, .long w, .int n] => qX7_type w n μ r μ'
  | _ => False)
def gX7_type : Nat → Option wS := fun k => match k with
  | 55 => some sX7_within
  | 202 => some sX6_isTypable
  | 206 => some sX6_isFullFor
  | 207 => some sX6_add
  | _ => none
def uX7_type : Nat → Option (List Nat) := fun _ => none
set_option maxHeartbeats 4000000 in
set_option maxRecDepth 100000 in
theorem vcX7_type_0 (K : wK) (R : Int32 → wM → Prop) (w : Int64) (n : Int32) (μ : wM) (h : (
    ((w_inB n 1 8) = false → R (-1) μ) ∧
    ((w_inB n 1 8) = true → pX6_isTypable w n μ ∧ (
      ((w_typ w (n : Int32).toNatClampNeg) = false → R (-1) μ) ∧
      ((w_typ w (n : Int32).toNatClampNeg) = true → (
        ((decide (40 < μ 4 1 + n)) = false → pX6_add w n μ ∧ R (nI ((μ 4 1).toNatClampNeg + (n : Int32).toNatClampNeg)) (w_tp μ w (n : Int32).toNatClampNeg (μ 4 1).toNatClampNeg (n : Int32).toNatClampNeg)) ∧
        ((decide (40 < μ 4 1 + n)) = true → R (-3) μ))))))) : w_n 7 gX7_type shX rfX 43 (some .int) R tX7_type uX7_type K 21 0 [some (.ref 0), some (.long w), none, some (.int n)] [] μ :=
  And.intro (Exists.intro _ (Exists.intro _ (Exists.intro _ (And.intro rfl (trivial))))) (fun _ _ z981 => by obtain ⟨z979, z980⟩ := z981; have z979 := z979.symm; have z980 := z980.symm; subst z979; subst z980; exact And.intro (fun z982 => And.intro trivial ((h.1 (w_B01_0.mp z982)))) (fun z983 => And.intro (Exists.intro _ (Exists.intro _ (And.intro rfl ((h.2 (w_B01_n.mp z983)).1)))) (fun _ _ z986 => by obtain ⟨z984, z985⟩ := z986; have z984 := z984.symm; have z985 := z985.symm; subst z984; subst z985; exact And.intro (fun z987 => And.intro trivial (((h.2 (w_B01_n.mp z983)).2.1 (w_B01_0.mp z987)))) (fun z988 => And.intro (And.intro (of_decide_eq_true rfl) rfl) (And.intro (Exists.intro _ (And.intro rfl (trivial))) (fun _ _ z991 => by obtain ⟨z989, z990⟩ := z991; have z989 := z989.symm; have z990 := z990.symm; subst z989; subst z990; exact And.intro (fun z992 => And.intro (And.intro (of_decide_eq_true rfl) rfl) (And.intro (Exists.intro _ (Exists.intro _ (And.intro rfl ((((h.2 (w_B01_n.mp z983)).2.2 (w_B01_n.mp z988)).1 (w_B01_0.mp z992)).1)))) (fun _ _ z996 => by obtain ⟨z994, z995⟩ := z996; have z994 := z994.symm; have z995 := z995.symm; subst z994; subst z995; exact And.intro trivial ((((h.2 (w_B01_n.mp z983)).2.2 (w_B01_n.mp z988)).1 (w_B01_0.mp z992)).2)))) (fun z993 => And.intro trivial ((((h.2 (w_B01_n.mp z983)).2.2 (w_B01_n.mp z988)).2 (w_B01_n.mp z993))))))))))
set_option maxHeartbeats 4000000 in
theorem vX7_type (w : Int64) (n : Int32) (μ : wM) (h : pX7_type w n μ) (K : wK) (hK : w_cl 7 gX7_type shX rfX 43 (some .int) (qX7_type w n μ) tX7_type K) : K 0 [some (.ref 0), some (.long w), none, some (.int n)] [] μ := by
  refine hK uX7_type 21 _ _ _ _ (vcX7_type_0 K _ w n μ ?_)
  clear hK
  unfold pX7_type at h
  have h0 := h
  unfold w_IX at h
  refine And.intro (fun z34 => ?_) (fun z34 => ?_)
  · unfold qX7_type fX7_type
    rw [if_neg (by rw [z34]; exact Bool.false_ne_true)]
    exact ⟨rfl, rfl⟩
  · refine And.intro (by exact ty_ok1 (by assumption)) ?_
    refine And.intro (fun z35 => ?_) (fun z35 => ?_)
    · unfold qX7_type fX7_type
      rw [if_pos z34, if_neg (by rw [z35]; exact Bool.false_ne_true)]
      exact ⟨rfl, rfl⟩
    · refine And.intro (fun z36 => ?_) (fun z36 => ?_)
      · refine And.intro (by exact ty_ok2 h0 (by assumption) (by assumption)) ?_
        unfold qX7_type fX7_type
        rw [if_pos z34, if_pos z35, if_neg (by rw [z36]; exact Bool.false_ne_true)]
        exact ⟨rfl, rfl⟩
      · unfold qX7_type fX7_type
        rw [if_pos z34, if_pos z35, if_pos z36]
        exact ⟨rfl, rfl⟩
set_option maxRecDepth 100000 in
theorem zX7_type (l : Launch) : ∀ (idx : Nat) (S : wS), gX7_type idx = some S → w_Call l 7 idx S 3 shX rfX 43 := by
  intro idx S hS
  unfold gX7_type at hS
  split at hS
  · cases hS
    exact w_callS (mX7_within l) eX7_within.1 (by decide +kernel) eX7_within.2.1 eX7_within.2.2 (by decide +kernel) (by decide) (by decide)
  · cases hS
    exact w_callS (mX6_isTypable l) eX6_isTypable.1 (by decide +kernel) eX6_isTypable.2.1 eX6_isTypable.2.2 (by decide +kernel) (by decide) (by decide)
  · cases hS
    exact w_callV (ci := 6) (mX6_isFullFor l) (by decide) rX6_isFullFor eX6_isFullFor.1 (by decide +kernel) eX6_isFullFor.2.1 eX6_isFullFor.2.2.1 eX6_isFullFor.2.2.2 (by decide +kernel) (by decide) (by decide)
  · cases hS
    exact w_callV (ci := 6) (mX6_add l) (by decide) rX6_add eX6_add.1 (by decide +kernel) eX6_add.2.1 eX6_add.2.2.1 eX6_add.2.2.2 (by decide +kernel) (by decide) (by decide)
  · cases hS
theorem mX7_type (l : Launch) : w_Met l yX7_type cX7_type 4 (some .int) 3 shX rfX 43 sX7_type.2.2.2.1 sX7_type.2.2.2.2 :=
  w_meth (o := 7) (Γ := gX7_type) (tb := tX7_type) (by decide +kernel) rfl kX7_type rfl (zX7_type l) (fun as μ h => by obtain ⟨w, n, rfl, h⟩ := h; exact Nat.le_of_ble_eq_true rfl) (fun as μ h K hK => by obtain ⟨w, n, rfl, h⟩ := h; exact vX7_type w n μ h K hK)
set_option maxRecDepth 100000 in
theorem eX7_type : Cond.code yX7_type cX7_type 4 (some .int) ∈ w_tbl ∧ Cond.instanceMethod yX7_type ∈ w_tbl ∧ Cond.selects (w_C 7) yX7_type yX7_type ∈ w_tbl ∧ Cond.initialized yX7_type.cls ∈ w_tbl := ⟨by decide +kernel, by decide +kernel, by decide +kernel, by decide +kernel⟩
theorem rX7_type : ∀ as μ, sX7_type.2.2.2.1 as μ → ∃ q as', as = .ref q :: as' ∧ q < 43 ∧ shX q = .inl 7 := by
  intro as μ h
  obtain ⟨w, n, rfl, h⟩ := h
  exact ⟨_, _, rfl, by decide, rfl⟩

def fX7_sheet (s : Int32) (a : Int32) (n : Int32) (μ : wM) : Int32 × wM := (if (w_inB s 0 3) = true then (if (w_inB a 0 2) = true then (if ((n : Int32) ≤ 60) then (if ((0 : Int32) ≤ n) then ((n), (w_fill (w_up (w_up (w_up μ (Int32.toNatClampNeg s + 35) 1 1) (Int32.toNatClampNeg s + 35) 2 a) (Int32.toNatClampNeg s + 35) 3 n) ((Int32.toNatClampNeg s + 35) + 4) 60 0)) else ((-14), μ)) else ((-1), μ)) else ((-1), μ)) else ((-1), μ))
/-! X7_sheet -/
def pX7_sheet (s : Int32) (a : Int32) (n : Int32) (μ : wM) : Prop := w_IX μ
def qX7_sheet (s : Int32) (a : Int32) (n : Int32) (μ : wM) (r : Int32) (μ' : wM) : Prop := r = (fX7_sheet s a n μ).1 ∧ μ' = (fX7_sheet s a n μ).2
def sX7_sheet : wS := (false, false, 4, fun as μ => ∃ s, ∃ a, ∃ n, as = [.ref 0, .int s, .int a, .int n] ∧ pX7_sheet s a n μ, fun as μ r μ' => match as with
  | [.ref _, .int s, .int a, .int n] => qX7_sheet s a n μ r μ'
  | _ => False)
def gX7_sheet : Nat → Option wS := fun k => match k with
  | 150 => some sX7_isSheet
  | 153 => some sX7_isLane
  | 231 => some sX5_hold
  | _ => none
def uX7_sheet : Nat → Option (List Nat) := fun _ => none
set_option maxHeartbeats 4000000 in
set_option maxRecDepth 100000 in
theorem vcX7_sheet_0 (K : wK) (R : Int32 → wM → Prop) (s : Int32) (a : Int32) (n : Int32) (μ : wM) (h : (
    ((w_inB s 0 3) = false → R (-1) μ) ∧
    ((w_inB s 0 3) = true → (
      ((w_inB a 0 2) = false → R (-1) μ) ∧
      ((w_inB a 0 2) = true → (
        (((n : Int32) ≤ 60) → (
          (((0 : Int32) ≤ n) → (vp_in s 4) ∧ pX5_hold (Int32.toNatClampNeg s + 35) a n μ ∧ R (n) (w_fill (w_up (w_up (w_up μ (Int32.toNatClampNeg s + 35) 1 1) (Int32.toNatClampNeg s + 35) 2 a) (Int32.toNatClampNeg s + 35) 3 n) ((Int32.toNatClampNeg s + 35) + 4) 60 0)) ∧
          (¬ ((0 : Int32) ≤ n) → R (-14) μ))) ∧
        (¬ ((n : Int32) ≤ 60) → R (-1) μ))))))) : w_n 7 gX7_sheet shX rfX 43 (some .int) R tX7_sheet uX7_sheet K 20 0 [some (.ref 0), some (.int s), some (.int a), some (.int n)] [] μ :=
  And.intro (Exists.intro _ (And.intro rfl (trivial))) (fun _ _ z1016 => by obtain ⟨z1014, z1015⟩ := z1016; have z1014 := z1014.symm; have z1015 := z1015.symm; subst z1014; subst z1015; exact And.intro (fun z1017 => And.intro trivial ((h.1 (w_B01_0.mp z1017)))) (fun z1018 => And.intro (Exists.intro _ (And.intro rfl (trivial))) (fun _ _ z1021 => by obtain ⟨z1019, z1020⟩ := z1021; have z1019 := z1019.symm; have z1020 := z1020.symm; subst z1019; subst z1020; exact And.intro (fun z1022 => And.intro trivial (((h.2 (w_B01_n.mp z1018)).1 (w_B01_0.mp z1022)))) (fun z1023 => And.intro (fun z1024 => And.intro (fun z1026 => And.intro (And.intro (of_decide_eq_true rfl) rfl) (And.intro (Or.inr (And.intro (of_decide_eq_true rfl) (Exists.intro _ (And.intro rfl (((((h.2 (w_B01_n.mp z1018)).2 (w_B01_n.mp z1023)).1 z1024).1 z1026).1))))) (And.intro (Exists.intro _ (Exists.intro _ (Exists.intro _ (And.intro rfl (((((h.2 (w_B01_n.mp z1018)).2 (w_B01_n.mp z1023)).1 z1024).1 z1026).2.1))))) (fun _ _ z1030 => by obtain ⟨z1028, z1029⟩ := z1030; have z1028 := z1028.symm; have z1029 := z1029.symm; subst z1028; subst z1029; exact And.intro trivial (((((h.2 (w_B01_n.mp z1018)).2 (w_B01_n.mp z1023)).1 z1024).1 z1026).2.2))))) (fun z1027 => And.intro trivial (((((h.2 (w_B01_n.mp z1018)).2 (w_B01_n.mp z1023)).1 z1024).2 z1027)))) (fun z1025 => And.intro trivial ((((h.2 (w_B01_n.mp z1018)).2 (w_B01_n.mp z1023)).2 z1025)))))))
set_option maxHeartbeats 4000000 in
theorem vX7_sheet (s : Int32) (a : Int32) (n : Int32) (μ : wM) (h : pX7_sheet s a n μ) (K : wK) (hK : w_cl 7 gX7_sheet shX rfX 43 (some .int) (qX7_sheet s a n μ) tX7_sheet K) : K 0 [some (.ref 0), some (.int s), some (.int a), some (.int n)] [] μ := by
  refine hK uX7_sheet 20 _ _ _ _ (vcX7_sheet_0 K _ s a n μ ?_)
  clear hK
  unfold pX7_sheet at h
  have h0 := h
  unfold w_IX at h
  refine And.intro (fun z37 => ?_) (fun z37 => ?_)
  · unfold qX7_sheet fX7_sheet
    rw [if_neg (by rw [z37]; exact Bool.false_ne_true)]
    exact ⟨rfl, rfl⟩
  · refine And.intro (fun z38 => ?_) (fun z38 => ?_)
    · unfold qX7_sheet fX7_sheet
      rw [if_pos z37, if_neg (by rw [z38]; exact Bool.false_ne_true)]
      exact ⟨rfl, rfl⟩
    · refine And.intro (fun z39 => ?_) (fun z39 => ?_)
      · refine And.intro (fun z40 => ?_) (fun z40 => ?_)
        · refine And.intro (by exact in3 (by assumption)) ?_
          refine And.intro (by exact stp2 (in3 (by assumption))) ?_
          unfold qX7_sheet fX7_sheet
          rw [if_pos z37, if_pos z38, if_pos z39, if_pos z40]
          exact ⟨rfl, rfl⟩
        · unfold qX7_sheet fX7_sheet
          rw [if_pos z37, if_pos z38, if_pos z39, if_neg z40]
          exact ⟨rfl, rfl⟩
      · unfold qX7_sheet fX7_sheet
        rw [if_pos z37, if_pos z38, if_neg z39]
        exact ⟨rfl, rfl⟩
set_option maxRecDepth 100000 in
theorem zX7_sheet (l : Launch) : ∀ (idx : Nat) (S : wS), gX7_sheet idx = some S → w_Call l 7 idx S 3 shX rfX 43 := by
  intro idx S hS
  unfold gX7_sheet at hS
  split at hS
  · cases hS
    exact w_callS (mX7_isSheet l) eX7_isSheet.1 (by decide +kernel) eX7_isSheet.2.1 eX7_isSheet.2.2 (by decide +kernel) (by decide) (by decide)
  · cases hS
    exact w_callS (mX7_isLane l) eX7_isLane.1 (by decide +kernel) eX7_isLane.2.1 eX7_isLane.2.2 (by decide +kernel) (by decide) (by decide)
  · cases hS
    exact w_callV (ci := 5) (mX5_hold l) (by decide) rX5_hold eX5_hold.1 (by decide +kernel) eX5_hold.2.1 eX5_hold.2.2.1 eX5_hold.2.2.2 (by decide +kernel) (by decide) (by decide)
  · cases hS
theorem mX7_sheet (l : Launch) : w_Met l yX7_sheet cX7_sheet 4 (some .int) 3 shX rfX 43 sX7_sheet.2.2.2.1 sX7_sheet.2.2.2.2 :=
  w_meth (o := 7) (Γ := gX7_sheet) (tb := tX7_sheet) (by decide +kernel) rfl kX7_sheet rfl (zX7_sheet l) (fun as μ h => by obtain ⟨s, a, n, rfl, h⟩ := h; exact Nat.le_of_ble_eq_true rfl) (fun as μ h K hK => by obtain ⟨s, a, n, rfl, h⟩ := h; exact vX7_sheet s a n μ h K hK)
set_option maxRecDepth 100000 in
theorem eX7_sheet : Cond.code yX7_sheet cX7_sheet 4 (some .int) ∈ w_tbl ∧ Cond.instanceMethod yX7_sheet ∈ w_tbl ∧ Cond.selects (w_C 7) yX7_sheet yX7_sheet ∈ w_tbl ∧ Cond.initialized yX7_sheet.cls ∈ w_tbl := ⟨by decide +kernel, by decide +kernel, by decide +kernel, by decide +kernel⟩
theorem rX7_sheet : ∀ as μ, sX7_sheet.2.2.2.1 as μ → ∃ q as', as = .ref q :: as' ∧ q < 43 ∧ shX q = .inl 7 := by
  intro as μ h
  obtain ⟨s, a, n, rfl, h⟩ := h
  exact ⟨_, _, rfl, by decide, rfl⟩

def fX7_drop (s : Int32) (μ : wM) : Int32 × wM := (if (w_inB s 0 3) = true then (if (((μ (Int32.toNatClampNeg s + 35) 1) : Int32) = 0) then ((-11), μ) else ((μ (Int32.toNatClampNeg s + 35) 3), (w_up μ (Int32.toNatClampNeg s + 35) 1 0))) else ((-1), μ))
/-! X7_drop -/
def pX7_drop (s : Int32) (μ : wM) : Prop := w_IX μ
def qX7_drop (s : Int32) (μ : wM) (r : Int32) (μ' : wM) : Prop := r = (fX7_drop s μ).1 ∧ μ' = (fX7_drop s μ).2
def sX7_drop : wS := (false, false, 2, fun as μ => ∃ s, as = [.ref 0, .int s] ∧ pX7_drop s μ, fun as μ r μ' => match as with
  | [.ref _, .int s] => qX7_drop s μ r μ'
  | _ => False)
def gX7_drop : Nat → Option wS := fun k => match k with
  | 150 => some sX7_isSheet
  | 237 => some sX5_let
  | _ => none
def uX7_drop : Nat → Option (List Nat) := fun _ => none
set_option maxHeartbeats 4000000 in
set_option maxRecDepth 100000 in
theorem vcX7_drop_0 (K : wK) (R : Int32 → wM → Prop) (s : Int32) (μ : wM) (h : (
    ((w_inB s 0 3) = false → R (-1) μ) ∧
    ((w_inB s 0 3) = true → (vp_in s 4) ∧ (
      ((((μ (Int32.toNatClampNeg s + 35) 1) : Int32) = 0) → R (-11) μ) ∧
      (¬ (((μ (Int32.toNatClampNeg s + 35) 1) : Int32) = 0) → pX5_let (Int32.toNatClampNeg s + 35) μ ∧ R (μ (Int32.toNatClampNeg s + 35) 3) (w_up μ (Int32.toNatClampNeg s + 35) 1 0)))))) : w_n 7 gX7_drop shX rfX 43 (some .int) R tX7_drop uX7_drop K 17 0 [some (.ref 0), some (.int s)] [] μ :=
  And.intro (Exists.intro _ (And.intro rfl (trivial))) (fun _ _ z1043 => by obtain ⟨z1041, z1042⟩ := z1043; have z1041 := z1041.symm; have z1042 := z1042.symm; subst z1041; subst z1042; exact And.intro (fun z1044 => And.intro trivial ((h.1 (w_B01_0.mp z1044)))) (fun z1045 => And.intro (And.intro (of_decide_eq_true rfl) rfl) (And.intro (Or.inr (And.intro (of_decide_eq_true rfl) (Exists.intro _ (And.intro rfl ((h.2 (w_B01_n.mp z1045)).1))))) (And.intro (st_ok ((h.2 (w_B01_n.mp z1045)).1)) (And.intro (fun z1046 => And.intro trivial (((h.2 (w_B01_n.mp z1045)).2.1 z1046))) (fun z1047 => And.intro (And.intro (of_decide_eq_true rfl) rfl) (And.intro (Or.inr (And.intro (of_decide_eq_true rfl) (Exists.intro _ (And.intro rfl ((h.2 (w_B01_n.mp z1045)).1))))) (And.intro (Exists.intro _ (And.intro rfl (((h.2 (w_B01_n.mp z1045)).2.2 z1047).1))) (fun _ _ z1050 => by obtain ⟨z1048, z1049⟩ := z1050; have z1048 := z1048.symm; have z1049 := z1049.symm; subst z1048; subst z1049; exact And.intro trivial (((h.2 (w_B01_n.mp z1045)).2.2 z1047).2))))))))))
set_option maxHeartbeats 4000000 in
theorem vX7_drop (s : Int32) (μ : wM) (h : pX7_drop s μ) (K : wK) (hK : w_cl 7 gX7_drop shX rfX 43 (some .int) (qX7_drop s μ) tX7_drop K) : K 0 [some (.ref 0), some (.int s)] [] μ := by
  refine hK uX7_drop 17 _ _ _ _ (vcX7_drop_0 K _ s μ ?_)
  clear hK
  unfold pX7_drop at h
  have h0 := h
  unfold w_IX at h
  refine And.intro (fun z41 => ?_) (fun z41 => ?_)
  · unfold qX7_drop fX7_drop
    rw [if_neg (by rw [z41]; exact Bool.false_ne_true)]
    exact ⟨rfl, rfl⟩
  · refine And.intro (by exact in3 (by assumption)) ?_
    refine And.intro (fun z42 => ?_) (fun z42 => ?_)
    · unfold qX7_drop fX7_drop
      rw [if_pos z41, if_pos z42]
      exact ⟨rfl, rfl⟩
    · refine And.intro (by exact stp (in3 (by assumption))) ?_
      unfold qX7_drop fX7_drop
      rw [if_pos z41, if_neg z42]
      exact ⟨rfl, rfl⟩
set_option maxRecDepth 100000 in
theorem zX7_drop (l : Launch) : ∀ (idx : Nat) (S : wS), gX7_drop idx = some S → w_Call l 7 idx S 3 shX rfX 43 := by
  intro idx S hS
  unfold gX7_drop at hS
  split at hS
  · cases hS
    exact w_callS (mX7_isSheet l) eX7_isSheet.1 (by decide +kernel) eX7_isSheet.2.1 eX7_isSheet.2.2 (by decide +kernel) (by decide) (by decide)
  · cases hS
    exact w_callV (ci := 5) (mX5_let l) (by decide) rX5_let eX5_let.1 (by decide +kernel) eX5_let.2.1 eX5_let.2.2.1 eX5_let.2.2.2 (by decide +kernel) (by decide) (by decide)
  · cases hS
theorem mX7_drop (l : Launch) : w_Met l yX7_drop cX7_drop 2 (some .int) 3 shX rfX 43 sX7_drop.2.2.2.1 sX7_drop.2.2.2.2 :=
  w_meth (o := 7) (Γ := gX7_drop) (tb := tX7_drop) (by decide +kernel) rfl kX7_drop rfl (zX7_drop l) (fun as μ h => by obtain ⟨s, rfl, h⟩ := h; exact Nat.le_of_ble_eq_true rfl) (fun as μ h K hK => by obtain ⟨s, rfl, h⟩ := h; exact vX7_drop s μ h K hK)
set_option maxRecDepth 100000 in
theorem eX7_drop : Cond.code yX7_drop cX7_drop 2 (some .int) ∈ w_tbl ∧ Cond.instanceMethod yX7_drop ∈ w_tbl ∧ Cond.selects (w_C 7) yX7_drop yX7_drop ∈ w_tbl ∧ Cond.initialized yX7_drop.cls ∈ w_tbl := ⟨by decide +kernel, by decide +kernel, by decide +kernel, by decide +kernel⟩
theorem rX7_drop : ∀ as μ, sX7_drop.2.2.2.1 as μ → ∃ q as', as = .ref q :: as' ∧ q < 43 ∧ shX q = .inl 7 := by
  intro as μ h
  obtain ⟨s, rfl, h⟩ := h
  exact ⟨_, _, rfl, by decide, rfl⟩
end
section
def fX7_mark (e : Int32) (x : Int32) (n : Int32) (k : Int32) (μ : wM) : Int32 × wM := (if (w_hasB (μ 1 1) e) = true then (if (w_inB x 0 9) = true then (if (w_inB n 0 (μ 2 5)) = true then (if (((μ (Int32.toNatClampNeg e + 27) 1) : Int32) = 0) then (if (w_inB k 0 5) = true then (if (decide (0 < (w_aft μ (Int32.toNatClampNeg e + 27) (n : Int32).toNatClampNeg) 21 (x : Int32).toNatClampNeg)) = true then (((w_aft μ (Int32.toNatClampNeg e + 27) (n : Int32).toNatClampNeg) 20 (x * 6 + k).toNatClampNeg), (w_aft μ (Int32.toNatClampNeg e + 27) (n : Int32).toNatClampNeg)) else ((-2), (w_aft μ (Int32.toNatClampNeg e + 27) (n : Int32).toNatClampNeg))) else ((-1), μ)) else (if (w_inB k 0 0) = true then (if (decide (0 < (w_aft μ (Int32.toNatClampNeg e + 27) (n : Int32).toNatClampNeg) 21 (x : Int32).toNatClampNeg)) = true then (((w_aft μ (Int32.toNatClampNeg e + 27) (n : Int32).toNatClampNeg) 20 (x * 6 + k).toNatClampNeg), (w_aft μ (Int32.toNatClampNeg e + 27) (n : Int32).toNatClampNeg)) else ((-2), (w_aft μ (Int32.toNatClampNeg e + 27) (n : Int32).toNatClampNeg))) else ((-1), μ))) else ((-1), μ)) else ((-1), μ)) else ((-1), μ))
/-! X7_mark -/
def pX7_mark (e : Int32) (x : Int32) (n : Int32) (k : Int32) (μ : wM) : Prop := w_IX μ
def qX7_mark (e : Int32) (x : Int32) (n : Int32) (k : Int32) (μ : wM) (r : Int32) (μ' : wM) : Prop := r = (fX7_mark e x n k μ).1 ∧ μ' = (fX7_mark e x n k μ).2
def sX7_mark : wS := (false, false, 5, fun as μ => ∃ e, ∃ x, ∃ n, ∃ k, as = [.ref 0, .int e, .int x, .int n, .int k] ∧ pX7_mark e x n k μ, fun as μ r μ' => match as with
  | [.ref _, .int e, .int x, .int n, .int k] => qX7_mark e x n k μ r μ'
  | _ => False)
def gX7_mark : Nat → Option wS := fun k => match k with
  | 55 => some sX7_within
  | 67 => some sX3_has
  | 71 => some sX7_isMan
  | 172 => some sX7_isAsOf
  | 175 => some sX0_read
  | 179 => some sX0_hasMark
  | 182 => some sX0_markOf
  | _ => none
def uX7_mark : Nat → Option (List Nat) := fun _ => none
set_option maxHeartbeats 4000000 in
set_option maxRecDepth 100000 in
theorem vcX7_mark_0 (K : wK) (R : Int32 → wM → Prop) (e : Int32) (x : Int32) (n : Int32) (k : Int32) (μ : wM) (h : (
    ((w_hasB (μ 1 1) e) = false → R (-1) μ) ∧
    ((w_hasB (μ 1 1) e) = true → (
      ((w_inB x 0 9) = false → R (-1) μ) ∧
      ((w_inB x 0 9) = true → (
        ((w_inB n 0 (μ 2 5)) = false → R (-1) μ) ∧
        ((w_inB n 0 (μ 2 5)) = true → (vp_in e 8) ∧ (
          ((((μ (Int32.toNatClampNeg e + 27) 1) : Int32) = 0) → (
            ((w_inB k 0 5) = false → R (-1) μ) ∧
            ((w_inB k 0 5) = true → pX0_read (Int32.toNatClampNeg e + 27) n μ ∧ pX0_hasMark x (w_aft μ (Int32.toNatClampNeg e + 27) (n : Int32).toNatClampNeg) ∧ (
              ((decide (0 < (w_aft μ (Int32.toNatClampNeg e + 27) (n : Int32).toNatClampNeg) 21 (x : Int32).toNatClampNeg)) = false → R (-2) (w_aft μ (Int32.toNatClampNeg e + 27) (n : Int32).toNatClampNeg)) ∧
              ((decide (0 < (w_aft μ (Int32.toNatClampNeg e + 27) (n : Int32).toNatClampNeg) 21 (x : Int32).toNatClampNeg)) = true → pX0_markOf x k (w_aft μ (Int32.toNatClampNeg e + 27) (n : Int32).toNatClampNeg) ∧ R ((w_aft μ (Int32.toNatClampNeg e + 27) (n : Int32).toNatClampNeg) 20 (x * 6 + k).toNatClampNeg) (w_aft μ (Int32.toNatClampNeg e + 27) (n : Int32).toNatClampNeg)))))) ∧
          (¬ (((μ (Int32.toNatClampNeg e + 27) 1) : Int32) = 0) → (
            ((w_inB k 0 0) = false → R (-1) μ) ∧
            ((w_inB k 0 0) = true → pX0_read (Int32.toNatClampNeg e + 27) n μ ∧ pX0_hasMark x (w_aft μ (Int32.toNatClampNeg e + 27) (n : Int32).toNatClampNeg) ∧ (
              ((decide (0 < (w_aft μ (Int32.toNatClampNeg e + 27) (n : Int32).toNatClampNeg) 21 (x : Int32).toNatClampNeg)) = false → R (-2) (w_aft μ (Int32.toNatClampNeg e + 27) (n : Int32).toNatClampNeg)) ∧
              ((decide (0 < (w_aft μ (Int32.toNatClampNeg e + 27) (n : Int32).toNatClampNeg) 21 (x : Int32).toNatClampNeg)) = true → pX0_markOf x k (w_aft μ (Int32.toNatClampNeg e + 27) (n : Int32).toNatClampNeg) ∧ R ((w_aft μ (Int32.toNatClampNeg e + 27) (n : Int32).toNatClampNeg) 20 (x * 6 + k).toNatClampNeg) (w_aft μ (Int32.toNatClampNeg e + 27) (n : Int32).toNatClampNeg)))))))))))))) : w_n 7 gX7_mark shX rfX 43 (some .int) R tX7_mark uX7_mark K 47 0 [some (.ref 0), some (.int e), some (.int x), some (.int n), some (.int k), none] [] μ :=
  And.intro (And.intro (of_decide_eq_true rfl) rfl) (And.intro (Exists.intro _ (And.intro rfl (trivial))) (fun _ _ z1102 => by obtain ⟨z1100, z1101⟩ := z1102; have z1100 := z1100.symm; have z1101 := z1101.symm; subst z1100; subst z1101; exact And.intro (fun z1103 => And.intro trivial ((h.1 (w_B01_0.mp z1103)))) (fun z1104 => And.intro (Exists.intro _ (And.intro rfl (trivial))) (fun _ _ z1107 => by obtain ⟨z1105, z1106⟩ := z1107; have z1105 := z1105.symm; have z1106 := z1106.symm; subst z1105; subst z1106; exact And.intro (fun z1108 => And.intro trivial (((h.2 (w_B01_n.mp z1104)).1 (w_B01_0.mp z1108)))) (fun z1109 => And.intro (Exists.intro _ (And.intro rfl (trivial))) (fun _ _ z1112 => by obtain ⟨z1110, z1111⟩ := z1112; have z1110 := z1110.symm; have z1111 := z1111.symm; subst z1110; subst z1111; exact And.intro (fun z1113 => And.intro trivial ((((h.2 (w_B01_n.mp z1104)).2 (w_B01_n.mp z1109)).1 (w_B01_0.mp z1113)))) (fun z1114 => And.intro (And.intro (of_decide_eq_true rfl) rfl) (And.intro (And.intro (of_decide_eq_true rfl) rfl) (And.intro (Or.inl (And.intro (of_decide_eq_true rfl) (Exists.intro _ (And.intro rfl ((((h.2 (w_B01_n.mp z1104)).2 (w_B01_n.mp z1109)).2 (w_B01_n.mp z1114)).1))))) (And.intro (ev_ok ((((h.2 (w_B01_n.mp z1104)).2 (w_B01_n.mp z1109)).2 (w_B01_n.mp z1114)).1)) (And.intro (fun z1115 => And.intro (Exists.intro _ (Exists.intro _ (Exists.intro _ (And.intro rfl (trivial))))) (fun _ _ z1119 => by obtain ⟨z1117, z1118⟩ := z1119; have z1117 := z1117.symm; have z1118 := z1118.symm; subst z1117; subst z1118; exact And.intro (fun z1120 => And.intro trivial ((((((h.2 (w_B01_n.mp z1104)).2 (w_B01_n.mp z1109)).2 (w_B01_n.mp z1114)).2.1 z1115).1 (w_B01_0.mp z1120)))) (fun z1121 => And.intro (And.intro (of_decide_eq_true rfl) rfl) (And.intro (And.intro (of_decide_eq_true rfl) rfl) (And.intro (Exists.intro _ (Exists.intro _ (And.intro rfl ((((((h.2 (w_B01_n.mp z1104)).2 (w_B01_n.mp z1109)).2 (w_B01_n.mp z1114)).2.1 z1115).2 (w_B01_n.mp z1121)).1)))) (fun _ _ z1124 => by have z1123 := ((z1124).1).symm; subst z1123; exact And.intro (And.intro (of_decide_eq_true rfl) rfl) (And.intro (Exists.intro _ (And.intro rfl ((((((h.2 (w_B01_n.mp z1104)).2 (w_B01_n.mp z1109)).2 (w_B01_n.mp z1114)).2.1 z1115).2 (w_B01_n.mp z1121)).2.1))) (fun _ _ z1127 => by obtain ⟨z1125, z1126⟩ := z1127; have z1125 := z1125.symm; have z1126 := z1126.symm; subst z1125; subst z1126; exact And.intro (fun z1128 => And.intro trivial (((((((h.2 (w_B01_n.mp z1104)).2 (w_B01_n.mp z1109)).2 (w_B01_n.mp z1114)).2.1 z1115).2 (w_B01_n.mp z1121)).2.2.1 (w_B01_0.mp z1128)))) (fun z1129 => And.intro (And.intro (of_decide_eq_true rfl) rfl) (And.intro (Exists.intro _ (Exists.intro _ (And.intro rfl (((((((h.2 (w_B01_n.mp z1104)).2 (w_B01_n.mp z1109)).2 (w_B01_n.mp z1114)).2.1 z1115).2 (w_B01_n.mp z1121)).2.2.2 (w_B01_n.mp z1129)).1)))) (fun _ _ z1132 => by obtain ⟨z1130, z1131⟩ := z1132; have z1130 := z1130.symm; have z1131 := z1131.symm; subst z1130; subst z1131; exact And.intro trivial (((((((h.2 (w_B01_n.mp z1104)).2 (w_B01_n.mp z1109)).2 (w_B01_n.mp z1114)).2.1 z1115).2 (w_B01_n.mp z1121)).2.2.2 (w_B01_n.mp z1129)).2)))))))))))) (fun z1116 => And.intro (Exists.intro _ (Exists.intro _ (Exists.intro _ (And.intro rfl (trivial))))) (fun _ _ z1135 => by obtain ⟨z1133, z1134⟩ := z1135; have z1133 := z1133.symm; have z1134 := z1134.symm; subst z1133; subst z1134; exact And.intro (fun z1136 => And.intro trivial ((((((h.2 (w_B01_n.mp z1104)).2 (w_B01_n.mp z1109)).2 (w_B01_n.mp z1114)).2.2 z1116).1 (w_B01_0.mp z1136)))) (fun z1137 => And.intro (And.intro (of_decide_eq_true rfl) rfl) (And.intro (And.intro (of_decide_eq_true rfl) rfl) (And.intro (Exists.intro _ (Exists.intro _ (And.intro rfl ((((((h.2 (w_B01_n.mp z1104)).2 (w_B01_n.mp z1109)).2 (w_B01_n.mp z1114)).2.2 z1116).2 (w_B01_n.mp z1137)).1)))) (fun _ _ z1140 => by have z1139 := ((z1140).1).symm; subst z1139; exact And.intro (And.intro (of_decide_eq_true rfl) rfl) (And.intro (Exists.intro _ (And.intro rfl ((((((h.2 (w_B01_n.mp z1104)).2 (w_B01_n.mp z1109)).2 (w_B01_n.mp z1114)).2.2 z1116).2 (w_B01_n.mp z1137)).2.1))) (fun _ _ z1143 => by obtain ⟨z1141, z1142⟩ := z1143; have z1141 := z1141.symm; have z1142 := z1142.symm; subst z1141; subst z1142; exact And.intro (fun z1144 => And.intro trivial (((((((h.2 (w_B01_n.mp z1104)).2 (w_B01_n.mp z1109)).2 (w_B01_n.mp z1114)).2.2 z1116).2 (w_B01_n.mp z1137)).2.2.1 (w_B01_0.mp z1144)))) (fun z1145 => And.intro (And.intro (of_decide_eq_true rfl) rfl) (And.intro (Exists.intro _ (Exists.intro _ (And.intro rfl (((((((h.2 (w_B01_n.mp z1104)).2 (w_B01_n.mp z1109)).2 (w_B01_n.mp z1114)).2.2 z1116).2 (w_B01_n.mp z1137)).2.2.2 (w_B01_n.mp z1145)).1)))) (fun _ _ z1148 => by obtain ⟨z1146, z1147⟩ := z1148; have z1146 := z1146.symm; have z1147 := z1147.symm; subst z1146; subst z1147; exact And.intro trivial (((((((h.2 (w_B01_n.mp z1104)).2 (w_B01_n.mp z1109)).2 (w_B01_n.mp z1114)).2.2 z1116).2 (w_B01_n.mp z1137)).2.2.2 (w_B01_n.mp z1145)).2)))))))))))))))))))))))
set_option maxHeartbeats 4000000 in
theorem vX7_mark (e : Int32) (x : Int32) (n : Int32) (k : Int32) (μ : wM) (h : pX7_mark e x n k μ) (K : wK) (hK : w_cl 7 gX7_mark shX rfX 43 (some .int) (qX7_mark e x n k μ) tX7_mark K) : K 0 [some (.ref 0), some (.int e), some (.int x), some (.int n), some (.int k), none] [] μ := by
  refine hK uX7_mark 47 _ _ _ _ (vcX7_mark_0 K _ e x n k μ ?_)
  clear hK
  unfold pX7_mark at h
  have h0 := h
  unfold w_IX at h
  refine And.intro (fun z43 => ?_) (fun z43 => ?_)
  · unfold qX7_mark fX7_mark
    rw [if_neg (by rw [z43]; exact Bool.false_ne_true)]
    exact ⟨rfl, rfl⟩
  · refine And.intro (fun z44 => ?_) (fun z44 => ?_)
    · unfold qX7_mark fX7_mark
      rw [if_pos z43, if_neg (by rw [z44]; exact Bool.false_ne_true)]
      exact ⟨rfl, rfl⟩
    · refine And.intro (fun z45 => ?_) (fun z45 => ?_)
      · unfold qX7_mark fX7_mark
        rw [if_pos z43, if_pos z44, if_neg (by rw [z45]; exact Bool.false_ne_true)]
        exact ⟨rfl, rfl⟩
      · refine And.intro (by exact has_in h.1 (by assumption)) ?_
        refine And.intro (fun z46 => ?_) (fun z46 => ?_)
        · refine And.intro (fun z47 => ?_) (fun z47 => ?_)
          · unfold qX7_mark fX7_mark
            rw [if_pos z43, if_pos z44, if_pos z45, if_pos z46, if_neg (by rw [z47]; exact Bool.false_ne_true)]
            exact ⟨rfl, rfl⟩
          · refine And.intro (by first | exact rd_ok h0 (by assumption) (by assumption) | exact rd_okc h0 (has_in h.1 (by assumption))) ?_
            refine And.intro (by exact in9 (by assumption)) ?_
            refine And.intro (fun z48 => ?_) (fun z48 => ?_)
            · unfold qX7_mark fX7_mark
              rw [if_pos z43, if_pos z44, if_pos z45, if_pos z46, if_pos z47, if_neg (by rw [z48]; exact Bool.false_ne_true)]
              exact ⟨rfl, rfl⟩
            · refine And.intro (by first | exact mk_ok (by assumption) (by assumption) | exact mk_ok (by assumption) (in50 (by assumption))) ?_
              unfold qX7_mark fX7_mark
              rw [if_pos z43, if_pos z44, if_pos z45, if_pos z46, if_pos z47, if_pos z48]
              exact ⟨rfl, rfl⟩
        · refine And.intro (fun z49 => ?_) (fun z49 => ?_)
          · unfold qX7_mark fX7_mark
            rw [if_pos z43, if_pos z44, if_pos z45, if_neg z46, if_neg (by rw [z49]; exact Bool.false_ne_true)]
            exact ⟨rfl, rfl⟩
          · refine And.intro (by first | exact rd_ok h0 (by assumption) (by assumption) | exact rd_okc h0 (has_in h.1 (by assumption))) ?_
            refine And.intro (by exact in9 (by assumption)) ?_
            refine And.intro (fun z50 => ?_) (fun z50 => ?_)
            · unfold qX7_mark fX7_mark
              rw [if_pos z43, if_pos z44, if_pos z45, if_neg z46, if_pos z49, if_neg (by rw [z50]; exact Bool.false_ne_true)]
              exact ⟨rfl, rfl⟩
            · refine And.intro (by first | exact mk_ok (by assumption) (by assumption) | exact mk_ok (by assumption) (in50 (by assumption))) ?_
              unfold qX7_mark fX7_mark
              rw [if_pos z43, if_pos z44, if_pos z45, if_neg z46, if_pos z49, if_pos z50]
              exact ⟨rfl, rfl⟩
set_option maxRecDepth 100000 in
theorem zX7_mark (l : Launch) : ∀ (idx : Nat) (S : wS), gX7_mark idx = some S → w_Call l 7 idx S 6 shX rfX 43 := by
  intro idx S hS
  unfold gX7_mark at hS
  split at hS
  · cases hS
    exact w_callS (mX7_within l) eX7_within.1 (by decide +kernel) eX7_within.2.1 eX7_within.2.2 (by decide +kernel) (by decide) (by decide)
  · cases hS
    exact w_callV (ci := 3) (mX3_has l) (by decide) rX3_has eX3_has.1 (by decide +kernel) eX3_has.2.1 eX3_has.2.2.1 eX3_has.2.2.2 (by decide +kernel) (by decide) (by decide)
  · cases hS
    exact w_callS (mX7_isMan l) eX7_isMan.1 (by decide +kernel) eX7_isMan.2.1 eX7_isMan.2.2 (by decide +kernel) (by decide) (by decide)
  · cases hS
    exact w_callV (ci := 7) (mX7_isAsOf l) (by decide) rX7_isAsOf eX7_isAsOf.1 (by decide +kernel) eX7_isAsOf.2.1 eX7_isAsOf.2.2.1 eX7_isAsOf.2.2.2 (by decide +kernel) (by decide) (by decide)
  · cases hS
    exact w_callV (ci := 0) (mX0_read l) (by decide) rX0_read eX0_read.1 (by decide +kernel) eX0_read.2.1 eX0_read.2.2.1 eX0_read.2.2.2 (by decide +kernel) (by decide) (by decide)
  · cases hS
    exact w_callV (ci := 0) (mX0_hasMark l) (by decide) rX0_hasMark eX0_hasMark.1 (by decide +kernel) eX0_hasMark.2.1 eX0_hasMark.2.2.1 eX0_hasMark.2.2.2 (by decide +kernel) (by decide) (by decide)
  · cases hS
    exact w_callV (ci := 0) (mX0_markOf l) (by decide) rX0_markOf eX0_markOf.1 (by decide +kernel) eX0_markOf.2.1 eX0_markOf.2.2.1 eX0_markOf.2.2.2 (by decide +kernel) (by decide) (by decide)
  · cases hS
theorem mX7_mark (l : Launch) : w_Met l yX7_mark cX7_mark 6 (some .int) 6 shX rfX 43 sX7_mark.2.2.2.1 sX7_mark.2.2.2.2 :=
  w_meth (o := 7) (Γ := gX7_mark) (tb := tX7_mark) (by decide +kernel) rfl kX7_mark rfl (zX7_mark l) (fun as μ h => by obtain ⟨e, x, n, k, rfl, h⟩ := h; exact Nat.le_of_ble_eq_true rfl) (fun as μ h K hK => by obtain ⟨e, x, n, k, rfl, h⟩ := h; exact vX7_mark e x n k μ h K hK)
set_option maxRecDepth 100000 in
theorem eX7_mark : Cond.code yX7_mark cX7_mark 6 (some .int) ∈ w_tbl ∧ Cond.instanceMethod yX7_mark ∈ w_tbl ∧ Cond.selects (w_C 7) yX7_mark yX7_mark ∈ w_tbl ∧ Cond.initialized yX7_mark.cls ∈ w_tbl := ⟨by decide +kernel, by decide +kernel, by decide +kernel, by decide +kernel⟩
theorem rX7_mark : ∀ as μ, sX7_mark.2.2.2.1 as μ → ∃ q as', as = .ref q :: as' ∧ q < 43 ∧ shX q = .inl 7 := by
  intro as μ h
  obtain ⟨e, x, n, k, rfl, h⟩ := h
  exact ⟨_, _, rfl, by decide, rfl⟩

def fX7_place (e : Int32) (x : Int32) (n : Int32) (μ : wM) : Int32 × wM := (if (w_hasB (μ 1 1) e) = true then (if (w_inB x 0 9) = true then (if (w_inB n 0 (μ 2 5)) = true then (if (decide (0 < (w_aft μ (Int32.toNatClampNeg e + 27) (n : Int32).toNatClampNeg) 19 (x : Int32).toNatClampNeg)) = true then (((w_aft μ (Int32.toNatClampNeg e + 27) (n : Int32).toNatClampNeg) 19 (x : Int32).toNatClampNeg), (w_aft μ (Int32.toNatClampNeg e + 27) (n : Int32).toNatClampNeg)) else ((-2), (w_aft μ (Int32.toNatClampNeg e + 27) (n : Int32).toNatClampNeg))) else ((-1), μ)) else ((-1), μ)) else ((-1), μ))
/-! X7_place -/
def pX7_place (e : Int32) (x : Int32) (n : Int32) (μ : wM) : Prop := w_IX μ
def qX7_place (e : Int32) (x : Int32) (n : Int32) (μ : wM) (r : Int32) (μ' : wM) : Prop := r = (fX7_place e x n μ).1 ∧ μ' = (fX7_place e x n μ).2
def sX7_place : wS := (false, false, 4, fun as μ => ∃ e, ∃ x, ∃ n, as = [.ref 0, .int e, .int x, .int n] ∧ pX7_place e x n μ, fun as μ r μ' => match as with
  | [.ref _, .int e, .int x, .int n] => qX7_place e x n μ r μ'
  | _ => False)
def gX7_place : Nat → Option wS := fun k => match k with
  | 67 => some sX3_has
  | 71 => some sX7_isMan
  | 172 => some sX7_isAsOf
  | 175 => some sX0_read
  | 185 => some sX0_isTold
  | _ => none
def uX7_place : Nat → Option (List Nat) := fun _ => none
set_option maxHeartbeats 4000000 in
set_option maxRecDepth 100000 in
theorem vcX7_place_0 (K : wK) (R : Int32 → wM → Prop) (e : Int32) (x : Int32) (n : Int32) (μ : wM) (h : (
    ((w_hasB (μ 1 1) e) = false → R (-1) μ) ∧
    ((w_hasB (μ 1 1) e) = true → (
      ((w_inB x 0 9) = false → R (-1) μ) ∧
      ((w_inB x 0 9) = true → (
        ((w_inB n 0 (μ 2 5)) = false → R (-1) μ) ∧
        ((w_inB n 0 (μ 2 5)) = true → (vp_in e 8) ∧ pX0_read (Int32.toNatClampNeg e + 27) n μ ∧ pX0_isTold x (w_aft μ (Int32.toNatClampNeg e + 27) (n : Int32).toNatClampNeg) ∧ (
          ((decide (0 < (w_aft μ (Int32.toNatClampNeg e + 27) (n : Int32).toNatClampNeg) 19 (x : Int32).toNatClampNeg)) = false → R (-2) (w_aft μ (Int32.toNatClampNeg e + 27) (n : Int32).toNatClampNeg)) ∧
          ((decide (0 < (w_aft μ (Int32.toNatClampNeg e + 27) (n : Int32).toNatClampNeg) 19 (x : Int32).toNatClampNeg)) = true → (vp_in x 10) ∧ R ((w_aft μ (Int32.toNatClampNeg e + 27) (n : Int32).toNatClampNeg) 19 (x : Int32).toNatClampNeg) (w_aft μ (Int32.toNatClampNeg e + 27) (n : Int32).toNatClampNeg)))))))))) : w_n 7 gX7_place shX rfX 43 (some .int) R tX7_place uX7_place K 36 0 [some (.ref 0), some (.int e), some (.int x), some (.int n)] [] μ :=
  And.intro (And.intro (of_decide_eq_true rfl) rfl) (And.intro (Exists.intro _ (And.intro rfl (trivial))) (fun _ _ z1174 => by obtain ⟨z1172, z1173⟩ := z1174; have z1172 := z1172.symm; have z1173 := z1173.symm; subst z1172; subst z1173; exact And.intro (fun z1175 => And.intro trivial ((h.1 (w_B01_0.mp z1175)))) (fun z1176 => And.intro (Exists.intro _ (And.intro rfl (trivial))) (fun _ _ z1179 => by obtain ⟨z1177, z1178⟩ := z1179; have z1177 := z1177.symm; have z1178 := z1178.symm; subst z1177; subst z1178; exact And.intro (fun z1180 => And.intro trivial (((h.2 (w_B01_n.mp z1176)).1 (w_B01_0.mp z1180)))) (fun z1181 => And.intro (Exists.intro _ (And.intro rfl (trivial))) (fun _ _ z1184 => by obtain ⟨z1182, z1183⟩ := z1184; have z1182 := z1182.symm; have z1183 := z1183.symm; subst z1182; subst z1183; exact And.intro (fun z1185 => And.intro trivial ((((h.2 (w_B01_n.mp z1176)).2 (w_B01_n.mp z1181)).1 (w_B01_0.mp z1185)))) (fun z1186 => And.intro (And.intro (of_decide_eq_true rfl) rfl) (And.intro (And.intro (of_decide_eq_true rfl) rfl) (And.intro (And.intro (of_decide_eq_true rfl) rfl) (And.intro (And.intro (of_decide_eq_true rfl) rfl) (And.intro (Or.inl (And.intro (of_decide_eq_true rfl) (Exists.intro _ (And.intro rfl ((((h.2 (w_B01_n.mp z1176)).2 (w_B01_n.mp z1181)).2 (w_B01_n.mp z1186)).1))))) (And.intro (Exists.intro _ (Exists.intro _ (And.intro rfl ((((h.2 (w_B01_n.mp z1176)).2 (w_B01_n.mp z1181)).2 (w_B01_n.mp z1186)).2.1)))) (fun _ _ z1189 => by have z1188 := ((z1189).1).symm; subst z1188; exact And.intro (And.intro (of_decide_eq_true rfl) rfl) (And.intro (Exists.intro _ (And.intro rfl ((((h.2 (w_B01_n.mp z1176)).2 (w_B01_n.mp z1181)).2 (w_B01_n.mp z1186)).2.2.1))) (fun _ _ z1192 => by obtain ⟨z1190, z1191⟩ := z1192; have z1190 := z1190.symm; have z1191 := z1191.symm; subst z1190; subst z1191; exact And.intro (fun z1193 => And.intro trivial (((((h.2 (w_B01_n.mp z1176)).2 (w_B01_n.mp z1181)).2 (w_B01_n.mp z1186)).2.2.2.1 (w_B01_0.mp z1193)))) (fun z1194 => And.intro (And.intro (of_decide_eq_true rfl) rfl) (And.intro (And.intro (of_decide_eq_true rfl) rfl) (And.intro (And.intro (of_decide_eq_true rfl) (Exists.intro _ (And.intro rfl (((((h.2 (w_B01_n.mp z1176)).2 (w_B01_n.mp z1181)).2 (w_B01_n.mp z1186)).2.2.2.2 (w_B01_n.mp z1194)).1)))) (And.intro trivial (((((h.2 (w_B01_n.mp z1176)).2 (w_B01_n.mp z1181)).2 (w_B01_n.mp z1186)).2.2.2.2 (w_B01_n.mp z1194)).2))))))))))))))))))))
set_option maxHeartbeats 4000000 in
theorem vX7_place (e : Int32) (x : Int32) (n : Int32) (μ : wM) (h : pX7_place e x n μ) (K : wK) (hK : w_cl 7 gX7_place shX rfX 43 (some .int) (qX7_place e x n μ) tX7_place K) : K 0 [some (.ref 0), some (.int e), some (.int x), some (.int n)] [] μ := by
  refine hK uX7_place 36 _ _ _ _ (vcX7_place_0 K _ e x n μ ?_)
  clear hK
  unfold pX7_place at h
  have h0 := h
  unfold w_IX at h
  refine And.intro (fun z51 => ?_) (fun z51 => ?_)
  · unfold qX7_place fX7_place
    rw [if_neg (by rw [z51]; exact Bool.false_ne_true)]
    exact ⟨rfl, rfl⟩
  · refine And.intro (fun z52 => ?_) (fun z52 => ?_)
    · unfold qX7_place fX7_place
      rw [if_pos z51, if_neg (by rw [z52]; exact Bool.false_ne_true)]
      exact ⟨rfl, rfl⟩
    · refine And.intro (fun z53 => ?_) (fun z53 => ?_)
      · unfold qX7_place fX7_place
        rw [if_pos z51, if_pos z52, if_neg (by rw [z53]; exact Bool.false_ne_true)]
        exact ⟨rfl, rfl⟩
      · refine And.intro (by exact has_in h.1 (by assumption)) ?_
        refine And.intro (by first | exact rd_ok h0 (by assumption) (by assumption) | exact rd_okc h0 (has_in h.1 (by assumption))) ?_
        refine And.intro (by exact in9 (by assumption)) ?_
        refine And.intro (fun z54 => ?_) (fun z54 => ?_)
        · unfold qX7_place fX7_place
          rw [if_pos z51, if_pos z52, if_pos z53, if_neg (by rw [z54]; exact Bool.false_ne_true)]
          exact ⟨rfl, rfl⟩
        · refine And.intro (by exact in9 (by assumption)) ?_
          unfold qX7_place fX7_place
          rw [if_pos z51, if_pos z52, if_pos z53, if_pos z54]
          exact ⟨rfl, rfl⟩
set_option maxRecDepth 100000 in
theorem zX7_place (l : Launch) : ∀ (idx : Nat) (S : wS), gX7_place idx = some S → w_Call l 7 idx S 6 shX rfX 43 := by
  intro idx S hS
  unfold gX7_place at hS
  split at hS
  · cases hS
    exact w_callV (ci := 3) (mX3_has l) (by decide) rX3_has eX3_has.1 (by decide +kernel) eX3_has.2.1 eX3_has.2.2.1 eX3_has.2.2.2 (by decide +kernel) (by decide) (by decide)
  · cases hS
    exact w_callS (mX7_isMan l) eX7_isMan.1 (by decide +kernel) eX7_isMan.2.1 eX7_isMan.2.2 (by decide +kernel) (by decide) (by decide)
  · cases hS
    exact w_callV (ci := 7) (mX7_isAsOf l) (by decide) rX7_isAsOf eX7_isAsOf.1 (by decide +kernel) eX7_isAsOf.2.1 eX7_isAsOf.2.2.1 eX7_isAsOf.2.2.2 (by decide +kernel) (by decide) (by decide)
  · cases hS
    exact w_callV (ci := 0) (mX0_read l) (by decide) rX0_read eX0_read.1 (by decide +kernel) eX0_read.2.1 eX0_read.2.2.1 eX0_read.2.2.2 (by decide +kernel) (by decide) (by decide)
  · cases hS
    exact w_callV (ci := 0) (mX0_isTold l) (by decide) rX0_isTold eX0_isTold.1 (by decide +kernel) eX0_isTold.2.1 eX0_isTold.2.2.1 eX0_isTold.2.2.2 (by decide +kernel) (by decide) (by decide)
  · cases hS
theorem mX7_place (l : Launch) : w_Met l yX7_place cX7_place 4 (some .int) 6 shX rfX 43 sX7_place.2.2.2.1 sX7_place.2.2.2.2 :=
  w_meth (o := 7) (Γ := gX7_place) (tb := tX7_place) (by decide +kernel) rfl kX7_place rfl (zX7_place l) (fun as μ h => by obtain ⟨e, x, n, rfl, h⟩ := h; exact Nat.le_of_ble_eq_true rfl) (fun as μ h K hK => by obtain ⟨e, x, n, rfl, h⟩ := h; exact vX7_place e x n μ h K hK)
set_option maxRecDepth 100000 in
theorem eX7_place : Cond.code yX7_place cX7_place 4 (some .int) ∈ w_tbl ∧ Cond.instanceMethod yX7_place ∈ w_tbl ∧ Cond.selects (w_C 7) yX7_place yX7_place ∈ w_tbl ∧ Cond.initialized yX7_place.cls ∈ w_tbl := ⟨by decide +kernel, by decide +kernel, by decide +kernel, by decide +kernel⟩
theorem rX7_place : ∀ as μ, sX7_place.2.2.2.1 as μ → ∃ q as', as = .ref q :: as' ∧ q < 43 ∧ shX q = .inl 7 := by
  intro as μ h
  obtain ⟨e, x, n, rfl, h⟩ := h
  exact ⟨_, _, rfl, by decide, rfl⟩

def fX7_paradox (e : Int32) (n : Int32) (μ : wM) : Int32 × wM := (if (w_hasB (μ 1 1) e) = true then (if (w_inB n 0 (μ 2 5)) = true then (if (((μ (Int32.toNatClampNeg e + 27) 1) : Int32) = 2) then ((w_find (fun i => decide (1 < (w_aft μ (Int32.toNatClampNeg e + 27) (n : Int32).toNatClampNeg) 19 i) && w_bts ((w_aft μ (Int32.toNatClampNeg e + 27) (n : Int32).toNatClampNeg) 19) ((w_aft μ (Int32.toNatClampNeg e + 27) (n : Int32).toNatClampNeg) 22) i) 10 0), (w_aft μ (Int32.toNatClampNeg e + 27) (n : Int32).toNatClampNeg)) else ((-12), μ)) else ((-1), μ)) else ((-1), μ))
/-! X7_paradox -/
def pX7_paradox (e : Int32) (n : Int32) (μ : wM) : Prop := w_IX μ
def qX7_paradox (e : Int32) (n : Int32) (μ : wM) (r : Int32) (μ' : wM) : Prop := r = (fX7_paradox e n μ).1 ∧ μ' = (fX7_paradox e n μ).2
def sX7_paradox : wS := (false, false, 3, fun as μ => ∃ e, ∃ n, as = [.ref 0, .int e, .int n] ∧ pX7_paradox e n μ, fun as μ r μ' => match as with
  | [.ref _, .int e, .int n] => qX7_paradox e n μ r μ'
  | _ => False)
def gX7_paradox : Nat → Option wS := fun k => match k with
  | 67 => some sX3_has
  | 172 => some sX7_isAsOf
  | 175 => some sX0_read
  | 195 => some sX0_leastParadox
  | _ => none
def uX7_paradox : Nat → Option (List Nat) := fun _ => none
set_option maxHeartbeats 4000000 in
set_option maxRecDepth 100000 in
theorem vcX7_paradox_0 (K : wK) (R : Int32 → wM → Prop) (e : Int32) (n : Int32) (μ : wM) (h : (
    ((w_hasB (μ 1 1) e) = false → R (-1) μ) ∧
    ((w_hasB (μ 1 1) e) = true → (
      ((w_inB n 0 (μ 2 5)) = false → R (-1) μ) ∧
      ((w_inB n 0 (μ 2 5)) = true → (vp_in e 8) ∧ (
        ((((μ (Int32.toNatClampNeg e + 27) 1) : Int32) = 2) → pX0_read (Int32.toNatClampNeg e + 27) n μ ∧ R (w_find (fun i => decide (1 < (w_aft μ (Int32.toNatClampNeg e + 27) (n : Int32).toNatClampNeg) 19 i) && w_bts ((w_aft μ (Int32.toNatClampNeg e + 27) (n : Int32).toNatClampNeg) 19) ((w_aft μ (Int32.toNatClampNeg e + 27) (n : Int32).toNatClampNeg) 22) i) 10 0) (w_aft μ (Int32.toNatClampNeg e + 27) (n : Int32).toNatClampNeg)) ∧
        (¬ (((μ (Int32.toNatClampNeg e + 27) 1) : Int32) = 2) → R (-12) μ))))))) : w_n 7 gX7_paradox shX rfX 43 (some .int) R tX7_paradox uX7_paradox K 31 0 [some (.ref 0), some (.int e), some (.int n), none] [] μ :=
  And.intro (And.intro (of_decide_eq_true rfl) rfl) (And.intro (Exists.intro _ (And.intro rfl (trivial))) (fun _ _ z1215 => by obtain ⟨z1213, z1214⟩ := z1215; have z1213 := z1213.symm; have z1214 := z1214.symm; subst z1213; subst z1214; exact And.intro (fun z1216 => And.intro trivial ((h.1 (w_B01_0.mp z1216)))) (fun z1217 => And.intro (Exists.intro _ (And.intro rfl (trivial))) (fun _ _ z1220 => by obtain ⟨z1218, z1219⟩ := z1220; have z1218 := z1218.symm; have z1219 := z1219.symm; subst z1218; subst z1219; exact And.intro (fun z1221 => And.intro trivial (((h.2 (w_B01_n.mp z1217)).1 (w_B01_0.mp z1221)))) (fun z1222 => And.intro (And.intro (of_decide_eq_true rfl) rfl) (And.intro (And.intro (of_decide_eq_true rfl) rfl) (And.intro (Or.inl (And.intro (of_decide_eq_true rfl) (Exists.intro _ (And.intro rfl (((h.2 (w_B01_n.mp z1217)).2 (w_B01_n.mp z1222)).1))))) (And.intro (ev_ok (((h.2 (w_B01_n.mp z1217)).2 (w_B01_n.mp z1222)).1)) (And.intro (fun z1223 => And.intro (And.intro (of_decide_eq_true rfl) rfl) (And.intro (And.intro (of_decide_eq_true rfl) rfl) (And.intro (Exists.intro _ (Exists.intro _ (And.intro rfl ((((h.2 (w_B01_n.mp z1217)).2 (w_B01_n.mp z1222)).2.1 z1223).1)))) (fun _ _ z1227 => by have z1226 := ((z1227).1).symm; subst z1226; exact And.intro (And.intro (of_decide_eq_true rfl) rfl) (And.intro (And.intro rfl (trivial)) (fun _ _ z1230 => by obtain ⟨z1228, z1229⟩ := z1230; have z1228 := z1228.symm; have z1229 := z1229.symm; subst z1228; subst z1229; exact And.intro trivial ((((h.2 (w_B01_n.mp z1217)).2 (w_B01_n.mp z1222)).2.1 z1223).2))))))) (fun z1224 => And.intro trivial ((((h.2 (w_B01_n.mp z1217)).2 (w_B01_n.mp z1222)).2.2 z1224))))))))))))
set_option maxHeartbeats 4000000 in
theorem vX7_paradox (e : Int32) (n : Int32) (μ : wM) (h : pX7_paradox e n μ) (K : wK) (hK : w_cl 7 gX7_paradox shX rfX 43 (some .int) (qX7_paradox e n μ) tX7_paradox K) : K 0 [some (.ref 0), some (.int e), some (.int n), none] [] μ := by
  refine hK uX7_paradox 31 _ _ _ _ (vcX7_paradox_0 K _ e n μ ?_)
  clear hK
  unfold pX7_paradox at h
  have h0 := h
  unfold w_IX at h
  refine And.intro (fun z55 => ?_) (fun z55 => ?_)
  · unfold qX7_paradox fX7_paradox
    rw [if_neg (by rw [z55]; exact Bool.false_ne_true)]
    exact ⟨rfl, rfl⟩
  · refine And.intro (fun z56 => ?_) (fun z56 => ?_)
    · unfold qX7_paradox fX7_paradox
      rw [if_pos z55, if_neg (by rw [z56]; exact Bool.false_ne_true)]
      exact ⟨rfl, rfl⟩
    · refine And.intro (by exact has_in h.1 (by assumption)) ?_
      refine And.intro (fun z57 => ?_) (fun z57 => ?_)
      · refine And.intro (by first | exact rd_ok h0 (by assumption) (by assumption) | exact rd_okc h0 (has_in h.1 (by assumption))) ?_
        unfold qX7_paradox fX7_paradox
        rw [if_pos z55, if_pos z56, if_pos z57]
        exact ⟨rfl, rfl⟩
      · unfold qX7_paradox fX7_paradox
        rw [if_pos z55, if_pos z56, if_neg z57]
        exact ⟨rfl, rfl⟩
set_option maxRecDepth 100000 in
theorem zX7_paradox (l : Launch) : ∀ (idx : Nat) (S : wS), gX7_paradox idx = some S → w_Call l 7 idx S 6 shX rfX 43 := by
  intro idx S hS
  unfold gX7_paradox at hS
  split at hS
  · cases hS
    exact w_callV (ci := 3) (mX3_has l) (by decide) rX3_has eX3_has.1 (by decide +kernel) eX3_has.2.1 eX3_has.2.2.1 eX3_has.2.2.2 (by decide +kernel) (by decide) (by decide)
  · cases hS
    exact w_callV (ci := 7) (mX7_isAsOf l) (by decide) rX7_isAsOf eX7_isAsOf.1 (by decide +kernel) eX7_isAsOf.2.1 eX7_isAsOf.2.2.1 eX7_isAsOf.2.2.2 (by decide +kernel) (by decide) (by decide)
  · cases hS
    exact w_callV (ci := 0) (mX0_read l) (by decide) rX0_read eX0_read.1 (by decide +kernel) eX0_read.2.1 eX0_read.2.2.1 eX0_read.2.2.2 (by decide +kernel) (by decide) (by decide)
  · cases hS
    exact w_callV (ci := 0) (mX0_leastParadox l) (by decide) rX0_leastParadox eX0_leastParadox.1 (by decide +kernel) eX0_leastParadox.2.1 eX0_leastParadox.2.2.1 eX0_leastParadox.2.2.2 (by decide +kernel) (by decide) (by decide)
  · cases hS
theorem mX7_paradox (l : Launch) : w_Met l yX7_paradox cX7_paradox 4 (some .int) 6 shX rfX 43 sX7_paradox.2.2.2.1 sX7_paradox.2.2.2.2 :=
  w_meth (o := 7) (Γ := gX7_paradox) (tb := tX7_paradox) (by decide +kernel) rfl kX7_paradox rfl (zX7_paradox l) (fun as μ h => by obtain ⟨e, n, rfl, h⟩ := h; exact Nat.le_of_ble_eq_true rfl) (fun as μ h K hK => by obtain ⟨e, n, rfl, h⟩ := h; exact vX7_paradox e n μ h K hK)
set_option maxRecDepth 100000 in
theorem eX7_paradox : Cond.code yX7_paradox cX7_paradox 4 (some .int) ∈ w_tbl ∧ Cond.instanceMethod yX7_paradox ∈ w_tbl ∧ Cond.selects (w_C 7) yX7_paradox yX7_paradox ∈ w_tbl ∧ Cond.initialized yX7_paradox.cls ∈ w_tbl := ⟨by decide +kernel, by decide +kernel, by decide +kernel, by decide +kernel⟩
theorem rX7_paradox : ∀ as μ, sX7_paradox.2.2.2.1 as μ → ∃ q as', as = .ref q :: as' ∧ q < 43 ∧ shX q = .inl 7 := by
  intro as μ h
  obtain ⟨e, n, rfl, h⟩ := h
  exact ⟨_, _, rfl, by decide, rfl⟩
end
section
def fX7_order (i : Int32) (μ : wM) : Int32 × wM := (if ((i : Int32) = (-1)) then ((μ 1 7), μ) else (if (w_inB i 0 ((μ 1 7) - 1)) = true then ((μ 9 (i : Int32).toNatClampNeg), μ) else ((-1), μ)))
/-! X7_order -/
def pX7_order (i : Int32) (μ : wM) : Prop := w_IX μ
def qX7_order (i : Int32) (μ : wM) (r : Int32) (μ' : wM) : Prop := r = (fX7_order i μ).1 ∧ μ' = (fX7_order i μ).2
def sX7_order : wS := (false, false, 2, fun as μ => ∃ i, as = [.ref 0, .int i] ∧ pX7_order i μ, fun as μ r μ' => match as with
  | [.ref _, .int i] => qX7_order i μ r μ'
  | _ => False)
def gX7_order : Nat → Option wS := fun k => match k with
  | 55 => some sX7_within
  | _ => none
def uX7_order : Nat → Option (List Nat) := fun _ => none
set_option maxHeartbeats 4000000 in
set_option maxRecDepth 100000 in
theorem vcX7_order_0 (K : wK) (R : Int32 → wM → Prop) (i : Int32) (μ : wM) (h : (
    (((i : Int32) = (-1)) → R (μ 1 7) μ) ∧
    (¬ ((i : Int32) = (-1)) → (
      ((w_inB i 0 ((μ 1 7) - 1)) = false → R (-1) μ) ∧
      ((w_inB i 0 ((μ 1 7) - 1)) = true → (vp_in i 6) ∧ R (μ 9 (i : Int32).toNatClampNeg) μ))))) : w_n 7 gX7_order shX rfX 43 (some .int) R tX7_order uX7_order K 20 0 [some (.ref 0), some (.int i)] [] μ :=
  And.intro (fun z1504 => And.intro (And.intro (of_decide_eq_true rfl) rfl) (And.intro (And.intro (of_decide_eq_true rfl) rfl) (And.intro trivial ((h.1 z1504))))) (fun z1505 => And.intro (And.intro (of_decide_eq_true rfl) rfl) (And.intro (And.intro (of_decide_eq_true rfl) rfl) (And.intro (Exists.intro _ (Exists.intro _ (Exists.intro _ (And.intro rfl (trivial))))) (fun _ _ z1508 => by obtain ⟨z1506, z1507⟩ := z1508; have z1506 := z1506.symm; have z1507 := z1507.symm; subst z1506; subst z1507; exact And.intro (fun z1509 => And.intro trivial (((h.2 z1505).1 (w_B01_0.mp z1509)))) (fun z1510 => And.intro (And.intro (of_decide_eq_true rfl) rfl) (And.intro (And.intro (of_decide_eq_true rfl) rfl) (And.intro (And.intro (of_decide_eq_true rfl) (Exists.intro _ (And.intro rfl (((h.2 z1505).2 (w_B01_n.mp z1510)).1)))) (And.intro trivial (((h.2 z1505).2 (w_B01_n.mp z1510)).2)))))))))
set_option maxHeartbeats 4000000 in
theorem vX7_order (i : Int32) (μ : wM) (h : pX7_order i μ) (K : wK) (hK : w_cl 7 gX7_order shX rfX 43 (some .int) (qX7_order i μ) tX7_order K) : K 0 [some (.ref 0), some (.int i)] [] μ := by
  refine hK uX7_order 20 _ _ _ _ (vcX7_order_0 K _ i μ ?_)
  clear hK
  unfold pX7_order at h
  have h0 := h
  unfold w_IX at h
  refine And.intro (fun z88 => ?_) (fun z88 => ?_)
  · unfold qX7_order fX7_order
    rw [if_pos z88]
    exact ⟨rfl, rfl⟩
  · refine And.intro (fun z89 => ?_) (fun z89 => ?_)
    · unfold qX7_order fX7_order
      rw [if_neg z88, if_neg (by rw [z89]; exact Bool.false_ne_true)]
      exact ⟨rfl, rfl⟩
    · refine And.intro (by exact ord_in h.2.2.2.2.2.2.2.1 (by assumption)) ?_
      unfold qX7_order fX7_order
      rw [if_neg z88, if_pos z89]
      exact ⟨rfl, rfl⟩
set_option maxRecDepth 100000 in
theorem zX7_order (l : Launch) : ∀ (idx : Nat) (S : wS), gX7_order idx = some S → w_Call l 7 idx S 2 shX rfX 43 := by
  intro idx S hS
  unfold gX7_order at hS
  split at hS
  · cases hS
    exact w_callS (mX7_within l) eX7_within.1 (by decide +kernel) eX7_within.2.1 eX7_within.2.2 (by decide +kernel) (by decide) (by decide)
  · cases hS
theorem mX7_order (l : Launch) : w_Met l yX7_order cX7_order 2 (some .int) 2 shX rfX 43 sX7_order.2.2.2.1 sX7_order.2.2.2.2 :=
  w_meth (o := 7) (Γ := gX7_order) (tb := tX7_order) (by decide +kernel) rfl kX7_order rfl (zX7_order l) (fun as μ h => by obtain ⟨i, rfl, h⟩ := h; exact Nat.le_of_ble_eq_true rfl) (fun as μ h K hK => by obtain ⟨i, rfl, h⟩ := h; exact vX7_order i μ h K hK)
set_option maxRecDepth 100000 in
theorem eX7_order : Cond.code yX7_order cX7_order 2 (some .int) ∈ w_tbl ∧ Cond.instanceMethod yX7_order ∈ w_tbl ∧ Cond.selects (w_C 7) yX7_order yX7_order ∈ w_tbl ∧ Cond.initialized yX7_order.cls ∈ w_tbl := ⟨by decide +kernel, by decide +kernel, by decide +kernel, by decide +kernel⟩
theorem rX7_order : ∀ as μ, sX7_order.2.2.2.1 as μ → ∃ q as', as = .ref q :: as' ∧ q < 43 ∧ shX q = .inl 7 := by
  intro as μ h
  obtain ⟨i, rfl, h⟩ := h
  exact ⟨_, _, rfl, by decide, rfl⟩
end
