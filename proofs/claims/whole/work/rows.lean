section
-- ===== PART A: goes FIRST, ahead of the names: the tables' words, and 'selects' of the private methods out of them =====
/-- a private method of a class that the tables say can be made, by its rows of tables_1 -/
def lw_okq (q : MethodName × Nat) : Prop := (q.1.cls ≠ "java/lang/invoke/MethodHandle" ∧ q.1.cls ≠ "java/lang/invoke/VarHandle") ∧ Cond.instantiable q.1.cls q.2 ∈ tables_1 ∧ Cond.privateMethod q.1 ∈ tables_1 ∧ Cond.instanceMethod q.1 ∈ tables_1
theorem lw_p0 : lw_okq (⟨"GlenGames$Programme", "search", "(III)V"⟩, 13) := ⟨⟨by decide +kernel, by decide +kernel⟩, List.mem_of_getElem? (i := 24) (by decide +kernel), List.mem_of_getElem? (i := 323) (by decide +kernel), List.mem_of_getElem? (i := 324) (by decide +kernel)⟩
theorem lw_p1 : lw_okq (⟨"GlenGames$Programme", "keep", "(II)V"⟩, 13) := ⟨⟨by decide +kernel, by decide +kernel⟩, List.mem_of_getElem? (i := 24) (by decide +kernel), List.mem_of_getElem? (i := 327) (by decide +kernel), List.mem_of_getElem? (i := 328) (by decide +kernel)⟩
theorem lw_p2 : lw_okq (⟨"GlenGames$Programme", "searchBehind", "(IIII)V"⟩, 13) := ⟨⟨by decide +kernel, by decide +kernel⟩, List.mem_of_getElem? (i := 24) (by decide +kernel), List.mem_of_getElem? (i := 334) (by decide +kernel), List.mem_of_getElem? (i := 335) (by decide +kernel)⟩
theorem lw_p3 : lw_okq (⟨"GlenGames$Programme", "firstFit", "(II)I"⟩, 13) := ⟨⟨by decide +kernel, by decide +kernel⟩, List.mem_of_getElem? (i := 24) (by decide +kernel), List.mem_of_getElem? (i := 338) (by decide +kernel), List.mem_of_getElem? (i := 339) (by decide +kernel)⟩
theorem lw_p4 : lw_okq (⟨"GlenGames$Programme", "pushedBy", "(III)I"⟩, 13) := ⟨⟨by decide +kernel, by decide +kernel⟩, List.mem_of_getElem? (i := 24) (by decide +kernel), List.mem_of_getElem? (i := 342) (by decide +kernel), List.mem_of_getElem? (i := 343) (by decide +kernel)⟩
theorem lw_p5 : lw_okq (⟨"GlenGames", "areTaken", "(LGlenGames$Event;LGlenGames$Sheet;II)Z"⟩, 7) := ⟨⟨by decide +kernel, by decide +kernel⟩, List.mem_of_getElem? (i := 16) (by decide +kernel), List.mem_of_getElem? (i := 430) (by decide +kernel), List.mem_of_getElem? (i := 431) (by decide +kernel)⟩
theorem lw_p6 : lw_okq (⟨"GlenGames", "addAll", "(LGlenGames$Event;LGlenGames$Sheet;II)V"⟩, 7) := ⟨⟨by decide +kernel, by decide +kernel⟩, List.mem_of_getElem? (i := 16) (by decide +kernel), List.mem_of_getElem? (i := 438) (by decide +kernel), List.mem_of_getElem? (i := 439) (by decide +kernel)⟩
theorem lw_p7 : lw_okq (⟨"GlenGames", "isAsOf", "(I)Z"⟩, 7) := ⟨⟨by decide +kernel, by decide +kernel⟩, List.mem_of_getElem? (i := 16) (by decide +kernel), List.mem_of_getElem? (i := 446) (by decide +kernel), List.mem_of_getElem? (i := 447) (by decide +kernel)⟩
theorem lw_p8 : lw_okq (⟨"GlenGames$Board", "take", "(LGlenGames$Ledger;LGlenGames$Event;I)V"⟩, 5) := ⟨⟨by decide +kernel, by decide +kernel⟩, List.mem_of_getElem? (i := 163) (by decide +kernel), List.mem_of_getElem? (i := 458) (by decide +kernel), List.mem_of_getElem? (i := 459) (by decide +kernel)⟩
theorem lw_p9 : lw_okq (⟨"GlenGames$Board", "insert", "(II)V"⟩, 5) := ⟨⟨by decide +kernel, by decide +kernel⟩, List.mem_of_getElem? (i := 163) (by decide +kernel), List.mem_of_getElem? (i := 467) (by decide +kernel), List.mem_of_getElem? (i := 468) (by decide +kernel)⟩
theorem lw_p10 : lw_okq (⟨"GlenGames$Board", "joinJudges", "()V"⟩, 5) := ⟨⟨by decide +kernel, by decide +kernel⟩, List.mem_of_getElem? (i := 163) (by decide +kernel), List.mem_of_getElem? (i := 475) (by decide +kernel), List.mem_of_getElem? (i := 476) (by decide +kernel)⟩
theorem lw_p11 : lw_okq (⟨"GlenGames$Board", "rank", "(LGlenGames$Event;)V"⟩, 5) := ⟨⟨by decide +kernel, by decide +kernel⟩, List.mem_of_getElem? (i := 163) (by decide +kernel), List.mem_of_getElem? (i := 480) (by decide +kernel), List.mem_of_getElem? (i := 481) (by decide +kernel)⟩
theorem lw_p12 : lw_okq (⟨"GlenGames$Board", "howManyAheadOf", "(ILGlenGames$Event;)I"⟩, 5) := ⟨⟨by decide +kernel, by decide +kernel⟩, List.mem_of_getElem? (i := 163) (by decide +kernel), List.mem_of_getElem? (i := 484) (by decide +kernel), List.mem_of_getElem? (i := 485) (by decide +kernel)⟩
theorem lw_p13 : lw_okq (⟨"GlenGames$Board", "isAhead", "(IILGlenGames$Event;)Z"⟩, 5) := ⟨⟨by decide +kernel, by decide +kernel⟩, List.mem_of_getElem? (i := 163) (by decide +kernel), List.mem_of_getElem? (i := 488) (by decide +kernel), List.mem_of_getElem? (i := 489) (by decide +kernel)⟩
theorem lw_p14 : lw_okq (⟨"GlenGames$Board", "beatsAll", "(I)Z"⟩, 5) := ⟨⟨by decide +kernel, by decide +kernel⟩, List.mem_of_getElem? (i := 163) (by decide +kernel), List.mem_of_getElem? (i := 521) (by decide +kernel), List.mem_of_getElem? (i := 522) (by decide +kernel)⟩
theorem lw_p15 : lw_okq (⟨"GlenGames$Board", "judgesFor", "(II)I"⟩, 5) := ⟨⟨by decide +kernel, by decide +kernel⟩, List.mem_of_getElem? (i := 163) (by decide +kernel), List.mem_of_getElem? (i := 526) (by decide +kernel), List.mem_of_getElem? (i := 527) (by decide +kernel)⟩
def lw_privs_1 : List (MethodName × Nat) := [(⟨"GlenGames$Programme", "search", "(III)V"⟩, 13), (⟨"GlenGames$Programme", "keep", "(II)V"⟩, 13), (⟨"GlenGames$Programme", "searchBehind", "(IIII)V"⟩, 13), (⟨"GlenGames$Programme", "firstFit", "(II)I"⟩, 13), (⟨"GlenGames$Programme", "pushedBy", "(III)I"⟩, 13), (⟨"GlenGames", "areTaken", "(LGlenGames$Event;LGlenGames$Sheet;II)Z"⟩, 7), (⟨"GlenGames", "addAll", "(LGlenGames$Event;LGlenGames$Sheet;II)V"⟩, 7), (⟨"GlenGames", "isAsOf", "(I)Z"⟩, 7), (⟨"GlenGames$Board", "take", "(LGlenGames$Ledger;LGlenGames$Event;I)V"⟩, 5), (⟨"GlenGames$Board", "insert", "(II)V"⟩, 5), (⟨"GlenGames$Board", "joinJudges", "()V"⟩, 5), (⟨"GlenGames$Board", "rank", "(LGlenGames$Event;)V"⟩, 5), (⟨"GlenGames$Board", "howManyAheadOf", "(ILGlenGames$Event;)I"⟩, 5), (⟨"GlenGames$Board", "isAhead", "(IILGlenGames$Event;)Z"⟩, 5), (⟨"GlenGames$Board", "beatsAll", "(I)Z"⟩, 5), (⟨"GlenGames$Board", "judgesFor", "(II)I"⟩, 5)]
theorem lw_r1 : ∀ q ∈ lw_privs_1, lw_okq q := List.forall_mem_cons.mpr ⟨lw_p0, List.forall_mem_cons.mpr ⟨lw_p1, List.forall_mem_cons.mpr ⟨lw_p2, List.forall_mem_cons.mpr ⟨lw_p3, List.forall_mem_cons.mpr ⟨lw_p4, List.forall_mem_cons.mpr ⟨lw_p5, List.forall_mem_cons.mpr ⟨lw_p6, List.forall_mem_cons.mpr ⟨lw_p7, List.forall_mem_cons.mpr ⟨lw_p8, List.forall_mem_cons.mpr ⟨lw_p9, List.forall_mem_cons.mpr ⟨lw_p10, List.forall_mem_cons.mpr ⟨lw_p11, List.forall_mem_cons.mpr ⟨lw_p12, List.forall_mem_cons.mpr ⟨lw_p13, List.forall_mem_cons.mpr ⟨lw_p14, List.forall_mem_cons.mpr ⟨lw_p15, fun _ h => absurd h List.not_mem_nil⟩⟩⟩⟩⟩⟩⟩⟩⟩⟩⟩⟩⟩⟩⟩⟩
theorem lw_p16 : lw_okq (⟨"GlenGames$Board", "arePlacesAsLast", "()Z"⟩, 5) := ⟨⟨by decide +kernel, by decide +kernel⟩, List.mem_of_getElem? (i := 163) (by decide +kernel), List.mem_of_getElem? (i := 540) (by decide +kernel), List.mem_of_getElem? (i := 541) (by decide +kernel)⟩
theorem lw_p17 : lw_okq (⟨"GlenGames$Tape", "behindBlanks", "(I)I"⟩, 3) := ⟨⟨by decide +kernel, by decide +kernel⟩, List.mem_of_getElem? (i := 186) (by decide +kernel), List.mem_of_getElem? (i := 572) (by decide +kernel), List.mem_of_getElem? (i := 573) (by decide +kernel)⟩
theorem lw_p18 : lw_okq (⟨"GlenGames$Tape", "behindDigits", "(I)I"⟩, 3) := ⟨⟨by decide +kernel, by decide +kernel⟩, List.mem_of_getElem? (i := 186) (by decide +kernel), List.mem_of_getElem? (i := 576) (by decide +kernel), List.mem_of_getElem? (i := 577) (by decide +kernel)⟩
theorem lw_p19 : lw_okq (⟨"GlenGames$Tape", "numberOf", "(II)I"⟩, 3) := ⟨⟨by decide +kernel, by decide +kernel⟩, List.mem_of_getElem? (i := 186) (by decide +kernel), List.mem_of_getElem? (i := 580) (by decide +kernel), List.mem_of_getElem? (i := 581) (by decide +kernel)⟩
theorem lw_p20 : lw_okq (⟨"GlenGames", "winnings", "(LGlenGames$Event;I)I"⟩, 7) := ⟨⟨by decide +kernel, by decide +kernel⟩, List.mem_of_getElem? (i := 16) (by decide +kernel), List.mem_of_getElem? (i := 598) (by decide +kernel), List.mem_of_getElem? (i := 599) (by decide +kernel)⟩
theorem lw_p21 : lw_okq (⟨"GlenGames", "moveYards", "()I"⟩, 7) := ⟨⟨by decide +kernel, by decide +kernel⟩, List.mem_of_getElem? (i := 16) (by decide +kernel), List.mem_of_getElem? (i := 618) (by decide +kernel), List.mem_of_getElem? (i := 619) (by decide +kernel)⟩
theorem lw_p22 : lw_okq (⟨"GlenGames", "toldOf", "(LGlenGames$Event;I)I"⟩, 7) := ⟨⟨by decide +kernel, by decide +kernel⟩, List.mem_of_getElem? (i := 16) (by decide +kernel), List.mem_of_getElem? (i := 658) (by decide +kernel), List.mem_of_getElem? (i := 659) (by decide +kernel)⟩
theorem lw_p23 : lw_okq (⟨"GlenGamesModel", "isEvent", "(I)Z"⟩, 42) := ⟨⟨by decide +kernel, by decide +kernel⟩, List.mem_of_getElem? (i := 662) (by decide +kernel), List.mem_of_getElem? (i := 807) (by decide +kernel), List.mem_of_getElem? (i := 808) (by decide +kernel)⟩
theorem lw_p24 : lw_okq (⟨"GlenGamesModel", "layRow", "(I)I"⟩, 42) := ⟨⟨by decide +kernel, by decide +kernel⟩, List.mem_of_getElem? (i := 662) (by decide +kernel), List.mem_of_getElem? (i := 829) (by decide +kernel), List.mem_of_getElem? (i := 830) (by decide +kernel)⟩
theorem lw_p25 : lw_okq (⟨"GlenGamesModel", "goes", "(III)Z"⟩, 42) := ⟨⟨by decide +kernel, by decide +kernel⟩, List.mem_of_getElem? (i := 662) (by decide +kernel), List.mem_of_getElem? (i := 833) (by decide +kernel), List.mem_of_getElem? (i := 834) (by decide +kernel)⟩
theorem lw_p26 : lw_okq (⟨"GlenGamesModel", "isCalled", "(II)Z"⟩, 42) := ⟨⟨by decide +kernel, by decide +kernel⟩, List.mem_of_getElem? (i := 662) (by decide +kernel), List.mem_of_getElem? (i := 837) (by decide +kernel), List.mem_of_getElem? (i := 838) (by decide +kernel)⟩
theorem lw_p27 : lw_okq (⟨"GlenGamesModel", "keep", "(I)V"⟩, 42) := ⟨⟨by decide +kernel, by decide +kernel⟩, List.mem_of_getElem? (i := 662) (by decide +kernel), List.mem_of_getElem? (i := 841) (by decide +kernel), List.mem_of_getElem? (i := 842) (by decide +kernel)⟩
theorem lw_p28 : lw_okq (⟨"GlenGamesModel", "countsUp", "(I)Z"⟩, 42) := ⟨⟨by decide +kernel, by decide +kernel⟩, List.mem_of_getElem? (i := 662) (by decide +kernel), List.mem_of_getElem? (i := 845) (by decide +kernel), List.mem_of_getElem? (i := 846) (by decide +kernel)⟩
theorem lw_p29 : lw_okq (⟨"GlenGamesModel", "isGood", "(IIII)Z"⟩, 42) := ⟨⟨by decide +kernel, by decide +kernel⟩, List.mem_of_getElem? (i := 662) (by decide +kernel), List.mem_of_getElem? (i := 877) (by decide +kernel), List.mem_of_getElem? (i := 878) (by decide +kernel)⟩
theorem lw_p30 : lw_okq (⟨"GlenGamesModel", "put", "(IIII)V"⟩, 42) := ⟨⟨by decide +kernel, by decide +kernel⟩, List.mem_of_getElem? (i := 662) (by decide +kernel), List.mem_of_getElem? (i := 881) (by decide +kernel), List.mem_of_getElem? (i := 882) (by decide +kernel)⟩
theorem lw_p31 : lw_okq (⟨"GlenGamesModel", "markAll", "(II)V"⟩, 42) := ⟨⟨by decide +kernel, by decide +kernel⟩, List.mem_of_getElem? (i := 662) (by decide +kernel), List.mem_of_getElem? (i := 908) (by decide +kernel), List.mem_of_getElem? (i := 909) (by decide +kernel)⟩
def lw_privs_2 : List (MethodName × Nat) := [(⟨"GlenGames$Board", "arePlacesAsLast", "()Z"⟩, 5), (⟨"GlenGames$Tape", "behindBlanks", "(I)I"⟩, 3), (⟨"GlenGames$Tape", "behindDigits", "(I)I"⟩, 3), (⟨"GlenGames$Tape", "numberOf", "(II)I"⟩, 3), (⟨"GlenGames", "winnings", "(LGlenGames$Event;I)I"⟩, 7), (⟨"GlenGames", "moveYards", "()I"⟩, 7), (⟨"GlenGames", "toldOf", "(LGlenGames$Event;I)I"⟩, 7), (⟨"GlenGamesModel", "isEvent", "(I)Z"⟩, 42), (⟨"GlenGamesModel", "layRow", "(I)I"⟩, 42), (⟨"GlenGamesModel", "goes", "(III)Z"⟩, 42), (⟨"GlenGamesModel", "isCalled", "(II)Z"⟩, 42), (⟨"GlenGamesModel", "keep", "(I)V"⟩, 42), (⟨"GlenGamesModel", "countsUp", "(I)Z"⟩, 42), (⟨"GlenGamesModel", "isGood", "(IIII)Z"⟩, 42), (⟨"GlenGamesModel", "put", "(IIII)V"⟩, 42), (⟨"GlenGamesModel", "markAll", "(II)V"⟩, 42)]
theorem lw_r2 : ∀ q ∈ lw_privs_2, lw_okq q := List.forall_mem_cons.mpr ⟨lw_p16, List.forall_mem_cons.mpr ⟨lw_p17, List.forall_mem_cons.mpr ⟨lw_p18, List.forall_mem_cons.mpr ⟨lw_p19, List.forall_mem_cons.mpr ⟨lw_p20, List.forall_mem_cons.mpr ⟨lw_p21, List.forall_mem_cons.mpr ⟨lw_p22, List.forall_mem_cons.mpr ⟨lw_p23, List.forall_mem_cons.mpr ⟨lw_p24, List.forall_mem_cons.mpr ⟨lw_p25, List.forall_mem_cons.mpr ⟨lw_p26, List.forall_mem_cons.mpr ⟨lw_p27, List.forall_mem_cons.mpr ⟨lw_p28, List.forall_mem_cons.mpr ⟨lw_p29, List.forall_mem_cons.mpr ⟨lw_p30, List.forall_mem_cons.mpr ⟨lw_p31, fun _ h => absurd h List.not_mem_nil⟩⟩⟩⟩⟩⟩⟩⟩⟩⟩⟩⟩⟩⟩⟩⟩
theorem lw_p32 : lw_okq (⟨"GlenGamesModel", "markThrow", "(III)V"⟩, 42) := ⟨⟨by decide +kernel, by decide +kernel⟩, List.mem_of_getElem? (i := 662) (by decide +kernel), List.mem_of_getElem? (i := 912) (by decide +kernel), List.mem_of_getElem? (i := 913) (by decide +kernel)⟩
theorem lw_p33 : lw_okq (⟨"GlenGamesModel", "fairMark", "(II)I"⟩, 42) := ⟨⟨by decide +kernel, by decide +kernel⟩, List.mem_of_getElem? (i := 662) (by decide +kernel), List.mem_of_getElem? (i := 916) (by decide +kernel), List.mem_of_getElem? (i := 917) (by decide +kernel)⟩
theorem lw_p34 : lw_okq (⟨"GlenGamesModel", "markRace", "(III)V"⟩, 42) := ⟨⟨by decide +kernel, by decide +kernel⟩, List.mem_of_getElem? (i := 662) (by decide +kernel), List.mem_of_getElem? (i := 921) (by decide +kernel), List.mem_of_getElem? (i := 922) (by decide +kernel)⟩
theorem lw_p35 : lw_okq (⟨"GlenGamesModel", "markDance", "(III)V"⟩, 42) := ⟨⟨by decide +kernel, by decide +kernel⟩, List.mem_of_getElem? (i := 662) (by decide +kernel), List.mem_of_getElem? (i := 925) (by decide +kernel), List.mem_of_getElem? (i := 926) (by decide +kernel)⟩
theorem lw_p36 : lw_okq (⟨"GlenGamesModel", "placeAll", "(II)I"⟩, 42) := ⟨⟨by decide +kernel, by decide +kernel⟩, List.mem_of_getElem? (i := 662) (by decide +kernel), List.mem_of_getElem? (i := 933) (by decide +kernel), List.mem_of_getElem? (i := 934) (by decide +kernel)⟩
theorem lw_p37 : lw_okq (⟨"GlenGamesModel", "isAhead", "(III)Z"⟩, 42) := ⟨⟨by decide +kernel, by decide +kernel⟩, List.mem_of_getElem? (i := 662) (by decide +kernel), List.mem_of_getElem? (i := 937) (by decide +kernel), List.mem_of_getElem? (i := 938) (by decide +kernel)⟩
theorem lw_p38 : lw_okq (⟨"GlenGamesModel", "beats", "(II)Z"⟩, 42) := ⟨⟨by decide +kernel, by decide +kernel⟩, List.mem_of_getElem? (i := 662) (by decide +kernel), List.mem_of_getElem? (i := 949) (by decide +kernel), List.mem_of_getElem? (i := 950) (by decide +kernel)⟩
theorem lw_p39 : lw_okq (⟨"GlenGamesModel", "reads", "()I"⟩, 42) := ⟨⟨by decide +kernel, by decide +kernel⟩, List.mem_of_getElem? (i := 662) (by decide +kernel), List.mem_of_getElem? (i := 966) (by decide +kernel), List.mem_of_getElem? (i := 967) (by decide +kernel)⟩
theorem lw_p40 : lw_okq (⟨"GlenGamesModel", "number", "(I)I"⟩, 42) := ⟨⟨by decide +kernel, by decide +kernel⟩, List.mem_of_getElem? (i := 662) (by decide +kernel), List.mem_of_getElem? (i := 970) (by decide +kernel), List.mem_of_getElem? (i := 971) (by decide +kernel)⟩
theorem lw_p41 : lw_okq (⟨"GlenGamesModel", "next", "()I"⟩, 42) := ⟨⟨by decide +kernel, by decide +kernel⟩, List.mem_of_getElem? (i := 662) (by decide +kernel), List.mem_of_getElem? (i := 974) (by decide +kernel), List.mem_of_getElem? (i := 975) (by decide +kernel)⟩
theorem lw_p42 : lw_okq (⟨"GlenGamesModel", "wonOf", "(II)I"⟩, 42) := ⟨⟨by decide +kernel, by decide +kernel⟩, List.mem_of_getElem? (i := 662) (by decide +kernel), List.mem_of_getElem? (i := 987) (by decide +kernel), List.mem_of_getElem? (i := 988) (by decide +kernel)⟩
theorem lw_p43 : lw_okq (⟨"GlenGamesModel", "first", "(II)I"⟩, 42) := ⟨⟨by decide +kernel, by decide +kernel⟩, List.mem_of_getElem? (i := 662) (by decide +kernel), List.mem_of_getElem? (i := 991) (by decide +kernel), List.mem_of_getElem? (i := 992) (by decide +kernel)⟩
def lw_privs_3 : List (MethodName × Nat) := [(⟨"GlenGamesModel", "markThrow", "(III)V"⟩, 42), (⟨"GlenGamesModel", "fairMark", "(II)I"⟩, 42), (⟨"GlenGamesModel", "markRace", "(III)V"⟩, 42), (⟨"GlenGamesModel", "markDance", "(III)V"⟩, 42), (⟨"GlenGamesModel", "placeAll", "(II)I"⟩, 42), (⟨"GlenGamesModel", "isAhead", "(III)Z"⟩, 42), (⟨"GlenGamesModel", "beats", "(II)Z"⟩, 42), (⟨"GlenGamesModel", "reads", "()I"⟩, 42), (⟨"GlenGamesModel", "number", "(I)I"⟩, 42), (⟨"GlenGamesModel", "next", "()I"⟩, 42), (⟨"GlenGamesModel", "wonOf", "(II)I"⟩, 42), (⟨"GlenGamesModel", "first", "(II)I"⟩, 42)]
theorem lw_r3 : ∀ q ∈ lw_privs_3, lw_okq q := List.forall_mem_cons.mpr ⟨lw_p32, List.forall_mem_cons.mpr ⟨lw_p33, List.forall_mem_cons.mpr ⟨lw_p34, List.forall_mem_cons.mpr ⟨lw_p35, List.forall_mem_cons.mpr ⟨lw_p36, List.forall_mem_cons.mpr ⟨lw_p37, List.forall_mem_cons.mpr ⟨lw_p38, List.forall_mem_cons.mpr ⟨lw_p39, List.forall_mem_cons.mpr ⟨lw_p40, List.forall_mem_cons.mpr ⟨lw_p41, List.forall_mem_cons.mpr ⟨lw_p42, List.forall_mem_cons.mpr ⟨lw_p43, fun _ h => absurd h List.not_mem_nil⟩⟩⟩⟩⟩⟩⟩⟩⟩⟩⟩⟩
def lw_privs : List (MethodName × Nat) := lw_privs_1 ++ (lw_privs_2 ++ (lw_privs_3))
def lw_tbl : List Cond := k2_sels lw_privs ++ tables_1
theorem lw_privs_ok : ∀ q ∈ lw_privs, lw_okq q := by
  show ∀ q ∈ lw_privs_1 ++ (lw_privs_2 ++ (lw_privs_3)), lw_okq q
  exact List.forall_mem_append.mpr ⟨lw_r1, List.forall_mem_append.mpr ⟨lw_r2, lw_r3⟩⟩
end
section
theorem goodIn_r {big : List Cond} (ws : List Cond) (ps : List Nat) (hp : ws = ps.filterMap (fun i => big[i]?)) (h : ws.all goodWord = true) : GoodIn big ws := by
  intro w hw
  have h1 := List.all_eq_true.mp h w hw
  rw [hp] at hw
  obtain ⟨i, -, hi⟩ := List.mem_filterMap.mp hw
  have hm : w ∈ big := by first | exact List.mem_of_getElem? hi | exact List.getElem?_mem hi
  exact ⟨hm, good_of_word h1⟩
theorem goodIn_app {big a b : List Cond} (ha : GoodIn big a) (hb : GoodIn big b) : GoodIn big (a ++ b) := fun w h => (List.mem_append.mp h).elim (ha w) (hb w)
theorem goodIn_ca {big a b : List Cond} {c : Cond} (ha : GoodIn big (c :: a)) (hb : GoodIn big b) : GoodIn big (c :: (a ++ b)) := fun w h => (List.mem_cons.mp h).elim (fun e => ha w (List.mem_cons.mpr (Or.inl e))) (fun h => (List.mem_append.mp h).elim (fun h => ha w (List.mem_cons.mpr (Or.inr h))) (hb w))
theorem goodIn_sub {big ws : List Cond} (hm : ∀ w ∈ ws, w ∈ big) (h : ws.all goodWord = true) : GoodIn big ws := fun w hw => ⟨hm w hw, good_of_word (List.all_eq_true.mp h w hw)⟩

def RX0 : String := "GlenGames$Board"
def TX0 : u_T := fun k => match k with
  | 0 => ("GlenGames$Board", "places", "[I", true)
  | 1 => ("GlenGames$Board", "marks", "[I", true)
  | 2 => ("GlenGames$Board", "counted", "[I", true)
  | 3 => ("GlenGames$Board", "judged", "[I", true)
  | _ => ("GlenGames$Board", "lastPlaces", "[I", true)
def tyX0 : Nat → FieldType := fun k => match k with
  | 0 => .array .int
  | 1 => .array .int
  | 2 => .array .int
  | 3 => .array .int
  | _ => .array .int
abbrev wsX00 : List Cond := u_ws RX0 TX0 5
theorem nmX0 : ∀ a, a < 5 → ∀ b, b < 5 → a ≠ b → (TX0 a).2.1 ≠ (TX0 b).2.1 := by decide +kernel
theorem tyX0_ok : ∀ k, k < 5 → parseFieldDescriptor (TX0 k).2.2.1 = some (tyX0 k) := by decide +kernel
abbrev cX0_init : ByteArray := prog_2_method_1_code
def yX0_init : MethodName := ⟨RX0, "<init>", "()V"⟩
abbrev cX0_read : ByteArray := prog_2_method_2_code
def yX0_read : MethodName := ⟨RX0, "read", "(LGlenGames$Ledger;LGlenGames$Event;I)V"⟩
abbrev cX0_take : ByteArray := prog_2_method_3_code
def yX0_take : MethodName := ⟨RX0, "take", "(LGlenGames$Ledger;LGlenGames$Event;I)V"⟩
abbrev cX0_insert : ByteArray := prog_2_method_4_code
def yX0_insert : MethodName := ⟨RX0, "insert", "(II)V"⟩
abbrev cX0_joinJudges : ByteArray := prog_2_method_5_code
def yX0_joinJudges : MethodName := ⟨RX0, "joinJudges", "()V"⟩
abbrev cX0_rank : ByteArray := prog_2_method_6_code
def yX0_rank : MethodName := ⟨RX0, "rank", "(LGlenGames$Event;)V"⟩
abbrev cX0_howManyAheadOf : ByteArray := prog_2_method_7_code
def yX0_howManyAheadOf : MethodName := ⟨RX0, "howManyAheadOf", "(ILGlenGames$Event;)I"⟩
abbrev cX0_isAhead : ByteArray := prog_2_method_8_code
def yX0_isAhead : MethodName := ⟨RX0, "isAhead", "(IILGlenGames$Event;)Z"⟩
abbrev cX0_hasMark : ByteArray := prog_2_method_9_code
def yX0_hasMark : MethodName := ⟨RX0, "hasMark", "(I)Z"⟩
abbrev cX0_markOf : ByteArray := prog_2_method_10_code
def yX0_markOf : MethodName := ⟨RX0, "markOf", "(II)I"⟩
abbrev cX0_isTold : ByteArray := prog_2_method_11_code
def yX0_isTold : MethodName := ⟨RX0, "isTold", "(I)Z"⟩
abbrev cX0_howManyTold : ByteArray := prog_2_method_12_code
def yX0_howManyTold : MethodName := ⟨RX0, "howManyTold", "()I"⟩
abbrev cX0_howManyAt : ByteArray := prog_2_method_13_code
def yX0_howManyAt : MethodName := ⟨RX0, "howManyAt", "(II)I"⟩
abbrev cX0_leastParadox : ByteArray := prog_2_method_14_code
def yX0_leastParadox : MethodName := ⟨RX0, "leastParadox", "()I"⟩
abbrev cX0_beatsAll : ByteArray := prog_2_method_15_code
def yX0_beatsAll : MethodName := ⟨RX0, "beatsAll", "(I)Z"⟩
abbrev cX0_judgesFor : ByteArray := prog_2_method_16_code
def yX0_judgesFor : MethodName := ⟨RX0, "judgesFor", "(II)I"⟩
abbrev cX0_settledFrom : ByteArray := prog_2_method_17_code
def yX0_settledFrom : MethodName := ⟨RX0, "settledFrom", "(LGlenGames$Ledger;LGlenGames$Event;)I"⟩
abbrev cX0_arePlacesAsLast : ByteArray := prog_2_method_18_code
def yX0_arePlacesAsLast : MethodName := ⟨RX0, "arePlacesAsLast", "()Z"⟩
def RX1 : String := "GlenGames$Event"
def TX1 : u_T := fun k => match k with
  | 0 => ("GlenGames$Event", "number", "I", true)
  | 1 => ("GlenGames$Event", "kind", "I", false)
  | 2 => ("GlenGames$Event", "parts", "I", false)
  | 3 => ("GlenGames$Event", "spells", "I", false)
  | 4 => ("GlenGames$Event", "men", "I", false)
  | 5 => ("GlenGames$Event", "purse", "I", false)
  | 6 => ("GlenGames$Event", "isVoid", "Z", false)
  | 7 => ("GlenGames$Event", "grams", "I", false)
  | 8 => ("GlenGames$Event", "slope", "I", false)
  | _ => ("GlenGames$Event", "way", "I", false)
def tyX1 : Nat → FieldType := fun k => match k with
  | 0 => .int
  | 1 => .int
  | 2 => .int
  | 3 => .int
  | 4 => .int
  | 5 => .int
  | 6 => .boolean
  | 7 => .int
  | 8 => .int
  | _ => .int
abbrev wsX10 : List Cond := u_ws RX1 TX1 10
theorem nmX1 : ∀ a, a < 10 → ∀ b, b < 10 → a ≠ b → (TX1 a).2.1 ≠ (TX1 b).2.1 := by decide +kernel
theorem tyX1_ok : ∀ k, k < 10 → parseFieldDescriptor (TX1 k).2.2.1 = some (tyX1 k) := by decide +kernel
abbrev cX1_init : ByteArray := prog_3_method_1_code
def yX1_init : MethodName := ⟨RX1, "<init>", "(I)V"⟩
abbrev cX1_put : ByteArray := prog_3_method_2_code
def yX1_put : MethodName := ⟨RX1, "put", "(IZ)I"⟩
abbrev cX1_hasMan : ByteArray := prog_3_method_3_code
def yX1_hasMan : MethodName := ⟨RX1, "hasMan", "(I)Z"⟩
abbrev cX1_takes : ByteArray := prog_3_method_4_code
def yX1_takes : MethodName := ⟨RX1, "takes", "(III)Z"⟩
abbrev cX1_width : ByteArray := prog_3_method_5_code
def yX1_width : MethodName := ⟨RX1, "width", "()I"⟩
abbrev cX1_secondOf : ByteArray := prog_3_method_6_code
def yX1_secondOf : MethodName := ⟨RX1, "secondOf", "(LGlenGames$Sheet;I)I"⟩
abbrev cX1_fairMark : ByteArray := prog_3_method_7_code
def yX1_fairMark : MethodName := ⟨RX1, "fairMark", "(II)I"⟩
abbrev cX1_raceMark : ByteArray := prog_3_method_8_code
def yX1_raceMark : MethodName := ⟨RX1, "raceMark", "(II)I"⟩
def RX2 : String := "GlenGames$Ledger"
def TX2 : u_T := fun k => match k with
  | 0 => ("GlenGames$Ledger", "events", "[I", true)
  | 1 => ("GlenGames$Ledger", "men", "[I", true)
  | 2 => ("GlenGames$Ledger", "firsts", "[I", true)
  | 3 => ("GlenGames$Ledger", "seconds", "[I", true)
  | 4 => ("GlenGames$Ledger", "yards", "[I", true)
  | _ => ("GlenGames$Ledger", "count", "I", false)
def tyX2 : Nat → FieldType := fun k => match k with
  | 0 => .array .int
  | 1 => .array .int
  | 2 => .array .int
  | 3 => .array .int
  | 4 => .array .int
  | _ => .int
abbrev wsX20 : List Cond := u_ws RX2 TX2 6
theorem nmX2 : ∀ a, a < 6 → ∀ b, b < 6 → a ≠ b → (TX2 a).2.1 ≠ (TX2 b).2.1 := by decide +kernel
theorem tyX2_ok : ∀ k, k < 6 → parseFieldDescriptor (TX2 k).2.2.1 = some (tyX2 k) := by decide +kernel
abbrev cX2_init : ByteArray := prog_4_method_1_code
def yX2_init : MethodName := ⟨RX2, "<init>", "()V"⟩
abbrev cX2_isFullFor : ByteArray := prog_4_method_2_code
def yX2_isFullFor : MethodName := ⟨RX2, "isFullFor", "(I)Z"⟩
abbrev cX2_add : ByteArray := prog_4_method_3_code
def yX2_add : MethodName := ⟨RX2, "add", "(IIIII)I"⟩
abbrev cX2_tellsOf : ByteArray := prog_4_method_4_code
def yX2_tellsOf : MethodName := ⟨RX2, "tellsOf", "(II)Z"⟩
def RX3 : String := "GlenGames$Programme"
def TX3 : u_T := fun k => match k with
  | 0 => ("GlenGames$Programme", "events", "[LGlenGames$Event;", true)
  | 1 => ("GlenGames$Programme", "count", "I", false)
  | 2 => ("GlenGames$Programme", "length", "I", false)
  | 3 => ("GlenGames$Programme", "rest", "I", false)
  | 4 => ("GlenGames$Programme", "pairs", "I", false)
  | 5 => ("GlenGames$Programme", "order", "[I", true)
  | 6 => ("GlenGames$Programme", "begins", "[I", true)
  | 7 => ("GlenGames$Programme", "laid", "I", false)
  | 8 => ("GlenGames$Programme", "laidBits", "I", false)
  | 9 => ("GlenGames$Programme", "bestEnd", "I", false)
  | 10 => ("GlenGames$Programme", "calledAhead", "[I", true)
  | 11 => ("GlenGames$Programme", "triedOrder", "[I", true)
  | _ => ("GlenGames$Programme", "triedBegins", "[I", true)
def tyX3 : Nat → FieldType := fun k => match k with
  | 0 => .array (.object "GlenGames$Event")
  | 1 => .int
  | 2 => .int
  | 3 => .int
  | 4 => .int
  | 5 => .array .int
  | 6 => .array .int
  | 7 => .int
  | 8 => .int
  | 9 => .int
  | 10 => .array .int
  | 11 => .array .int
  | _ => .array .int
abbrev wsX30 : List Cond := u_ws RX3 TX3 13
theorem nmX3 : ∀ a, a < 13 → ∀ b, b < 13 → a ≠ b → (TX3 a).2.1 ≠ (TX3 b).2.1 := by decide +kernel
theorem tyX3_ok : ∀ k, k < 13 → parseFieldDescriptor (TX3 k).2.2.1 = some (tyX3 k) := by decide +kernel
abbrev cX3_init : ByteArray := prog_5_method_1_code
def yX3_init : MethodName := ⟨RX3, "<init>", "()V"⟩
abbrev cX3_has : ByteArray := prog_5_method_2_code
def yX3_has : MethodName := ⟨RX3, "has", "(I)Z"⟩
abbrev cX3_isFull : ByteArray := prog_5_method_3_code
def yX3_isFull : MethodName := ⟨RX3, "isFull", "()Z"⟩
abbrev cX3_add : ByteArray := prog_5_method_4_code
def yX3_add : MethodName := ⟨RX3, "add", "(III)I"⟩
abbrev cX3_pair : ByteArray := prog_5_method_5_code
def yX3_pair : MethodName := ⟨RX3, "pair", "(II)I"⟩
abbrev cX3_isLaid : ByteArray := prog_5_method_6_code
def yX3_isLaid : MethodName := ⟨RX3, "isLaid", "(I)Z"⟩
abbrev cX3_layBest : ByteArray := prog_5_method_7_code
def yX3_layBest : MethodName := ⟨RX3, "layBest", "(I)I"⟩
abbrev cX3_search : ByteArray := prog_5_method_8_code
def yX3_search : MethodName := ⟨RX3, "search", "(III)V"⟩
abbrev cX3_searchBehind : ByteArray := prog_5_method_9_code
def yX3_searchBehind : MethodName := ⟨RX3, "searchBehind", "(IIII)V"⟩
abbrev cX3_keep : ByteArray := prog_5_method_10_code
def yX3_keep : MethodName := ⟨RX3, "keep", "(II)V"⟩
abbrev cX3_firstFit : ByteArray := prog_5_method_11_code
def yX3_firstFit : MethodName := ⟨RX3, "firstFit", "(II)I"⟩
abbrev cX3_pushedBy : ByteArray := prog_5_method_12_code
def yX3_pushedBy : MethodName := ⟨RX3, "pushedBy", "(III)I"⟩
abbrev cX3_idleOf : ByteArray := prog_5_method_13_code
def yX3_idleOf : MethodName := ⟨RX3, "idleOf", "(I)I"⟩
def RX4 : String := "GlenGames$Shares"
def TX4 : u_T := fun k => match k with
  | 0 => ("GlenGames$Shares", "hundredths", "[I", true)
  | _ => ("GlenGames$Shares", "count", "I", false)
def tyX4 : Nat → FieldType := fun k => match k with
  | 0 => .array .int
  | _ => .int
abbrev wsX40 : List Cond := u_ws RX4 TX4 2
theorem nmX4 : ∀ a, a < 2 → ∀ b, b < 2 → a ≠ b → (TX4 a).2.1 ≠ (TX4 b).2.1 := by decide +kernel
theorem tyX4_ok : ∀ k, k < 2 → parseFieldDescriptor (TX4 k).2.2.1 = some (tyX4 k) := by decide +kernel
abbrev cX4_init : ByteArray := prog_6_method_1_code
def yX4_init : MethodName := ⟨RX4, "<init>", "()V"⟩
abbrev cX4_become : ByteArray := prog_6_method_2_code
def yX4_become : MethodName := ⟨RX4, "become", "([II)V"⟩
abbrev cX4_of : ByteArray := prog_6_method_3_code
def yX4_of : MethodName := ⟨RX4, "of", "(II)I"⟩
def RX5 : String := "GlenGames$Sheet"
def TX5 : u_T := fun k => match k with
  | 0 => ("GlenGames$Sheet", "items", "[I", true)
  | 1 => ("GlenGames$Sheet", "isHolding", "Z", false)
  | 2 => ("GlenGames$Sheet", "lane", "I", false)
  | _ => ("GlenGames$Sheet", "size", "I", false)
def tyX5 : Nat → FieldType := fun k => match k with
  | 0 => .array .int
  | 1 => .boolean
  | 2 => .int
  | _ => .int
abbrev wsX50 : List Cond := u_ws RX5 TX5 4
theorem nmX5 : ∀ a, a < 4 → ∀ b, b < 4 → a ≠ b → (TX5 a).2.1 ≠ (TX5 b).2.1 := by decide +kernel
theorem tyX5_ok : ∀ k, k < 4 → parseFieldDescriptor (TX5 k).2.2.1 = some (tyX5 k) := by decide +kernel
abbrev cX5_init : ByteArray := prog_7_method_1_code
def yX5_init : MethodName := ⟨RX5, "<init>", "()V"⟩
abbrev cX5_hold : ByteArray := prog_7_method_2_code
def yX5_hold : MethodName := ⟨RX5, "hold", "(II)I"⟩
abbrev cX5_let : ByteArray := prog_7_method_3_code
def yX5_let : MethodName := ⟨RX5, "let", "()I"⟩
abbrev cX5_foundIn : ByteArray := prog_7_method_4_code
def yX5_foundIn : MethodName := ⟨RX5, "foundIn", "(III)I"⟩
abbrev cX5_put : ByteArray := prog_7_method_5_code
def yX5_put : MethodName := ⟨RX5, "put", "(II)V"⟩
def RX6 : String := "GlenGames$Tape"
def TX6 : u_T := fun k => match k with
  | 0 => ("GlenGames$Tape", "numbers", "[I", true)
  | 1 => ("GlenGames$Tape", "length", "I", false)
  | _ => ("GlenGames$Tape", "signs", "[I", true)
def tyX6 : Nat → FieldType := fun k => match k with
  | 0 => .array .int
  | 1 => .int
  | _ => .array .int
abbrev wsX60 : List Cond := u_ws RX6 TX6 3
theorem nmX6 : ∀ a, a < 3 → ∀ b, b < 3 → a ≠ b → (TX6 a).2.1 ≠ (TX6 b).2.1 := by decide +kernel
theorem tyX6_ok : ∀ k, k < 3 → parseFieldDescriptor (TX6 k).2.2.1 = some (tyX6 k) := by decide +kernel
abbrev cX6_init : ByteArray := prog_8_method_1_code
def yX6_init : MethodName := ⟨RX6, "<init>", "()V"⟩
abbrev cX6_isTypable : ByteArray := prog_8_method_2_code
def yX6_isTypable : MethodName := ⟨RX6, "isTypable", "(JI)Z"⟩
abbrev cX6_byteOf : ByteArray := prog_8_method_3_code
def yX6_byteOf : MethodName := ⟨RX6, "byteOf", "(JI)I"⟩
abbrev cX6_isFullFor : ByteArray := prog_8_method_4_code
def yX6_isFullFor : MethodName := ⟨RX6, "isFullFor", "(I)Z"⟩
abbrev cX6_add : ByteArray := prog_8_method_5_code
def yX6_add : MethodName := ⟨RX6, "add", "(JI)I"⟩
abbrev cX6_read : ByteArray := prog_8_method_6_code
def yX6_read : MethodName := ⟨RX6, "read", "()I"⟩
abbrev cX6_behindBlanks : ByteArray := prog_8_method_7_code
def yX6_behindBlanks : MethodName := ⟨RX6, "behindBlanks", "(I)I"⟩
abbrev cX6_behindDigits : ByteArray := prog_8_method_8_code
def yX6_behindDigits : MethodName := ⟨RX6, "behindDigits", "(I)I"⟩
abbrev cX6_numberOf : ByteArray := prog_8_method_9_code
def yX6_numberOf : MethodName := ⟨RX6, "numberOf", "(II)I"⟩
def RX7 : String := "GlenGames"
def TX7 : u_T := fun k => match k with
  | 0 => ("GlenGames", "programme", "LGlenGames$Programme;", true)
  | 1 => ("GlenGames", "ledger", "LGlenGames$Ledger;", true)
  | 2 => ("GlenGames", "board", "LGlenGames$Board;", true)
  | 3 => ("GlenGames", "tape", "LGlenGames$Tape;", true)
  | 4 => ("GlenGames", "parted", "LGlenGames$Shares;", true)
  | 5 => ("GlenGames", "rows", "[LGlenGames$Sheet;", true)
  | _ => ("GlenGames", "given", "[I", true)
def tyX7 : Nat → FieldType := fun k => match k with
  | 0 => .object "GlenGames$Programme"
  | 1 => .object "GlenGames$Ledger"
  | 2 => .object "GlenGames$Board"
  | 3 => .object "GlenGames$Tape"
  | 4 => .object "GlenGames$Shares"
  | 5 => .array (.object "GlenGames$Sheet")
  | _ => .array .int
abbrev wsX70 : List Cond := u_ws RX7 TX7 7
theorem nmX7 : ∀ a, a < 7 → ∀ b, b < 7 → a ≠ b → (TX7 a).2.1 ≠ (TX7 b).2.1 := by decide +kernel
theorem tyX7_ok : ∀ k, k < 7 → parseFieldDescriptor (TX7 k).2.2.1 = some (tyX7 k) := by decide +kernel
abbrev cX7_init : ByteArray := prog_1_method_1_code
def yX7_init : MethodName := ⟨RX7, "<init>", "()V"⟩
abbrev cX7_event : ByteArray := prog_1_method_2_code
def yX7_event : MethodName := ⟨RX7, "event", "(III)I"⟩
abbrev cX7_enter : ByteArray := prog_1_method_3_code
def yX7_enter : MethodName := ⟨RX7, "enter", "(IIZ)I"⟩
abbrev cX7_day : ByteArray := prog_1_method_4_code
def yX7_day : MethodName := ⟨RX7, "day", "(II)I"⟩
abbrev cX7_call : ByteArray := prog_1_method_5_code
def yX7_call : MethodName := ⟨RX7, "call", "(II)I"⟩
abbrev cX7_lay : ByteArray := prog_1_method_6_code
def yX7_lay : MethodName := ⟨RX7, "lay", "(I)I"⟩
abbrev cX7_begins : ByteArray := prog_1_method_7_code
def yX7_begins : MethodName := ⟨RX7, "begins", "(I)I"⟩
abbrev cX7_order : ByteArray := prog_1_method_8_code
def yX7_order : MethodName := ⟨RX7, "order", "(I)I"⟩
abbrev cX7_idle : ByteArray := prog_1_method_9_code
def yX7_idle : MethodName := ⟨RX7, "idle", "(I)I"⟩
abbrev cX7_stone : ByteArray := prog_1_method_10_code
def yX7_stone : MethodName := ⟨RX7, "stone", "(III)I"⟩
abbrev cX7_way : ByteArray := prog_1_method_11_code
def yX7_way : MethodName := ⟨RX7, "way", "(II)I"⟩
abbrev cX7_yards : ByteArray := prog_1_method_12_code
def yX7_yards : MethodName := ⟨RX7, "yards", "(II)I"⟩
abbrev cX7_entry : ByteArray := prog_1_method_13_code
def yX7_entry : MethodName := ⟨RX7, "entry", "(IIII)I"⟩
abbrev cX7_entries : ByteArray := prog_1_method_14_code
def yX7_entries : MethodName := ⟨RX7, "entries", "(IIIII)I"⟩
abbrev cX7_mark : ByteArray := prog_1_method_15_code
def yX7_mark : MethodName := ⟨RX7, "mark", "(IIII)I"⟩
abbrev cX7_place : ByteArray := prog_1_method_16_code
def yX7_place : MethodName := ⟨RX7, "place", "(III)I"⟩
abbrev cX7_fail : ByteArray := prog_1_method_17_code
def yX7_fail : MethodName := ⟨RX7, "fail", "(IZ)I"⟩
abbrev cX7_paradox : ByteArray := prog_1_method_18_code
def yX7_paradox : MethodName := ⟨RX7, "paradox", "(II)I"⟩
abbrev cX7_settled : ByteArray := prog_1_method_19_code
def yX7_settled : MethodName := ⟨RX7, "settled", "(I)I"⟩
abbrev cX7_type : ByteArray := prog_1_method_20_code
def yX7_type : MethodName := ⟨RX7, "type", "(JI)I"⟩
abbrev cX7_shares : ByteArray := prog_1_method_21_code
def yX7_shares : MethodName := ⟨RX7, "shares", "()I"⟩
abbrev cX7_purse : ByteArray := prog_1_method_22_code
def yX7_purse : MethodName := ⟨RX7, "purse", "(II)I"⟩
abbrev cX7_won : ByteArray := prog_1_method_23_code
def yX7_won : MethodName := ⟨RX7, "won", "(II)I"⟩
abbrev cX7_all : ByteArray := prog_1_method_24_code
def yX7_all : MethodName := ⟨RX7, "all", "(I)I"⟩
abbrev cX7_move : ByteArray := prog_1_method_25_code
def yX7_move : MethodName := ⟨RX7, "move", "(II)I"⟩
abbrev cX7_sheet : ByteArray := prog_1_method_26_code
def yX7_sheet : MethodName := ⟨RX7, "sheet", "(III)I"⟩
abbrev cX7_drop : ByteArray := prog_1_method_27_code
def yX7_drop : MethodName := ⟨RX7, "drop", "(I)I"⟩
abbrev cX7_item : ByteArray := prog_1_method_28_code
def yX7_item : MethodName := ⟨RX7, "item", "(IIII)I"⟩
abbrev cX7_told : ByteArray := prog_1_method_29_code
def yX7_told : MethodName := ⟨RX7, "told", "(II)I"⟩
abbrev cX7_within : ByteArray := prog_1_method_30_code
def yX7_within : MethodName := ⟨RX7, "within", "(III)Z"⟩
abbrev cX7_isMan : ByteArray := prog_1_method_31_code
def yX7_isMan : MethodName := ⟨RX7, "isMan", "(I)Z"⟩
abbrev cX7_isSheet : ByteArray := prog_1_method_32_code
def yX7_isSheet : MethodName := ⟨RX7, "isSheet", "(I)Z"⟩
abbrev cX7_isLane : ByteArray := prog_1_method_33_code
def yX7_isLane : MethodName := ⟨RX7, "isLane", "(I)Z"⟩
abbrev cX7_isAsOf : ByteArray := prog_1_method_34_code
def yX7_isAsOf : MethodName := ⟨RX7, "isAsOf", "(I)Z"⟩
abbrev cX7_areTaken : ByteArray := prog_1_method_35_code
def yX7_areTaken : MethodName := ⟨RX7, "areTaken", "(LGlenGames$Event;LGlenGames$Sheet;II)Z"⟩
abbrev cX7_addAll : ByteArray := prog_1_method_36_code
def yX7_addAll : MethodName := ⟨RX7, "addAll", "(LGlenGames$Event;LGlenGames$Sheet;II)V"⟩
abbrev cX7_winnings : ByteArray := prog_1_method_37_code
def yX7_winnings : MethodName := ⟨RX7, "winnings", "(LGlenGames$Event;I)I"⟩
abbrev cX7_moveYards : ByteArray := prog_1_method_38_code
def yX7_moveYards : MethodName := ⟨RX7, "moveYards", "()I"⟩
abbrev cX7_toldOf : ByteArray := prog_1_method_39_code
def yX7_toldOf : MethodName := ⟨RX7, "toldOf", "(LGlenGames$Event;I)I"⟩
def RX8 : String := "GlenGamesModel"
def TX8 : u_T := fun k => match k with
  | 0 => ("GlenGamesModel", "events", "I", false)
  | 1 => ("GlenGamesModel", "kinds", "[I", true)
  | 2 => ("GlenGamesModel", "parts", "[I", true)
  | 3 => ("GlenGamesModel", "spells", "[I", true)
  | 4 => ("GlenGamesModel", "men", "[I", true)
  | 5 => ("GlenGamesModel", "purses", "[I", true)
  | 6 => ("GlenGamesModel", "isVoid", "[Z", true)
  | 7 => ("GlenGamesModel", "grams", "[I", true)
  | 8 => ("GlenGamesModel", "slopes", "[I", true)
  | 9 => ("GlenGamesModel", "ways", "[I", true)
  | 10 => ("GlenGamesModel", "yards", "[I", true)
  | 11 => ("GlenGamesModel", "dayLong", "I", false)
  | 12 => ("GlenGamesModel", "rest", "I", false)
  | 13 => ("GlenGamesModel", "calls", "I", false)
  | 14 => ("GlenGamesModel", "callFirst", "[I", true)
  | 15 => ("GlenGamesModel", "callOther", "[I", true)
  | 16 => ("GlenGamesModel", "row", "[I", true)
  | 17 => ("GlenGamesModel", "start", "[I", true)
  | 18 => ("GlenGamesModel", "hasDay", "Z", false)
  | 19 => ("GlenGamesModel", "dayMany", "I", false)
  | 20 => ("GlenGamesModel", "dayRow", "[I", true)
  | 21 => ("GlenGamesModel", "dayStart", "[I", true)
  | 22 => ("GlenGamesModel", "entries", "I", false)
  | 23 => ("GlenGamesModel", "entryEvent", "[I", true)
  | 24 => ("GlenGamesModel", "entryMan", "[I", true)
  | 25 => ("GlenGamesModel", "entryA", "[I", true)
  | 26 => ("GlenGamesModel", "entryB", "[I", true)
  | 27 => ("GlenGamesModel", "lanes", "[I", true)
  | 28 => ("GlenGamesModel", "sizes", "[I", true)
  | 29 => ("GlenGamesModel", "items", "[I", true)
  | 30 => ("GlenGamesModel", "marks", "[I", true)
  | 31 => ("GlenGamesModel", "hasMark", "[Z", true)
  | 32 => ("GlenGamesModel", "judged", "[I", true)
  | 33 => ("GlenGamesModel", "places", "[I", true)
  | 34 => ("GlenGamesModel", "last", "[I", true)
  | 35 => ("GlenGamesModel", "shareMany", "I", false)
  | 36 => ("GlenGamesModel", "share", "[I", true)
  | 37 => ("GlenGamesModel", "readShare", "[I", true)
  | 38 => ("GlenGamesModel", "tape", "[I", true)
  | 39 => ("GlenGamesModel", "taped", "I", false)
  | 40 => ("GlenGamesModel", "at", "I", false)
  | _ => ("GlenGamesModel", "wrong", "I", false)
def tyX8 : Nat → FieldType := fun k => match k with
  | 0 => .int
  | 1 => .array .int
  | 2 => .array .int
  | 3 => .array .int
  | 4 => .array .int
  | 5 => .array .int
  | 6 => .array .boolean
  | 7 => .array .int
  | 8 => .array .int
  | 9 => .array .int
  | 10 => .array .int
  | 11 => .int
  | 12 => .int
  | 13 => .int
  | 14 => .array .int
  | 15 => .array .int
  | 16 => .array .int
  | 17 => .array .int
  | 18 => .boolean
  | 19 => .int
  | 20 => .array .int
  | 21 => .array .int
  | 22 => .int
  | 23 => .array .int
  | 24 => .array .int
  | 25 => .array .int
  | 26 => .array .int
  | 27 => .array .int
  | 28 => .array .int
  | 29 => .array .int
  | 30 => .array .int
  | 31 => .array .boolean
  | 32 => .array .int
  | 33 => .array .int
  | 34 => .array .int
  | 35 => .int
  | 36 => .array .int
  | 37 => .array .int
  | 38 => .array .int
  | 39 => .int
  | 40 => .int
  | _ => .int
abbrev wsX80 : List Cond := u_ws RX8 TX8 42
theorem nmX8 : ∀ a, a < 42 → ∀ b, b < 42 → a ≠ b → (TX8 a).2.1 ≠ (TX8 b).2.1 := by decide +kernel
theorem tyX8_ok : ∀ k, k < 42 → parseFieldDescriptor (TX8 k).2.2.1 = some (tyX8 k) := by decide +kernel
abbrev cX8_in : ByteArray := prog_10_method_2_code
def yX8_in : MethodName := ⟨RX8, "in", "(III)Z"⟩
abbrev cX8_isMan : ByteArray := prog_10_method_3_code
def yX8_isMan : MethodName := ⟨RX8, "isMan", "(I)Z"⟩
abbrev cX8_init : ByteArray := prog_10_method_4_code
def yX8_init : MethodName := ⟨RX8, "<init>", "()V"⟩
abbrev cX8_isEvent : ByteArray := prog_10_method_5_code
def yX8_isEvent : MethodName := ⟨RX8, "isEvent", "(I)Z"⟩
abbrev cX8_event : ByteArray := prog_10_method_6_code
def yX8_event : MethodName := ⟨RX8, "event", "(III)I"⟩
abbrev cX8_bits : ByteArray := prog_10_method_7_code
def yX8_bits : MethodName := ⟨RX8, "bits", "(I)I"⟩
abbrev cX8_enter : ByteArray := prog_10_method_8_code
def yX8_enter : MethodName := ⟨RX8, "enter", "(IIZ)I"⟩
abbrev cX8_day : ByteArray := prog_10_method_9_code
def yX8_day : MethodName := ⟨RX8, "day", "(II)I"⟩
abbrev cX8_call : ByteArray := prog_10_method_10_code
def yX8_call : MethodName := ⟨RX8, "call", "(II)I"⟩
abbrev cX8_isCalled : ByteArray := prog_10_method_11_code
def yX8_isCalled : MethodName := ⟨RX8, "isCalled", "(II)Z"⟩
abbrev cX8_goes : ByteArray := prog_10_method_12_code
def yX8_goes : MethodName := ⟨RX8, "goes", "(III)Z"⟩
abbrev cX8_layRow : ByteArray := prog_10_method_13_code
def yX8_layRow : MethodName := ⟨RX8, "layRow", "(I)I"⟩
abbrev cX8_countsUp : ByteArray := prog_10_method_14_code
def yX8_countsUp : MethodName := ⟨RX8, "countsUp", "(I)Z"⟩
abbrev cX8_lay : ByteArray := prog_10_method_15_code
def yX8_lay : MethodName := ⟨RX8, "lay", "(I)I"⟩
abbrev cX8_keep : ByteArray := prog_10_method_16_code
def yX8_keep : MethodName := ⟨RX8, "keep", "(I)V"⟩
abbrev cX8_begins : ByteArray := prog_10_method_17_code
def yX8_begins : MethodName := ⟨RX8, "begins", "(I)I"⟩
abbrev cX8_order : ByteArray := prog_10_method_18_code
def yX8_order : MethodName := ⟨RX8, "order", "(I)I"⟩
abbrev cX8_idle : ByteArray := prog_10_method_19_code
def yX8_idle : MethodName := ⟨RX8, "idle", "(I)I"⟩
abbrev cX8_stone : ByteArray := prog_10_method_20_code
def yX8_stone : MethodName := ⟨RX8, "stone", "(III)I"⟩
abbrev cX8_way : ByteArray := prog_10_method_21_code
def yX8_way : MethodName := ⟨RX8, "way", "(II)I"⟩
abbrev cX8_yards : ByteArray := prog_10_method_22_code
def yX8_yards : MethodName := ⟨RX8, "yards", "(II)I"⟩
abbrev cX8_isGood : ByteArray := prog_10_method_23_code
def yX8_isGood : MethodName := ⟨RX8, "isGood", "(IIII)Z"⟩
abbrev cX8_put : ByteArray := prog_10_method_24_code
def yX8_put : MethodName := ⟨RX8, "put", "(IIII)V"⟩
abbrev cX8_entry : ByteArray := prog_10_method_25_code
def yX8_entry : MethodName := ⟨RX8, "entry", "(IIII)I"⟩
abbrev cX8_isSheet : ByteArray := prog_10_method_26_code
def yX8_isSheet : MethodName := ⟨RX8, "isSheet", "(I)Z"⟩
abbrev cX8_sheet : ByteArray := prog_10_method_27_code
def yX8_sheet : MethodName := ⟨RX8, "sheet", "(III)I"⟩
abbrev cX8_drop : ByteArray := prog_10_method_28_code
def yX8_drop : MethodName := ⟨RX8, "drop", "(I)I"⟩
abbrev cX8_item : ByteArray := prog_10_method_29_code
def yX8_item : MethodName := ⟨RX8, "item", "(IIII)I"⟩
abbrev cX8_entries : ByteArray := prog_10_method_30_code
def yX8_entries : MethodName := ⟨RX8, "entries", "(IIIII)I"⟩
abbrev cX8_fairMark : ByteArray := prog_10_method_31_code
def yX8_fairMark : MethodName := ⟨RX8, "fairMark", "(II)I"⟩
abbrev cX8_markThrow : ByteArray := prog_10_method_32_code
def yX8_markThrow : MethodName := ⟨RX8, "markThrow", "(III)V"⟩
abbrev cX8_markRace : ByteArray := prog_10_method_33_code
def yX8_markRace : MethodName := ⟨RX8, "markRace", "(III)V"⟩
abbrev cX8_markDance : ByteArray := prog_10_method_34_code
def yX8_markDance : MethodName := ⟨RX8, "markDance", "(III)V"⟩
abbrev cX8_markAll : ByteArray := prog_10_method_35_code
def yX8_markAll : MethodName := ⟨RX8, "markAll", "(II)V"⟩
abbrev cX8_mark : ByteArray := prog_10_method_36_code
def yX8_mark : MethodName := ⟨RX8, "mark", "(IIII)I"⟩
abbrev cX8_isAhead : ByteArray := prog_10_method_37_code
def yX8_isAhead : MethodName := ⟨RX8, "isAhead", "(III)Z"⟩
abbrev cX8_placeAll : ByteArray := prog_10_method_38_code
def yX8_placeAll : MethodName := ⟨RX8, "placeAll", "(II)I"⟩
abbrev cX8_place : ByteArray := prog_10_method_39_code
def yX8_place : MethodName := ⟨RX8, "place", "(III)I"⟩
abbrev cX8_fail : ByteArray := prog_10_method_40_code
def yX8_fail : MethodName := ⟨RX8, "fail", "(IZ)I"⟩
abbrev cX8_beats : ByteArray := prog_10_method_41_code
def yX8_beats : MethodName := ⟨RX8, "beats", "(II)Z"⟩
abbrev cX8_paradox : ByteArray := prog_10_method_42_code
def yX8_paradox : MethodName := ⟨RX8, "paradox", "(II)I"⟩
abbrev cX8_settled : ByteArray := prog_10_method_43_code
def yX8_settled : MethodName := ⟨RX8, "settled", "(I)I"⟩
abbrev cX8_type : ByteArray := prog_10_method_44_code
def yX8_type : MethodName := ⟨RX8, "type", "(JI)I"⟩
abbrev cX8_next : ByteArray := prog_10_method_45_code
def yX8_next : MethodName := ⟨RX8, "next", "()I"⟩
abbrev cX8_number : ByteArray := prog_10_method_46_code
def yX8_number : MethodName := ⟨RX8, "number", "(I)I"⟩
abbrev cX8_reads : ByteArray := prog_10_method_47_code
def yX8_reads : MethodName := ⟨RX8, "reads", "()I"⟩
abbrev cX8_shares : ByteArray := prog_10_method_48_code
def yX8_shares : MethodName := ⟨RX8, "shares", "()I"⟩
abbrev cX8_purse : ByteArray := prog_10_method_49_code
def yX8_purse : MethodName := ⟨RX8, "purse", "(II)I"⟩
abbrev cX8_first : ByteArray := prog_10_method_50_code
def yX8_first : MethodName := ⟨RX8, "first", "(II)I"⟩
abbrev cX8_wonOf : ByteArray := prog_10_method_51_code
def yX8_wonOf : MethodName := ⟨RX8, "wonOf", "(II)I"⟩
abbrev cX8_won : ByteArray := prog_10_method_52_code
def yX8_won : MethodName := ⟨RX8, "won", "(II)I"⟩
abbrev cX8_all : ByteArray := prog_10_method_53_code
def yX8_all : MethodName := ⟨RX8, "all", "(I)I"⟩
abbrev cX8_move : ByteArray := prog_10_method_54_code
def yX8_move : MethodName := ⟨RX8, "move", "(II)I"⟩
abbrev cX8_told : ByteArray := prog_10_method_55_code
def yX8_told : MethodName := ⟨RX8, "told", "(II)I"⟩
def RJ6 : String := "java/lang/Integer"
def TJ6 : u_T := fun k => match k with
  | _ => ("", "", "", false)
def tyJ6 : Nat → FieldType := fun k => match k with
  | _ => .int
abbrev wsJ60 : List Cond := u_ws RJ6 TJ6 0
theorem nmJ6 : ∀ a, a < 0 → ∀ b, b < 0 → a ≠ b → (TJ6 a).2.1 ≠ (TJ6 b).2.1 := by decide +kernel
theorem tyJ6_ok : ∀ k, k < 0 → parseFieldDescriptor (TJ6 k).2.2.1 = some (tyJ6 k) := by decide +kernel
abbrev cJ6_bitCount_0f7a4 : ByteArray := prog_11_method_49_code
def yJ6_bitCount_0f7a4 : MethodName := ⟨RJ6, "bitCount", "(I)I"⟩
def RJ13 : String := "java/lang/Long"
def TJ13 : u_T := fun k => match k with
  | _ => ("", "", "", false)
def tyJ13 : Nat → FieldType := fun k => match k with
  | _ => .int
abbrev wsJ130 : List Cond := u_ws RJ13 TJ13 0
theorem nmJ13 : ∀ a, a < 0 → ∀ b, b < 0 → a ≠ b → (TJ13 a).2.1 ≠ (TJ13 b).2.1 := by decide +kernel
theorem tyJ13_ok : ∀ k, k < 0 → parseFieldDescriptor (TJ13 k).2.2.1 = some (tyJ13 k) := by decide +kernel
abbrev cJ13_bitCount_95d88 : ByteArray := prog_12_method_50_code
def yJ13_bitCount_95d88 : MethodName := ⟨RJ13, "bitCount", "(J)I"⟩
def RJ9 : String := "java/lang/Math"
def TJ9 : u_T := fun k => match k with
  | _ => ("", "", "", false)
def tyJ9 : Nat → FieldType := fun k => match k with
  | _ => .int
abbrev wsJ90 : List Cond := u_ws RJ9 TJ9 0
theorem nmJ9 : ∀ a, a < 0 → ∀ b, b < 0 → a ≠ b → (TJ9 a).2.1 ≠ (TJ9 b).2.1 := by decide +kernel
theorem tyJ9_ok : ∀ k, k < 0 → parseFieldDescriptor (TJ9 k).2.2.1 = some (tyJ9 k) := by decide +kernel
abbrev cJ9_max_7cf53 : ByteArray := prog_13_method_65_code
def yJ9_max_7cf53 : MethodName := ⟨RJ9, "max", "(II)I"⟩
abbrev cJ9_min_7cf53 : ByteArray := prog_13_method_69_code
def yJ9_min_7cf53 : MethodName := ⟨RJ9, "min", "(II)I"⟩
def RJ10 : String := "java/lang/System"
def TJ10 : u_T := fun k => match k with
  | _ => ("", "", "", false)
def tyJ10 : Nat → FieldType := fun k => match k with
  | _ => .int
abbrev wsJ100 : List Cond := u_ws RJ10 TJ10 0
theorem nmJ10 : ∀ a, a < 0 → ∀ b, b < 0 → a ≠ b → (TJ10 a).2.1 ≠ (TJ10 b).2.1 := by decide +kernel
theorem tyJ10_ok : ∀ k, k < 0 → parseFieldDescriptor (TJ10 k).2.2.1 = some (tyJ10 k) := by decide +kernel
def RJ7 : String := "java/util/Arrays"
def TJ7 : u_T := fun k => match k with
  | _ => ("", "", "", false)
def tyJ7 : Nat → FieldType := fun k => match k with
  | _ => .int
abbrev wsJ70 : List Cond := u_ws RJ7 TJ7 0
theorem nmJ7 : ∀ a, a < 0 → ∀ b, b < 0 → a ≠ b → (TJ7 a).2.1 ≠ (TJ7 b).2.1 := by decide +kernel
theorem tyJ7_ok : ∀ k, k < 0 → parseFieldDescriptor (TJ7 k).2.2.1 = some (tyJ7 k) := by decide +kernel
abbrev cJ7_fill_53178 : ByteArray := prog_15_method_103_code
def yJ7_fill_53178 : MethodName := ⟨RJ7, "fill", "([II)V"⟩
def RL : String := "GlenGamesLaw"
abbrev cL_law : ByteArray := code
def yL_law : MethodName := ⟨RL, "law", "([I)Z"⟩
abbrev vwCl : List vw_C := [(RX0, TX0, 5), (RX1, TX1, 10), (RX2, TX2, 6), (RX3, TX3, 13), (RX4, TX4, 2), (RX5, TX5, 4), (RX6, TX6, 3), (RX7, TX7, 7), (RX8, TX8, 42)]
end
section
def w_C : Nat → String := fun k => match k with
  | 0 => RX0
  | 1 => RX1
  | 2 => RX2
  | 3 => RX3
  | 4 => RX4
  | 5 => RX5
  | 6 => RX6
  | 7 => RX7
  | 8 => RX8
  | 9 => RJ6
  | 10 => RJ13
  | 11 => RJ9
  | 12 => RJ7
  | _ => ""
def w_T : Nat → u_T := fun k => match k with
  | 0 => TX0
  | 1 => TX1
  | 2 => TX2
  | 3 => TX3
  | 4 => TX4
  | 5 => TX5
  | 6 => TX6
  | 7 => TX7
  | _ => TX8
def w_ty : Nat → Nat → FieldType := fun k => match k with
  | 0 => tyX0
  | 1 => tyX1
  | 2 => tyX2
  | 3 => tyX3
  | 4 => tyX4
  | 5 => tyX5
  | 6 => tyX6
  | 7 => tyX7
  | _ => tyX8
def w_nf : Nat → Nat := fun k => match k with
  | 0 => 5
  | 1 => 10
  | 2 => 6
  | 3 => 13
  | 4 => 2
  | 5 => 4
  | 6 => 3
  | 7 => 7
  | 8 => 42
  | _ => 0
def w_fk0 : Nat → Bool := fun _ => true
def w_fk1 : Nat → Bool := fun _ => false
def w_fk2 : Nat → Bool := fun k => match k with
  | 5 => false
  | _ => true
def w_fk3 : Nat → Bool := fun k => match k with
  | 0 => true
  | 5 => true
  | 6 => true
  | 10 => true
  | 11 => true
  | 12 => true
  | _ => false
def w_fk4 : Nat → Bool := fun k => match k with
  | 0 => true
  | _ => false
def w_fk5 : Nat → Bool := fun k => match k with
  | 0 => true
  | _ => false
def w_fk6 : Nat → Bool := fun k => match k with
  | 1 => false
  | _ => true
def w_fk7 : Nat → Bool := fun _ => true
def w_fk8 : Nat → Bool := fun k => match k with
  | 0 => false
  | 11 => false
  | 12 => false
  | 13 => false
  | 18 => false
  | 19 => false
  | 22 => false
  | 35 => false
  | 39 => false
  | 40 => false
  | 41 => false
  | _ => true
def w_fk : Nat → Nat → Bool := fun k => match k with
  | 0 => w_fk0
  | 1 => w_fk1
  | 2 => w_fk2
  | 3 => w_fk3
  | 4 => w_fk4
  | 5 => w_fk5
  | 6 => w_fk6
  | 7 => w_fk7
  | _ => w_fk8
def w_fl0 : List (Nat × Nat × Nat) := [(9, 0, 0), (15, 0, 1), (18, 0, 2), (21, 0, 3), (24, 0, 4), (33, 2, 5), (45, 2, 0), (48, 1, 0), (57, 1, 1), (67, 2, 1), (70, 2, 2), (73, 2, 3), (83, 2, 4), (92, 1, 6)]
def w_fl1 : List (Nat × Nat × Nat) := [(9, 1, 7), (15, 1, 9), (18, 1, 0), (21, 1, 4), (38, 1, 1), (41, 5, 0), (47, 1, 8)]
def w_fl2 : List (Nat × Nat × Nat) := [(9, 2, 0), (15, 2, 1), (18, 2, 2), (21, 2, 3), (24, 2, 4), (27, 2, 5)]
def w_fl3 : List (Nat × Nat × Nat) := [(11, 3, 0), (17, 3, 2), (21, 3, 3), (24, 3, 5), (28, 3, 6), (31, 3, 10), (34, 3, 11), (37, 3, 12), (43, 3, 1), (46, 1, 1), (49, 1, 2), (52, 1, 3), (55, 1, 0), (58, 3, 4), (61, 3, 8), (64, 3, 9), (88, 3, 7), (101, 1, 4)]
def w_fl4 : List (Nat × Nat × Nat) := [(9, 4, 0), (15, 4, 1)]
def w_fl5 : List (Nat × Nat × Nat) := [(9, 5, 0), (15, 5, 1), (19, 5, 2), (23, 5, 3)]
def w_fl6 : List (Nat × Nat × Nat) := [(9, 6, 0), (15, 6, 2), (28, 6, 1)]
def w_fl7 : List (Nat × Nat × Nat) := [(10, 7, 0), (19, 7, 1), (26, 7, 2), (33, 7, 3), (40, 7, 4), (46, 7, 5), (50, 7, 6), (78, 3, 0), (88, 3, 2), (92, 3, 3), (95, 3, 4), (102, 3, 1), (114, 3, 7), (120, 3, 6), (123, 3, 5), (129, 1, 1), (132, 1, 7), (135, 1, 8), (138, 1, 9), (171, 2, 5), (188, 0, 0), (191, 1, 6), (212, 6, 0), (219, 6, 1), (221, 1, 5), (234, 5, 1), (246, 5, 0), (253, 1, 0), (273, 1, 2), (276, 1, 3), (279, 1, 4)]
def w_fl8 : List (Nat × Nat × Nat) := [(13, 8, 1), (17, 8, 2), (20, 8, 3), (23, 8, 4), (26, 8, 5), (29, 8, 6), (33, 8, 7), (36, 8, 8), (39, 8, 9), (42, 8, 10), (45, 8, 11), (49, 8, 12), (52, 8, 14), (55, 8, 15), (58, 8, 16), (61, 8, 17), (64, 8, 20), (67, 8, 21), (70, 8, 23), (73, 8, 24), (76, 8, 25), (79, 8, 26), (82, 8, 27), (85, 8, 28), (88, 8, 29), (91, 8, 30), (94, 8, 31), (97, 8, 32), (100, 8, 33), (103, 8, 34), (106, 8, 35), (109, 8, 36), (112, 8, 37), (115, 8, 38), (118, 8, 0), (128, 8, 22), (135, 8, 13), (155, 8, 18), (159, 8, 19), (204, 8, 39), (207, 8, 40), (214, 8, 41)]
def w_fl : Nat → List (Nat × Nat × Nat) := fun k => match k with
  | 0 => w_fl0
  | 1 => w_fl1
  | 2 => w_fl2
  | 3 => w_fl3
  | 4 => w_fl4
  | 5 => w_fl5
  | 6 => w_fl6
  | 7 => w_fl7
  | 8 => w_fl8
  | _ => []
def w_k32 : Nat → List (Nat × Int32) := fun k => match k with
  | 7 => [(220, 100000)]
  | 8 => [(223, 100000)]
  | 9 => [(265, 1431655765), (266, 858993459), (267, 252645135)]
  | _ => []
def w_k64 : Nat → List (Nat × Int64) := fun k => match k with
  | 1 => [(50, 10000000)]
  | 6 => [(26, 255)]
  | 8 => [(173, 10000000), (202, 255)]
  | 10 => [(314, 6148914691236517205), (316, 3689348814741910323), (318, 1085102592571150095)]
  | _ => []
noncomputable def w_lk {α : Type} (l : List (Nat × α)) (k : Nat) : Option α := List.rec none (fun a _ ih => match Nat.beq a.1 k with
  | true => some a.2
  | false => ih) l
theorem w_lk_mem {α : Type} {l : List (Nat × α)} {k : Nat} {v : α} (h : w_lk l k = some v) : (k, v) ∈ l := by
  induction l with
  | nil => cases h
  | cons a l ih =>
    have h' : (match Nat.beq a.1 k with
      | true => some a.2
      | false => w_lk l k) = some v := h
    cases hb : Nat.beq a.1 k with
    | true =>
      rw [hb] at h'
      have e := Nat.eq_of_beq_eq_true hb
      have e2 := Option.some.inj h'
      rw [← e, ← e2]
      exact List.mem_cons_self
    | false =>
      rw [hb] at h'
      exact List.mem_cons_of_mem _ (ih h')
def w_tbl : List Cond := lw_tbl.filter goodWord
set_option maxRecDepth 100000 in
theorem w_us0 : ∀ w ∈ u_ws RX0 TX0 5, w ∈ w_tbl := by decide +kernel
set_option maxRecDepth 100000 in
theorem w_us1 : ∀ w ∈ u_ws RX1 TX1 10, w ∈ w_tbl := by decide +kernel
set_option maxRecDepth 100000 in
theorem w_us2 : ∀ w ∈ u_ws RX2 TX2 6, w ∈ w_tbl := by decide +kernel
set_option maxRecDepth 100000 in
theorem w_us3 : ∀ w ∈ u_ws RX3 TX3 13, w ∈ w_tbl := by decide +kernel
set_option maxRecDepth 100000 in
theorem w_us4 : ∀ w ∈ u_ws RX4 TX4 2, w ∈ w_tbl := by decide +kernel
set_option maxRecDepth 100000 in
theorem w_us5 : ∀ w ∈ u_ws RX5 TX5 4, w ∈ w_tbl := by decide +kernel
set_option maxRecDepth 100000 in
theorem w_us6 : ∀ w ∈ u_ws RX6 TX6 3, w ∈ w_tbl := by decide +kernel
set_option maxRecDepth 100000 in
theorem w_us7 : ∀ w ∈ u_ws RX7 TX7 7, w ∈ w_tbl := by decide +kernel
set_option maxRecDepth 100000 in
theorem w_us8 : ∀ w ∈ u_ws RX8 TX8 42, w ∈ w_tbl := by decide +kernel
set_option maxRecDepth 100000 in
theorem w_flok0 : ∀ e ∈ w_fl0, e.2.1 < 9 ∧ e.2.2 < w_nf e.2.1 ∧ Cond.fieldLink RX0 e.1 (w_C e.2.1) (w_T e.2.1 e.2.2).2.1 (w_T e.2.1 e.2.2).2.2.1 ∈ w_tbl := by decide +kernel
set_option maxRecDepth 100000 in
theorem w_flok1 : ∀ e ∈ w_fl1, e.2.1 < 9 ∧ e.2.2 < w_nf e.2.1 ∧ Cond.fieldLink RX1 e.1 (w_C e.2.1) (w_T e.2.1 e.2.2).2.1 (w_T e.2.1 e.2.2).2.2.1 ∈ w_tbl := by decide +kernel
set_option maxRecDepth 100000 in
theorem w_flok2 : ∀ e ∈ w_fl2, e.2.1 < 9 ∧ e.2.2 < w_nf e.2.1 ∧ Cond.fieldLink RX2 e.1 (w_C e.2.1) (w_T e.2.1 e.2.2).2.1 (w_T e.2.1 e.2.2).2.2.1 ∈ w_tbl := by decide +kernel
set_option maxRecDepth 100000 in
theorem w_flok3 : ∀ e ∈ w_fl3, e.2.1 < 9 ∧ e.2.2 < w_nf e.2.1 ∧ Cond.fieldLink RX3 e.1 (w_C e.2.1) (w_T e.2.1 e.2.2).2.1 (w_T e.2.1 e.2.2).2.2.1 ∈ w_tbl := by decide +kernel
set_option maxRecDepth 100000 in
theorem w_flok4 : ∀ e ∈ w_fl4, e.2.1 < 9 ∧ e.2.2 < w_nf e.2.1 ∧ Cond.fieldLink RX4 e.1 (w_C e.2.1) (w_T e.2.1 e.2.2).2.1 (w_T e.2.1 e.2.2).2.2.1 ∈ w_tbl := by decide +kernel
set_option maxRecDepth 100000 in
theorem w_flok5 : ∀ e ∈ w_fl5, e.2.1 < 9 ∧ e.2.2 < w_nf e.2.1 ∧ Cond.fieldLink RX5 e.1 (w_C e.2.1) (w_T e.2.1 e.2.2).2.1 (w_T e.2.1 e.2.2).2.2.1 ∈ w_tbl := by decide +kernel
set_option maxRecDepth 100000 in
theorem w_flok6 : ∀ e ∈ w_fl6, e.2.1 < 9 ∧ e.2.2 < w_nf e.2.1 ∧ Cond.fieldLink RX6 e.1 (w_C e.2.1) (w_T e.2.1 e.2.2).2.1 (w_T e.2.1 e.2.2).2.2.1 ∈ w_tbl := by decide +kernel
set_option maxRecDepth 100000 in
theorem w_flok7 : ∀ e ∈ w_fl7, e.2.1 < 9 ∧ e.2.2 < w_nf e.2.1 ∧ Cond.fieldLink RX7 e.1 (w_C e.2.1) (w_T e.2.1 e.2.2).2.1 (w_T e.2.1 e.2.2).2.2.1 ∈ w_tbl := by decide +kernel
set_option maxRecDepth 100000 in
theorem w_flok8 : ∀ e ∈ w_fl8, e.2.1 < 9 ∧ e.2.2 < w_nf e.2.1 ∧ Cond.fieldLink RX8 e.1 (w_C e.2.1) (w_T e.2.1 e.2.2).2.1 (w_T e.2.1 e.2.2).2.2.1 ∈ w_tbl := by decide +kernel
set_option maxRecDepth 100000 in
theorem w_k32ok7 : ∀ e ∈ w_k32 7, Cond.constant (w_C 7) e.1 e.2 ∈ w_tbl := by decide +kernel
set_option maxRecDepth 100000 in
theorem w_k32ok8 : ∀ e ∈ w_k32 8, Cond.constant (w_C 8) e.1 e.2 ∈ w_tbl := by decide +kernel
set_option maxRecDepth 100000 in
theorem w_k32ok9 : ∀ e ∈ w_k32 9, Cond.constant (w_C 9) e.1 e.2 ∈ w_tbl := by decide +kernel
set_option maxRecDepth 100000 in
theorem w_k64ok1 : ∀ e ∈ w_k64 1, Cond.constantLong (w_C 1) e.1 e.2 ∈ w_tbl := by decide +kernel
set_option maxRecDepth 100000 in
theorem w_k64ok6 : ∀ e ∈ w_k64 6, Cond.constantLong (w_C 6) e.1 e.2 ∈ w_tbl := by decide +kernel
set_option maxRecDepth 100000 in
theorem w_k64ok8 : ∀ e ∈ w_k64 8, Cond.constantLong (w_C 8) e.1 e.2 ∈ w_tbl := by decide +kernel
set_option maxRecDepth 100000 in
theorem w_k64ok10 : ∀ e ∈ w_k64 10, Cond.constantLong (w_C 10) e.1 e.2 ∈ w_tbl := by decide +kernel
end
section
/-! pure states: a reference is a place of the world; the memory is place → slot → int; references among places don't change -/
abbrev wL : Type := List (Option Value)
abbrev wM : Type := Nat → Nat → Int32
abbrev wSh : Type := Nat → Nat ⊕ (Nat × Nat)
abbrev wK : Type := Nat → wL → List Value → wM → Prop
/-- a call's words: static?, void?, how many values, what must hold ahead, what holds behind (a void method's answer is 0) -/
abbrev wS : Type := Bool × Bool × Nat × (List Value → wM → Prop) × (List Value → wM → Int32 → wM → Prop)
abbrev wT : Type := List (Instr × Nat × List Nat)
def w_tr (ad : Nat → Nat) : Value → Value
  | .ref q => .ref (ad q)
  | v => v
def w_up (μ : wM) (q j : Nat) (x : Int32) : wM := fun a b => if a = q ∧ b = j then x else μ a b
theorem w_up_o {μ : wM} {q j : Nat} {x : Int32} {a : Nat} (h : a ≠ q) : w_up μ q j x a = μ a := by
  funext b
  simp [w_up, h]
theorem w_up_s {μ : wM} {q j : Nat} {x : Int32} : w_up μ q j x q = upd (μ q) j x := by
  funext b
  simp [w_up, upd]
def w_fv (rf : Nat → Nat → Nat) (ad : Nat → Nat) (μ : wM) (ci q j : Nat) : Value := match w_fk ci j with
  | true => .ref (ad (rf q j))
  | false => .int (μ q j)
def w_e (kc : Nat → ClassId) (sh : wSh) (rf : Nat → Nat → Nat) (ad : Nat → Nat) (μ : wM) (q : Nat) : va_E := match sh q with
  | .inl ci => .inr (ci, (List.range (w_nf ci)).map (w_fv rf ad μ ci q))
  | .inr (0, len) => .inl (kc 0, len, .inl (μ q))
  | .inr (1, len) => .inl (kc 1, len, .inl (μ q))
  | .inr (k + 2, len) => .inl (kc (k + 2), len, .inr (.inr (.inr (.inr (fun j => some (ad (rf q j)))))))
def w_w (kc : Nat → ClassId) (sh : wSh) (rf : Nat → Nat → Nat) (n : Nat) (ad : Nat → Nat) (μ : wM) : va_W := (List.range n).map (fun q => (ad q, w_e kc sh rf ad μ q))
theorem w_get {α : Type} {n : Nat} {f : Nat → α} {q : Nat} (h : q < n) : ((List.range n).map f)[q]? = some (f q) := by simp [h]
theorem w_set {α : Type} {n : Nat} {f g : Nat → α} {q : Nat} {v : α} (hq : q < n) (h1 : g q = v) (h2 : ∀ i, i ≠ q → g i = f i) : ((List.range n).map f).set q v = (List.range n).map g := by
  apply List.ext_getElem?
  intro i
  rw [List.getElem?_set]
  by_cases h : q = i
  · subst h
    simp [hq, h1]
  · rw [if_neg h]
    by_cases hi : i < n
    · rw [w_get hi, w_get hi, h2 i (fun e => h e.symm)]
    · simp [hi]
theorem w_e_o {kc : Nat → ClassId} {sh : wSh} {rf : Nat → Nat → Nat} {ad : Nat → Nat} {μ μ' : wM} {q : Nat} (h : μ' q = μ q) : w_e kc sh rf ad μ' q = w_e kc sh rf ad μ q := by
  unfold w_e w_fv
  rw [h]
def w_A (n : Nat) (ad : Nat → Nat) (sz : Nat) : Nat → Prop := fun q => (∃ k, k < n ∧ ad k = q) ∨ sz ≤ q
theorem w_A_eq {kc : Nat → ClassId} {sh : wSh} {rf : Nat → Nat → Nat} {n : Nat} {ad : Nat → Nat} {μ : wM} {sz : Nat} : va_A (w_w kc sh rf n ad μ) sz = w_A n ad sz := by
  funext q
  apply propext
  constructor
  · rintro (⟨k, e, h⟩ | h)
    · refine Or.inl ⟨k, ?_⟩
      unfold w_w at h
      by_cases hk : k < n
      · rw [w_get hk] at h
        exact ⟨hk, congrArg Prod.fst (Option.some.inj h)⟩
      · simp [hk] at h
    · exact Or.inr h
  · rintro (⟨k, hk, h⟩ | h)
    · exact Or.inl ⟨k, w_e kc sh rf ad μ k, by unfold w_w; rw [w_get hk, h]⟩
    · exact Or.inr h
/-- the places' addresses are apart, and of a kind -/
def w_ap (n : Nat) (ad : Nat → Nat) (A : Nat → Prop) : Prop := (∀ i j, i < n → j < n → ad i = ad j → i = j) ∧ ∀ i, i < n → A (ad i)
theorem w_D {kc : Nat → ClassId} {sh : wSh} {rf : Nat → Nat → Nat} {n : Nat} {ad : Nat → Nat} {A : Nat → Prop} (h : w_ap n ad A) (μ : wM) : va_D A (w_w kc sh rf n ad μ) := by
  have key : ∀ (k : Nat) (q : Nat × va_E), (w_w kc sh rf n ad μ)[k]? = some q → k < n ∧ q.1 = ad k := by
    intro k q hq
    unfold w_w at hq
    by_cases hk : k < n
    · rw [w_get hk] at hq
      exact ⟨hk, (congrArg Prod.fst (Option.some.inj hq)).symm⟩
    · simp [hk] at hq
  refine ⟨fun i j p q h1 h2 e => ?_, fun k q h1 => ?_⟩
  · obtain ⟨a1, a2⟩ := key i p h1
    obtain ⟨b1, b2⟩ := key j q h2
    exact h.1 i j a1 b1 (by rw [← a2, ← b2]; exact e)
  · obtain ⟨a1, a2⟩ := key k q h1
    rw [a2]
    exact h.2 k a1
theorem w_D' {kc : Nat → ClassId} {sh : wSh} {rf : Nat → Nat → Nat} {n : Nat} {ad : Nat → Nat} {A : Nat → Prop} {μ : wM} (h : va_D A (w_w kc sh rf n ad μ)) : w_ap n ad A := by
  refine ⟨fun i j hi hj e => ?_, fun i hi => ?_⟩
  · exact h.1 i j (ad i, w_e kc sh rf ad μ i) (ad j, w_e kc sh rf ad μ j) (by unfold w_w; rw [w_get hi]) (by unfold w_w; rw [w_get hj]) e
  · exact h.2 i (ad i, w_e kc sh rf ad μ i) (by unfold w_w; rw [w_get hi])
/-! locals -/
def w_pics (ad : Nat → Nat) (ls : wL) : List (Nat × Value) := (List.range ls.length).filterMap (fun i => match ls[i]? with
  | some (some v) => some (i, w_tr ad v)
  | _ => none)
theorem w_pics_mem {ad : Nat → Nat} {ls : wL} {i : Nat} {w : Value} : (i, w) ∈ w_pics ad ls ↔ ∃ v, ls[i]? = some (some v) ∧ w = w_tr ad v := by
  unfold w_pics
  rw [List.mem_filterMap]
  constructor
  · rintro ⟨j, hj, h⟩
    split at h
    · next v hv =>
      cases h
      exact ⟨v, hv, rfl⟩
    · cases h
  · rintro ⟨v, hv, rfl⟩
    refine ⟨i, List.mem_range.mpr (List.getElem?_eq_some_iff.mp hv).1, ?_⟩
    rw [hv]
def w_lok (ad : Nat → Nat) (nL : Nat) (ls : wL) (la : Array Slot) : Prop := ls.length = nL ∧ lv_has la nL (w_pics ad ls)
theorem w_lok.at {ad : Nat → Nat} {nL : Nat} {ls : wL} {la : Array Slot} (h : w_lok ad nL ls la) {i : Nat} {v : Value} (hv : ls[i]? = some (some v)) : la[i]? = some (.val (w_tr ad v)) := h.2.2.2 _ (w_pics_mem.mpr ⟨v, hv, rfl⟩)
/-- the local ahead of k is no long -/
def w_nl (ls : wL) (k : Nat) : Bool := match k with
  | 0 => true
  | j + 1 => match ls[j]? with
    | some (some (.long _)) => false
    | some (some (.double _)) => false
    | _ => true
theorem w_tr_cat (ad : Nat → Nat) (v : Value) : (w_tr ad v).category = v.category := by cases v <;> rfl
theorem w_nl_e {ls : wL} {i : Nat} (h : w_nl ls (i + 1) = true) {v : Value} (hv : ls[i]? = some (some v)) : ¬ v.category = 2 := by
  unfold w_nl at h
  simp only [hv] at h
  cases v <;> simp_all [Value.category]
theorem w_lok.set1 {ad : Nat → Nat} {nL : Nat} {ls : wL} {la la' : Array Slot} {k : Nat} {v : Value} (h : w_lok ad nL ls la) (hk : k < ls.length) (hn : w_nl ls k = true) (h2 : lv_has la' nL ((k, w_tr ad v) :: (w_pics ad ls).filter (fun q => !(q.1 == k) && !(q.1 + 1 == k && q.2.category == 2)))) : w_lok ad nL (ls.set k (some v)) la' := by
  refine ⟨by rw [List.length_set]; exact h.1, h2.1, h2.2.1, fun q hq => ?_⟩
  obtain ⟨i, w⟩ := q
  obtain ⟨u, hu, rfl⟩ := w_pics_mem.mp hq
  rw [List.getElem?_set] at hu
  by_cases e : k = i
  · subst e
    rw [if_pos rfl, if_pos hk] at hu
    cases hu
    exact h2.2.2 _ List.mem_cons_self
  · rw [if_neg e] at hu
    refine h2.2.2 _ (List.mem_cons_of_mem _ (List.mem_filter.mpr ⟨w_pics_mem.mpr ⟨u, hu, rfl⟩, ?_⟩))
    have e2 : ¬ i = k := fun z => e z.symm
    by_cases e3 : i + 1 = k
    · subst e3
      have := w_nl_e hn hu
      simp [w_tr_cat, this]
    · simp [e2, e3]
theorem w_lok.set2 {ad : Nat → Nat} {nL : Nat} {ls : wL} {la la' : Array Slot} {k : Nat} {v : Value} (h : w_lok ad nL ls la) (hk : k + 1 < ls.length) (hn : w_nl ls k = true) (h2 : lv_has la' nL ((k, w_tr ad v) :: (w_pics ad ls).filter (fun q => !(q.1 == k) && (!(q.1 == k + 1) && !(q.1 + 1 == k && q.2.category == 2))))) : w_lok ad nL ((ls.set k (some v)).set (k + 1) none) la' := by
  refine ⟨by rw [List.length_set, List.length_set]; exact h.1, h2.1, h2.2.1, fun q hq => ?_⟩
  obtain ⟨i, w⟩ := q
  obtain ⟨u, hu, rfl⟩ := w_pics_mem.mp hq
  rw [List.getElem?_set] at hu
  by_cases e0 : k + 1 = i
  · subst e0
    rw [if_pos rfl, List.length_set, if_pos hk] at hu
    cases hu
  rw [if_neg e0, List.getElem?_set] at hu
  by_cases e : k = i
  · subst e
    rw [if_pos rfl, if_pos (by omega)] at hu
    cases hu
    exact h2.2.2 _ List.mem_cons_self
  · rw [if_neg e] at hu
    refine h2.2.2 _ (List.mem_cons_of_mem _ (List.mem_filter.mpr ⟨w_pics_mem.mpr ⟨u, hu, rfl⟩, ?_⟩))
    have e2 : ¬ i = k := fun z => e z.symm
    have e4 : ¬ i = k + 1 := fun z => e0 z.symm
    by_cases e3 : i + 1 = k
    · subst e3
      have := w_nl_e hn hu
      simp [w_tr_cat, this]
      omega
    · simp [e2, e3, e4]
/-! the pure step: what must hold ahead of an instruction, so that K holds behind it -/
def w_i (st : List Value) (f : Int32 → List Value → Prop) : Prop := match st with
  | .int x :: r => f x r
  | _ => False
def w_ii (st : List Value) (f : Int32 → Int32 → List Value → Prop) : Prop := match st with
  | .int y :: .int x :: r => f x y r
  | _ => False
def w_l (st : List Value) (f : Int64 → List Value → Prop) : Prop := match st with
  | .long x :: r => f x r
  | _ => False
def w_ll (st : List Value) (f : Int64 → Int64 → List Value → Prop) : Prop := match st with
  | .long y :: .long x :: r => f x y r
  | _ => False
def w_li (st : List Value) (f : Int64 → Int32 → List Value → Prop) : Prop := match st with
  | .int y :: .long x :: r => f x y r
  | _ => False
def w_r (st : List Value) (f : Nat → List Value → Prop) : Prop := match st with
  | .ref q :: r => f q r
  | _ => False
def w_ir (st : List Value) (f : Nat → Int32 → List Value → Prop) : Prop := match st with
  | .int i :: .ref q :: r => f q i r
  | _ => False
def w_iir (st : List Value) (f : Nat → Int32 → Int32 → List Value → Prop) : Prop := match st with
  | .int x :: .int i :: .ref q :: r => f q i x r
  | _ => False
def w_lv (ls : wL) (k : Nat) (f : Value → Prop) : Prop := match ls[k]? with
  | some (some v) => f v
  | _ => False
def w_st1 (ls : wL) (k : Nat) (v : Value) (f : wL → Prop) : Prop := match Nat.blt k ls.length && w_nl ls k with
  | true => f (ls.set k (some v))
  | false => False
def w_st2 (ls : wL) (k : Nat) (v : Value) (f : wL → Prop) : Prop := match Nat.blt (k + 1) ls.length && w_nl ls k with
  | true => f ((ls.set k (some v)).set (k + 1) none)
  | false => False
def w_sw (x : Int32) (f : Nat → Prop) : Int → List Nat → Prop
  | _, [] => True
  | a, t :: ts => (x.toInt = a → f t) ∧ w_sw x f (a + 1) ts
def w_inA (sh : wSh) (n k q : Nat) (i : Int32) : Prop := q < n ∧ ∃ len, sh q = .inr (k, len) ∧ vp_in i len
def w_al (sh : wSh) (q : Nat) : Nat := match sh q with
  | .inr (_, len) => len
  | _ => 0
def w_pv (rf : Nat → Nat → Nat) (μ : wM) (ci q j : Nat) : Value := match w_fk ci j with
  | true => .ref (rf q j)
  | false => .int (μ q j)
def w_bit (x : Int32) : Prop := x = 0 ∨ x = 1
def w_rok (rty : Option FieldType) (x : Int32) : Prop := match rty with
  | some .int => True
  | some .boolean => w_bit x
  | _ => False
def w_fok (ty : FieldType) (x : Int32) : Prop := match ty with
  | .int => True
  | .boolean => w_bit x
  | _ => False
def w_pr (vd : Bool) (r : Int32) (st : List Value) : List Value := match vd with
  | true => st
  | false => .int r :: st
def w_call (static : Bool) (S : Option wS) (st : List Value) (μ : wM) (f : List Value → wM → Prop) : Prop := match S with
  | none => False
  | some S => match S.1 == static && Nat.ble S.2.2.1 st.length && Nat.ble (st.drop S.2.2.1).length 4 with
    | true => S.2.2.2.1 (st.take S.2.2.1).reverse μ ∧ ∀ r μ', S.2.2.2.2 (st.take S.2.2.1).reverse μ r μ' → f (w_pr S.2.1 r (st.drop S.2.2.1)) μ'
    | false => False
def w_b (c : Jvm.ClassFile.Cond) (x y : Int32) (T F : Prop) : Prop := match c with
  | .eq => (x = y → T) ∧ (¬ x = y → F)
  | .ne => (x = y → F) ∧ (¬ x = y → T)
  | .lt => (x < y → T) ∧ (¬ x < y → F)
  | .ge => (y ≤ x → T) ∧ (¬ y ≤ x → F)
  | .gt => (y < x → T) ∧ (¬ y < x → F)
  | .le => (x ≤ y → T) ∧ (¬ x ≤ y → F)
def w_1 (o : Nat) (Γ : Nat → Option wS) (sh : wSh) (rf : Nat → Nat → Nat) (n : Nat) (rty : Option FieldType) (ret : Int32 → wM → Prop) (ins : Instr) (tg : List Nat) (K : wK) (i : Nat) (ls : wL) (st : List Value) (μ : wM) : Prop :=
  match ins with
  | .aload_n k => w_lv ls k fun v => (match v with
    | .ref q => K (i + 1) ls (.ref q :: st) μ
    | _ => False)
  | .aload k => w_lv ls k fun v => (match v with
    | .ref q => K (i + 1) ls (.ref q :: st) μ
    | _ => False)
  | .iload_n k => w_lv ls k fun v => (match v with
    | .int q => K (i + 1) ls (.int q :: st) μ
    | _ => False)
  | .iload k => w_lv ls k fun v => (match v with
    | .int q => K (i + 1) ls (.int q :: st) μ
    | _ => False)
  | .lload_n k => w_lv ls k fun v => (match v with
    | .long q => K (i + 1) ls (.long q :: st) μ
    | _ => False)
  | .istore_n k => w_i st fun x r => w_st1 ls k (.int x) fun ls' => K (i + 1) ls' r μ
  | .istore k => w_i st fun x r => w_st1 ls k (.int x) fun ls' => K (i + 1) ls' r μ
  | .astore_n k => w_r st fun x r => w_st1 ls k (.ref x) fun ls' => K (i + 1) ls' r μ
  | .astore k => w_r st fun x r => w_st1 ls k (.ref x) fun ls' => K (i + 1) ls' r μ
  | .lstore_n k => w_l st fun x r => w_st2 ls k (.long x) fun ls' => K (i + 1) ls' r μ
  | .iinc k d => w_lv ls k fun v => (match v with
    | .int x => w_st1 ls k (.int (x + Int32.ofInt d)) fun ls' => K (i + 1) ls' st μ
    | _ => False)
  | .iconst v => K (i + 1) ls (.int (Int32.ofInt v) :: st) μ
  | .bipush v => K (i + 1) ls (.int (Int8.ofInt v).toInt32 :: st) μ
  | .sipush v => K (i + 1) ls (.int (Int16.ofInt v).toInt32 :: st) μ
  | .lconst v => K (i + 1) ls (.long (Int64.ofNat (v : Nat)) :: st) μ
  | .ldc k => (match w_lk (w_k32 o) k with
    | some v => K (i + 1) ls (.int v :: st) μ
    | none => False)
  | .ldc_w k => (match w_lk (w_k32 o) k with
    | some v => K (i + 1) ls (.int v :: st) μ
    | none => False)
  | .ldc2_w k => (match w_lk (w_k64 o) k with
    | some v => K (i + 1) ls (.long v :: st) μ
    | none => False)
  | .iadd => w_ii st fun x y r => K (i + 1) ls (.int (x + y) :: r) μ
  | .isub => w_ii st fun x y r => K (i + 1) ls (.int (x - y) :: r) μ
  | .imul => w_ii st fun x y r => K (i + 1) ls (.int (x * y) :: r) μ
  | .iand => w_ii st fun x y r => K (i + 1) ls (.int (x &&& y) :: r) μ
  | .ior => w_ii st fun x y r => K (i + 1) ls (.int (x ||| y) :: r) μ
  | .ixor => w_ii st fun x y r => K (i + 1) ls (.int (x ^^^ y) :: r) μ
  | .idiv => w_ii st fun x y r => y ≠ 0 ∧ K (i + 1) ls (.int (x / y) :: r) μ
  | .irem => w_ii st fun x y r => y ≠ 0 ∧ K (i + 1) ls (.int (x - x / y * y) :: r) μ
  | .ishl => w_ii st fun x y r => K (i + 1) ls (.int (x <<< (y &&& 31)) :: r) μ
  | .ishr => w_ii st fun x y r => K (i + 1) ls (.int (x >>> (y &&& 31)) :: r) μ
  | .iushr => w_ii st fun x y r => K (i + 1) ls (.int ((x.toUInt32 >>> (y.toUInt32 &&& Int32.toUInt32 31)).toInt32) :: r) μ
  | .ladd => w_ll st fun x y r => K (i + 1) ls (.long (x + y) :: r) μ
  | .lsub => w_ll st fun x y r => K (i + 1) ls (.long (x - y) :: r) μ
  | .lmul => w_ll st fun x y r => K (i + 1) ls (.long (x * y) :: r) μ
  | .land => w_ll st fun x y r => K (i + 1) ls (.long (x &&& y) :: r) μ
  | .lor => w_ll st fun x y r => K (i + 1) ls (.long (x ||| y) :: r) μ
  | .ldiv => w_ll st fun x y r => y ≠ 0 ∧ K (i + 1) ls (.long (x / y) :: r) μ
  | .lcmp => w_ll st fun x y r => K (i + 1) ls (.int (lg_cmp x y) :: r) μ
  | .lshl => w_li st fun x y r => K (i + 1) ls (.long (x <<< (y.toInt64 &&& 63)) :: r) μ
  | .lshr => w_li st fun x y r => K (i + 1) ls (.long (x >>> (y.toInt64 &&& 63)) :: r) μ
  | .lushr => w_li st fun x y r => K (i + 1) ls (.long ((x.toUInt64 >>> (y.toInt64.toUInt64 &&& Int64.toUInt64 63)).toInt64) :: r) μ
  | .i2l => w_i st fun x r => K (i + 1) ls (.long x.toInt64 :: r) μ
  | .l2i => w_l st fun x r => K (i + 1) ls (.int x.toInt32 :: r) μ
  | .i2b => w_i st fun x r => K (i + 1) ls (.int x.toInt8.toInt32 :: r) μ
  | .i2s => w_i st fun x r => K (i + 1) ls (.int x.toInt16.toInt32 :: r) μ
  | .dup => (match st with
    | .int x :: r => K (i + 1) ls (.int x :: .int x :: r) μ
    | .ref x :: r => K (i + 1) ls (.ref x :: .ref x :: r) μ
    | _ => False)
  | .dup2 => (match st with
    | .int x :: .ref y :: r => K (i + 1) ls (.int x :: .ref y :: .int x :: .ref y :: r) μ
    | _ => False)
  | .pop => w_i st fun _ r => K (i + 1) ls r μ
  | .goto _ => (match tg with
    | [t] => K t ls st μ
    | _ => False)
  | .ifCond c _ => (match tg with
    | [t] => w_i st fun x r => w_b c x 0 (K t ls r μ) (K (i + 1) ls r μ)
    | _ => False)
  | .if_icmp c _ => (match tg with
    | [t] => w_ii st fun x y r => w_b c x y (K t ls r μ) (K (i + 1) ls r μ)
    | _ => False)
  | .tableswitch _ lo hi _ => (match tg with
    | d :: ts => w_i st fun x r => w_sw x (fun t => K t ls r μ) lo ts ∧ (x.toInt < lo ∨ hi < x.toInt → K d ls r μ)
    | _ => False)
  | .getfield k => (match w_lk (w_fl o) k with
    | some e => w_r st fun q r => (q < n ∧ sh q = .inl e.1) ∧ K (i + 1) ls (w_pv rf μ e.1 q e.2 :: r) μ
    | none => False)
  | .putfield k => (match w_lk (w_fl o) k with
    | some e => (match (w_T e.1 e.2).2.2.2 || w_fk e.1 e.2 with
      | false => w_ir st fun q x r => (q < n ∧ sh q = .inl e.1 ∧ w_fok (w_ty e.1 e.2) x) ∧ K (i + 1) ls r (w_up μ q e.2 x)
      | true => False)
    | none => False)
  | .iaload => w_ir st fun q j r => w_inA sh n 0 q j ∧ K (i + 1) ls (.int (μ q j.toNatClampNeg) :: r) μ
  | .baload => w_ir st fun q j r => w_inA sh n 1 q j ∧ K (i + 1) ls (.int (μ q j.toNatClampNeg) :: r) μ
  | .aaload => w_ir st fun q j r => (w_inA sh n 2 q j ∨ w_inA sh n 3 q j) ∧ K (i + 1) ls (.ref (rf q j.toNatClampNeg) :: r) μ
  | .iastore => w_iir st fun q j x r => w_inA sh n 0 q j ∧ K (i + 1) ls r (w_up μ q j.toNatClampNeg x)
  | .bastore => w_iir st fun q j x r => (w_inA sh n 1 q j ∧ w_bit x) ∧ K (i + 1) ls r (w_up μ q j.toNatClampNeg x)
  | .arraylength => w_r st fun q r => (q < n ∧ sh q = .inr (0, w_al sh q)) ∧ K (i + 1) ls (.int (nI (w_al sh q)) :: r) μ
  | .invokevirtual k => w_call false (Γ k) st μ fun st' μ' => K (i + 1) ls st' μ'
  | .invokestatic k => w_call true (Γ k) st μ fun st' μ' => K (i + 1) ls st' μ'
  | .ireturn => (match st with
    | [.int x] => w_rok rty x ∧ ret x μ
    | _ => False)
  | .return_ => (match st, rty with
    | [], none => ret 0 μ
    | _, _ => False)
  | _ => False
noncomputable def w_at {α : Type} (l : List α) : Nat → Option α := List.rec (fun _ => none) (fun a _ ih i => Nat.rec (some a) (fun j _ => ih j) i) l
noncomputable def w_n (o : Nat) (Γ : Nat → Option wS) (sh : wSh) (rf : Nat → Nat → Nat) (n : Nat) (rty : Option FieldType) (ret : Int32 → wM → Prop) (tb : wT) (cut : Nat → Bool) (K : wK) (fuel : Nat) : wK :=
  Nat.rec K (fun _ ih i ls st μ => match w_at tb i with
    | none => False
    | some t => w_1 o Γ sh rf n rty ret t.1 t.2.2 (fun j ls' st' μ' => match cut j with
      | true => K j ls' st' μ'
      | false => ih j ls' st' μ') i ls st μ) fuel
/-- closed under all walks -/
def w_cl (o : Nat) (Γ : Nat → Option wS) (sh : wSh) (rf : Nat → Nat → Nat) (n : Nat) (rty : Option FieldType) (ret : Int32 → wM → Prop) (tb : wT) (K : wK) : Prop :=
  ∀ (cut : Nat → Bool) (fuel i : Nat) (ls : wL) (st : List Value) (μ : wM), w_n o Γ sh rf n rty ret tb cut K fuel i ls st μ → K i ls st μ
end
section
/-! an instruction table against the bytes -/
def w_isw : Instr → Bool
  | .tableswitch .. => true
  | _ => false
def w_end : Instr → Bool
  | .tableswitch .. => true
  | .goto _ => true
  | .ireturn => true
  | .return_ => true
  | _ => false
def w_len : Instr → Nat
  | .bipush _ => 2
  | .iload _ => 2
  | .istore _ => 2
  | .aload _ => 2
  | .astore _ => 2
  | .ldc _ => 2
  | .sipush _ => 3
  | .goto _ => 3
  | .ifCond .. => 3
  | .if_icmp .. => 3
  | .getfield _ => 3
  | .putfield _ => 3
  | .invokevirtual _ => 3
  | .invokestatic _ => 3
  | .iinc .. => 3
  | .ldc_w _ => 3
  | .ldc2_w _ => 3
  | _ => 1
noncomputable def w_pc (tb : wT) (i : Nat) : Nat := match w_at tb i with
  | some t => t.2.1
  | none => 0
noncomputable def w_tgB (tb : wT) (pc : Nat) (ins : Instr) (tg : List Nat) : Bool := match ins with
  | .goto off => (match tg with
    | [t] => decide ((pc : Int) + off = (w_pc tb t : Int))
    | _ => false)
  | .ifCond _ off => (match tg with
    | [t] => decide ((pc : Int) + off = (w_pc tb t : Int))
    | _ => false)
  | .if_icmp _ off => (match tg with
    | [t] => decide ((pc : Int) + off = (w_pc tb t : Int))
    | _ => false)
  | .tableswitch d lo hi offs => (match tg with
    | t :: ts => decide ((pc : Int) + d = (w_pc tb t : Int)) && decide (hi - lo + 1 = (ts.length : Int)) && decide (offs.toList.map (fun x => (pc : Int) + x) = ts.map (fun t => (w_pc tb t : Int)))
    | _ => false)
  | _ => true
noncomputable def w_okE (cc : ByteArray) (tb : wT) (i : Nat) (t : Instr × Nat × List Nat) : Bool :=
  (match decode cc t.2.1 with
    | .ok r => decide (r.1 = t.1) && (w_isw t.1 || decide (r.2 = w_len t.1))
    | .error _ => false) && (w_end t.1 || decide (w_pc tb (i + 1) = t.2.1 + w_len t.1)) && w_tgB tb t.2.1 t.1 t.2.2
noncomputable def w_okFrom (cc : ByteArray) (tb : wT) : Nat → wT → Bool
  | _, [] => true
  | i, t :: ts => w_okE cc tb i t && w_okFrom cc tb (i + 1) ts
noncomputable def w_ok (cc : ByteArray) (tb : wT) : Bool := w_okFrom cc tb 0 tb
theorem w_at_nil {α : Type} (i : Nat) : w_at ([] : List α) i = none := rfl
theorem w_at_0 {α : Type} (a : α) (l : List α) : w_at (a :: l) 0 = some a := rfl
theorem w_at_s {α : Type} (a : α) (l : List α) (i : Nat) : w_at (a :: l) (i + 1) = w_at l i := rfl
theorem w_okFrom_at {cc : ByteArray} {tb : wT} : ∀ (l : wT) (j i : Nat) (t : Instr × Nat × List Nat), w_okFrom cc tb j l = true → w_at l i = some t → w_okE cc tb (j + i) t = true := by
  intro l
  induction l with
  | nil => intro j i t _ h; cases h
  | cons a l ih =>
    intro j i t h h2
    have h : (w_okE cc tb j a && w_okFrom cc tb (j + 1) l) = true := h
    rw [Bool.and_eq_true] at h
    cases i with
    | zero =>
      cases h2
      exact h.1
    | succ i =>
      have := ih (j + 1) i t h.2 h2
      rw [show j + (i + 1) = j + 1 + i by omega]
      exact this
theorem w_ok_at {cc : ByteArray} {tb : wT} (h : w_ok cc tb = true) {i : Nat} {t : Instr × Nat × List Nat} (ht : w_at tb i = some t) : w_okE cc tb i t = true := by
  have := w_okFrom_at tb 0 i t h ht
  rwa [Nat.zero_add] at this
theorem w_okE_e {cc : ByteArray} {tb : wT} {i : Nat} {t : Instr × Nat × List Nat} (h : w_okE cc tb i t = true) :
    (∃ L, decode cc t.2.1 = .ok (t.1, L) ∧ (w_isw t.1 = false → L = w_len t.1)) ∧ (w_end t.1 = false → w_pc tb (i + 1) = t.2.1 + w_len t.1) ∧ w_tgB tb t.2.1 t.1 t.2.2 = true := by
  unfold w_okE at h
  rw [Bool.and_eq_true, Bool.and_eq_true] at h
  obtain ⟨⟨h1, h2⟩, h3⟩ := h
  refine ⟨?_, ?_, h3⟩
  · split at h1
    · next r hr =>
      rw [Bool.and_eq_true, Bool.or_eq_true] at h1
      refine ⟨r.2, ?_, fun z => ?_⟩
      · rw [hr, ← of_decide_eq_true h1.1]
      · rcases h1.2 with q | q
        · rw [z] at q; cases q
        · exact of_decide_eq_true q
    · cases h1
  · intro z
    rw [z, Bool.false_or] at h2
    exact of_decide_eq_true h2
/-! the machine's side -/
abbrev w_tys (kc : Nat → ClassId) : List (ClassId × FieldType) := [(kc 0, .int), (kc 1, .boolean), (kc 2, .object RX1), (kc 3, .object RX5)]
def w_NL (U : State) : Prop := va_Nw (.methodLinkNest RX1 30 yX7_within RX7) U ∧ va_Nw (.methodLinkNest RX6 22 yX7_within RX7) U
def w_ov (rty : Option FieldType) (r : Int32) : Option Value := match rty with
  | none => none
  | some _ => some (.int r)
def w_rm (d : Nat) : Room := { frames := d, cells := 0, slots := 0, locals := 40 * d }
section WSTEP
variable {p : Program} {l : Launch} {e : Env} {R : Room} {s : State} {m : MethodId} {args : Array Value} {below : List Frame} {meth : Method} {c : Code}
variable {D : va_G} {kc : Nat → ClassId} {sh : wSh} {rf : Nat → Nat → Nat} {n : Nat} {ad : Nat → Nat} {A : Nat → Prop} {H0 : Heap} {cc : ByteArray} {nL o : Nat} {rty : Option FieldType} {Q : State → Prop}
def w_env (p : Program) (s : State) (m : MethodId) (args : Array Value) (meth : Method) (c : Code) (D : va_G) (kc : Nat → ClassId) (n : Nat) (ad : Nat → Nat) (A : Nat → Prop) (H0 : Heap) (cc : ByteArray) (nL o : Nat) (rty : Option FieldType) : Prop :=
  p.tables.exec = Jvm.exec ∧ c.code = cc ∧ c.maxLocals = nL ∧ s.vm.findClass (w_C o) = some m.cls ∧ (∀ w ∈ w_tbl, w.before args s = true) ∧ va_K D vwCl (w_tys kc) s ∧ w_NL s ∧ (∀ q, H0.size ≤ q → A q) ∧ w_ap n ad A ∧ meth.locks = false ∧ meth.sig.returnType = rty
def w_sim (p : Program) (l : Launch) (e : Env) (R : Room) (s : State) (m : MethodId) (args : Array Value) (below : List Frame) (meth : Method) (c : Code) (D : va_G) (kc : Nat → ClassId) (sh : wSh) (rf : Nat → Nat → Nat) (n : Nat) (ad : Nat → Nat) (A : Nat → Prop) (H0 : Heap) (nL : Nat) (Q : State → Prop) (tb : wT) : wK := fun i ls st μ =>
  ∀ (H : Heap) (locs : List Loc) (la : Array Slot), va_P D vwCl (w_w kc sh rf n ad μ) H → va_S A H0 H locs → w_lok ad nL ls la → W p l e R s m args below meth c H locs 0 0 Q (F0 m (w_pc tb i) la (st.map (w_tr ad)))
/-- a call that may be made -/
def w_Call (l : Launch) (o idx : Nat) (S : wS) (d : Nat) (sh : wSh) (rf : Nat → Nat → Nat) (n : Nat) : Prop :=
  ∀ (p : Program) (e : Env) (s : State) (m : MethodId) (args : Array Value) (below : List Frame) (meth : Method) (c : Code) (D : va_G) (kc : Nat → ClassId) (ad : Nat → Nat) (A : Nat → Prop) (H0 : Heap) (cc : ByteArray) (nL : Nat) (rty : Option FieldType) (Q : State → Prop),
    w_env p s m args meth c D kc n ad A H0 cc nL o rty → ∀ (pc : Nat) (la : Array Slot) (as rest : List Value) (μ : wM) (H : Heap) (locs : List Loc), la.size = nL →
    decode cc pc = .ok ((match S.1 with | true => Instr.invokestatic idx | false => Instr.invokevirtual idx), 3) → as.length = S.2.2.1 → rest.length ≤ 4 → S.2.2.2.1 as μ → va_P D vwCl (w_w kc sh rf n ad μ) H → va_S A H0 H locs →
    (∀ (r : Int32) (μ' : wM) (H1 : Heap) (locs1 : List Loc), S.2.2.2.2 as μ r μ' → va_P D vwCl (w_w kc sh rf n ad μ') H1 → va_S A H0 H1 locs1 → W p l e (w_rm d) s m args below meth c H1 locs1 0 0 Q (F0 m (pc + 3) la ((w_pr S.2.1 r rest).map (w_tr ad)))) →
    W p l e (w_rm d) s m args below meth c H locs 0 0 Q (F0 m pc la ((as.reverse ++ rest).map (w_tr ad)))
theorem w_i_e {st : List Value} {f : Int32 → List Value → Prop} (h : w_i st f) : ∃ x r, st = .int x :: r ∧ f x r := by
  unfold w_i at h
  split at h
  · exact ⟨_, _, rfl, h⟩
  · exact h.elim
theorem w_ii_e {st : List Value} {f : Int32 → Int32 → List Value → Prop} (h : w_ii st f) : ∃ x y r, st = .int y :: .int x :: r ∧ f x y r := by
  unfold w_ii at h
  split at h
  · exact ⟨_, _, _, rfl, h⟩
  · exact h.elim
theorem w_l_e {st : List Value} {f : Int64 → List Value → Prop} (h : w_l st f) : ∃ x r, st = .long x :: r ∧ f x r := by
  unfold w_l at h
  split at h
  · exact ⟨_, _, rfl, h⟩
  · exact h.elim
theorem w_ll_e {st : List Value} {f : Int64 → Int64 → List Value → Prop} (h : w_ll st f) : ∃ x y r, st = .long y :: .long x :: r ∧ f x y r := by
  unfold w_ll at h
  split at h
  · exact ⟨_, _, _, rfl, h⟩
  · exact h.elim
theorem w_li_e {st : List Value} {f : Int64 → Int32 → List Value → Prop} (h : w_li st f) : ∃ x y r, st = .int y :: .long x :: r ∧ f x y r := by
  unfold w_li at h
  split at h
  · exact ⟨_, _, _, rfl, h⟩
  · exact h.elim
theorem w_r_e {st : List Value} {f : Nat → List Value → Prop} (h : w_r st f) : ∃ q r, st = .ref q :: r ∧ f q r := by
  unfold w_r at h
  split at h
  · exact ⟨_, _, rfl, h⟩
  · exact h.elim
theorem w_ir_e {st : List Value} {f : Nat → Int32 → List Value → Prop} (h : w_ir st f) : ∃ q i r, st = .int i :: .ref q :: r ∧ f q i r := by
  unfold w_ir at h
  split at h
  · exact ⟨_, _, _, rfl, h⟩
  · exact h.elim
theorem w_iir_e {st : List Value} {f : Nat → Int32 → Int32 → List Value → Prop} (h : w_iir st f) : ∃ q i x r, st = .int x :: .int i :: .ref q :: r ∧ f q i x r := by
  unfold w_iir at h
  split at h
  · exact ⟨_, _, _, _, rfl, h⟩
  · exact h.elim
theorem w_lv_e {ls : wL} {k : Nat} {f : Value → Prop} (h : w_lv ls k f) : ∃ v, ls[k]? = some (some v) ∧ f v := by
  unfold w_lv at h
  split at h
  · next v hv => exact ⟨v, hv, h⟩
  · exact h.elim
theorem w_st1_e {ls : wL} {k : Nat} {v : Value} {f : wL → Prop} (h : w_st1 ls k v f) : k < ls.length ∧ w_nl ls k = true ∧ f (ls.set k (some v)) := by
  unfold w_st1 at h
  split at h
  · next hb =>
    rw [Bool.and_eq_true] at hb
    exact ⟨Nat.lt_of_lt_of_le (Nat.lt_succ_self k) (Nat.le_of_ble_eq_true hb.1), hb.2, h⟩
  · exact h.elim
theorem w_st2_e {ls : wL} {k : Nat} {v : Value} {f : wL → Prop} (h : w_st2 ls k v f) : k + 1 < ls.length ∧ w_nl ls k = true ∧ f ((ls.set k (some v)).set (k + 1) none) := by
  unfold w_st2 at h
  split at h
  · next hb =>
    rw [Bool.and_eq_true] at hb
    exact ⟨Nat.lt_of_lt_of_le (Nat.lt_succ_self (k + 1)) (Nat.le_of_ble_eq_true hb.1), hb.2, h⟩
  · exact h.elim
theorem w_e_obj {μ : wM} {q ci : Nat} (h : sh q = .inl ci) : w_e kc sh rf ad μ q = .inr (ci, (List.range (w_nf ci)).map (w_fv rf ad μ ci q)) := by
  unfold w_e
  rw [h]
theorem w_e_int {μ : wM} {q len : Nat} (h : sh q = .inr (0, len)) : w_e kc sh rf ad μ q = .inl (kc 0, len, .inl (μ q)) := by
  unfold w_e
  rw [h]
theorem w_e_bool {μ : wM} {q len : Nat} (h : sh q = .inr (1, len)) : w_e kc sh rf ad μ q = .inl (kc 1, len, .inl (μ q)) := by
  unfold w_e
  rw [h]
theorem w_e_ref {μ : wM} {q k len : Nat} (h : sh q = .inr (k + 2, len)) : w_e kc sh rf ad μ q = .inl (kc (k + 2), len, .inr (.inr (.inr (.inr (fun j => some (ad (rf q j))))))) := by
  unfold w_e
  rw [h]
theorem w_w_at {μ : wM} {q : Nat} (h : q < n) : (w_w kc sh rf n ad μ)[q]? = some (ad q, w_e kc sh rf ad μ q) := by
  unfold w_w
  rw [w_get h]
theorem w_w_set {μ : wM} {q j : Nat} {x : Int32} {E : va_E} (h : q < n) (hE : w_e kc sh rf ad (w_up μ q j x) q = E) : (w_w kc sh rf n ad μ).set q (ad q, E) = w_w kc sh rf n ad (w_up μ q j x) := by
  unfold w_w
  refine w_set h ?_ ?_
  · rw [hE]
  · intro i hi
    rw [w_e_o (w_up_o hi)]
theorem w_pv_tr (μ : wM) (ci q j : Nat) : w_tr ad (w_pv rf μ ci q j) = w_fv rf ad μ ci q j := by
  unfold w_pv w_fv
  split <;> rfl
theorem w_cls (ci : Nat) (h : ci < 9) : vwCl[ci]? = some (w_C ci, w_T ci, w_nf ci) ∧ (∀ w ∈ u_ws (w_C ci) (w_T ci) (w_nf ci), w ∈ w_tbl) ∧ (∀ k, k < w_nf ci → parseFieldDescriptor (w_T ci k).2.2.1 = some (w_ty ci k)) ∧ (∀ a, a < w_nf ci → ∀ b, b < w_nf ci → a ≠ b → (w_T ci a).2.1 ≠ (w_T ci b).2.1) ∧ (∀ k, k < w_nf ci → (w_T ci k).1 = w_C ci) := by
  match ci, h with
  | 0, _ => exact ⟨rfl, w_us0, tyX0_ok, nmX0, by decide +kernel⟩
  | 1, _ => exact ⟨rfl, w_us1, tyX1_ok, nmX1, by decide +kernel⟩
  | 2, _ => exact ⟨rfl, w_us2, tyX2_ok, nmX2, by decide +kernel⟩
  | 3, _ => exact ⟨rfl, w_us3, tyX3_ok, nmX3, by decide +kernel⟩
  | 4, _ => exact ⟨rfl, w_us4, tyX4_ok, nmX4, by decide +kernel⟩
  | 5, _ => exact ⟨rfl, w_us5, tyX5_ok, nmX5, by decide +kernel⟩
  | 6, _ => exact ⟨rfl, w_us6, tyX6_ok, nmX6, by decide +kernel⟩
  | 7, _ => exact ⟨rfl, w_us7, tyX7_ok, nmX7, by decide +kernel⟩
  | 8, _ => exact ⟨rfl, w_us8, tyX8_ok, nmX8, by decide +kernel⟩
theorem w_flok (o : Nat) {k ci j : Nat} (h : w_lk (w_fl o) k = some (ci, j)) : ci < 9 ∧ j < w_nf ci ∧ Cond.fieldLink (w_C o) k (w_C ci) (w_T ci j).2.1 (w_T ci j).2.2.1 ∈ w_tbl := by
  have hm := w_lk_mem h
  match o, hm with
  | 0, hm => exact w_flok0 _ hm
  | 1, hm => exact w_flok1 _ hm
  | 2, hm => exact w_flok2 _ hm
  | 3, hm => exact w_flok3 _ hm
  | 4, hm => exact w_flok4 _ hm
  | 5, hm => exact w_flok5 _ hm
  | 6, hm => exact w_flok6 _ hm
  | 7, hm => exact w_flok7 _ hm
  | 8, hm => exact w_flok8 _ hm
  | _ + 9, hm => exact absurd hm List.not_mem_nil
theorem w_k32ok (o : Nat) {k : Nat} {v : Int32} (h : w_lk (w_k32 o) k = some v) : Cond.constant (w_C o) k v ∈ w_tbl := by
  have hm := w_lk_mem h
  match o, hm with
  | 7, hm => exact w_k32ok7 _ hm
  | 8, hm => exact w_k32ok8 _ hm
  | 9, hm => exact w_k32ok9 _ hm
  | 0, hm => exact absurd hm List.not_mem_nil
  | 1, hm => exact absurd hm List.not_mem_nil
  | 2, hm => exact absurd hm List.not_mem_nil
  | 3, hm => exact absurd hm List.not_mem_nil
  | 4, hm => exact absurd hm List.not_mem_nil
  | 5, hm => exact absurd hm List.not_mem_nil
  | 6, hm => exact absurd hm List.not_mem_nil
  | _ + 10, hm => exact absurd hm List.not_mem_nil
theorem w_k64ok (o : Nat) {k : Nat} {v : Int64} (h : w_lk (w_k64 o) k = some v) : Cond.constantLong (w_C o) k v ∈ w_tbl := by
  have hm := w_lk_mem h
  match o, hm with
  | 1, hm => exact w_k64ok1 _ hm
  | 6, hm => exact w_k64ok6 _ hm
  | 8, hm => exact w_k64ok8 _ hm
  | 10, hm => exact w_k64ok10 _ hm
  | 0, hm => exact absurd hm List.not_mem_nil
  | 2, hm => exact absurd hm List.not_mem_nil
  | 3, hm => exact absurd hm List.not_mem_nil
  | 4, hm => exact absurd hm List.not_mem_nil
  | 5, hm => exact absurd hm List.not_mem_nil
  | 7, hm => exact absurd hm List.not_mem_nil
  | 9, hm => exact absurd hm List.not_mem_nil
  | _ + 11, hm => exact absurd hm List.not_mem_nil
end WSTEP
end
section
theorem w_sw_e {x : Int32} {f : Nat → Prop} : ∀ (ts : List Nat) (a : Int) (j : Nat) (hj : j < ts.length), w_sw x f a ts → x.toInt = a + j → f ts[j] := by
  intro ts
  induction ts with
  | nil => intro a j hj; exact absurd hj (Nat.not_lt_zero _)
  | cons t ts ih =>
    intro a j hj h hx
    cases j with
    | zero => exact h.1 (by rw [hx]; simp)
    | succ j => exact ih (a + 1) j (by simpa using hj) h.2 (by rw [hx]; push_cast; omega)
section WSOUND
variable {p : Program} {l : Launch} {e : Env} {R : Room} {s : State} {m : MethodId} {args : Array Value} {below : List Frame} {meth : Method} {c : Code}
variable {D : va_G} {kc : Nat → ClassId} {sh : wSh} {rf : Nat → Nat → Nat} {n : Nat} {ad : Nat → Nat} {A : Nat → Prop} {H0 : Heap} {cc : ByteArray} {nL o d : Nat} {rty : Option FieldType} {Qc : Array Value → State → Outcome → State → Prop} {free : Addr → Prop}
set_option maxHeartbeats 4000000 in
set_option maxRecDepth 100000 in
/-- one instruction: the pure step is the machine's -/
theorem w_step {Γ : Nat → Option wS} {tb : wT} {ret : Int32 → wM → Prop} {K : wK} (E : w_env p s m args meth c D kc n ad A H0 cc nL o rty) (hok : w_ok cc tb = true)
    (hΓ : ∀ (idx : Nat) (S : wS), Γ idx = some S → w_Call l o idx S d sh rf n)
    (hret : ∀ (r : Int32) (μ : wM) (H : Heap) (locs : List Loc), (rty = none → r = 0) → ret r μ → va_P D vwCl (w_w kc sh rf n ad μ) H → va_S A H0 H locs → (∀ t : State, t.heap = H → s.WarmedH t.vm → Qc args s (.returned (w_ov rty r)) t) ∧ ∀ q ∈ locs, free q.base)
    (hK : ∀ i ls st μ, K i ls st μ → w_sim p l e (w_rm d) s m args below meth c D kc sh rf n ad A H0 nL (MQ below Qc args s 0 0 free) tb i ls st μ)
    {i : Nat} {t : Instr × Nat × List Nat} (ht : w_at tb i = some t) {ls : wL} {st : List Value} {μ : wM} (h : w_1 o Γ sh rf n rty ret t.1 t.2.2 K i ls st μ) :
    w_sim p l e (w_rm d) s m args below meth c D kc sh rf n ad A H0 nL (MQ below Qc args s 0 0 free) tb i ls st μ := by
  obtain ⟨⟨L, hdec, hlen⟩, hnx, htg⟩ := w_okE_e (w_ok_at hok ht)
  have hpc : w_pc tb i = t.2.1 := by unfold w_pc; rw [ht]
  obtain ⟨hx, hb, hml, hown, hts, hK0, hNL, hA, hap, hlocks, hr⟩ := id E
  obtain ⟨ins, pc, tg⟩ := t
  dsimp only at hdec hlen hnx htg h hpc
  intro H locs la hP hS hl
  rw [hpc]
  cases ins with

  | aload_n k =>
    obtain rfl := hlen rfl
    have hn := hnx rfl
    obtain ⟨v, hv, h⟩ := w_lv_e h
    cases v with
    | ref x =>
      exact lv_aload_n hx hb hdec rfl (hl.at hv) (by have z := hK _ _ _ _ h H locs la hP hS hl; rw [hn] at z; exact z)
    | _ => exact h.elim
  | iload_n k =>
    obtain rfl := hlen rfl
    have hn := hnx rfl
    obtain ⟨v, hv, h⟩ := w_lv_e h
    cases v with
    | int x =>
      exact lv_iload_n hx hb hdec rfl (hl.at hv) (by have z := hK _ _ _ _ h H locs la hP hS hl; rw [hn] at z; exact z)
    | _ => exact h.elim
  | lload_n k =>
    obtain rfl := hlen rfl
    have hn := hnx rfl
    obtain ⟨v, hv, h⟩ := w_lv_e h
    cases v with
    | long x =>
      exact lv_lload_n hx hb hdec rfl (hl.at hv) (by have z := hK _ _ _ _ h H locs la hP hS hl; rw [hn] at z; exact z)
    | _ => exact h.elim
  | aload k =>
    obtain rfl := hlen rfl
    have hn := hnx rfl
    obtain ⟨v, hv, h⟩ := w_lv_e h
    cases v with
    | ref x =>
      exact lv_aload hx hb hdec (hl.at hv) (by have z := hK _ _ _ _ h H locs la hP hS hl; rw [hn] at z; exact z)
    | _ => exact h.elim
  | iload k =>
    obtain rfl := hlen rfl
    have hn := hnx rfl
    obtain ⟨v, hv, h⟩ := w_lv_e h
    cases v with
    | int x =>
      exact lv_iload hx hb hdec (hl.at hv) (by have z := hK _ _ _ _ h H locs la hP hS hl; rw [hn] at z; exact z)
    | _ => exact h.elim
  | istore_n k =>
    obtain rfl := hlen rfl
    have hn := hnx rfl
    obtain ⟨x, r, rfl, h⟩ := w_i_e h
    have h : w_st1 ls k (.int x) (fun ls' => K (i + 1) ls' r μ) := h
    obtain ⟨h1, h2, h⟩ := w_st1_e h
    exact lv_istore_n hx hb hdec rfl hl.2 (by rw [← hl.1]; exact h1) rfl (fun la' hl' => by have z := hK _ _ _ _ h H locs la' hP hS (w_lok.set1 (v := .int x) hl h1 h2 hl'); rw [hn] at z; exact z)
  | istore k =>
    obtain rfl := hlen rfl
    have hn := hnx rfl
    obtain ⟨x, r, rfl, h⟩ := w_i_e h
    have h : w_st1 ls k (.int x) (fun ls' => K (i + 1) ls' r μ) := h
    obtain ⟨h1, h2, h⟩ := w_st1_e h
    exact lv_istore hx hb hdec hl.2 (by rw [← hl.1]; exact h1) rfl (fun la' hl' => by have z := hK _ _ _ _ h H locs la' hP hS (w_lok.set1 (v := .int x) hl h1 h2 hl'); rw [hn] at z; exact z)
  | astore_n k =>
    obtain rfl := hlen rfl
    have hn := hnx rfl
    obtain ⟨x, r, rfl, h⟩ := w_r_e h
    have h : w_st1 ls k (.ref x) (fun ls' => K (i + 1) ls' r μ) := h
    obtain ⟨h1, h2, h⟩ := w_st1_e h
    exact lv_astore_n hx hb hdec rfl hl.2 (by rw [← hl.1]; exact h1) rfl (fun la' hl' => by have z := hK _ _ _ _ h H locs la' hP hS (w_lok.set1 (v := .ref x) hl h1 h2 hl'); rw [hn] at z; exact z)
  | astore k =>
    obtain rfl := hlen rfl
    have hn := hnx rfl
    obtain ⟨x, r, rfl, h⟩ := w_r_e h
    have h : w_st1 ls k (.ref x) (fun ls' => K (i + 1) ls' r μ) := h
    obtain ⟨h1, h2, h⟩ := w_st1_e h
    exact lv_astore hx hb hdec hl.2 (by rw [← hl.1]; exact h1) rfl (fun la' hl' => by have z := hK _ _ _ _ h H locs la' hP hS (w_lok.set1 (v := .ref x) hl h1 h2 hl'); rw [hn] at z; exact z)
  | lstore_n k =>
    obtain rfl := hlen rfl
    have hn := hnx rfl
    obtain ⟨x, r, rfl, h⟩ := w_l_e h
    have h : w_st2 ls k (.long x) (fun ls' => K (i + 1) ls' r μ) := h
    obtain ⟨h1, h2, h⟩ := w_st2_e h
    exact lv_lstore_n hx hb hdec rfl hl.2 (by rw [← hl.1]; exact h1) rfl (fun la' hl' => by have z := hK _ _ _ _ h H locs la' hP hS (w_lok.set2 (v := .long x) hl h1 h2 hl'); rw [hn] at z; exact z)
  | iinc k dd =>
    obtain rfl := hlen rfl
    have hn := hnx rfl
    obtain ⟨v, hv, h⟩ := w_lv_e h
    cases v with
    | int x =>
      obtain ⟨h1, h2, h⟩ := w_st1_e h
      obtain ⟨kk, hkk⟩ := List.getElem?_of_mem (w_pics_mem.mpr ⟨_, hv, rfl⟩ : (k, w_tr ad (.int x)) ∈ w_pics ad ls)
      exact lv_iinc hx hb hdec hl.2 hkk rfl (by rw [← hl.1]; exact h1) rfl (fun la' hl' => by have z := hK _ _ _ _ h H locs la' hP hS (w_lok.set1 (v := .int (x + Int32.ofInt dd)) hl h1 h2 hl'); rw [hn] at z; exact z)
    | _ => exact h.elim
  | iconst v =>
    obtain rfl := hlen rfl
    have hn := hnx rfl
    exact lv_iconst hx hb hdec rfl (by have z := hK _ _ _ _ h H locs la hP hS hl; rw [hn] at z; exact z)
  | bipush v =>
    obtain rfl := hlen rfl
    have hn := hnx rfl
    exact lv_bipush hx hb hdec rfl (by have z := hK _ _ _ _ h H locs la hP hS hl; rw [hn] at z; exact z)
  | sipush v =>
    obtain rfl := hlen rfl
    have hn := hnx rfl
    exact lv_sipush hx hb hdec rfl (by have z := hK _ _ _ _ h H locs la hP hS hl; rw [hn] at z; exact z)
  | lconst v =>
    obtain rfl := hlen rfl
    have hn := hnx rfl
    exact lv_lconst hx hb hdec rfl (by have z := hK _ _ _ _ h H locs la hP hS hl; rw [hn] at z; exact z)
  | ldc k =>
    obtain rfl := hlen rfl
    have hn := hnx rfl
    have h : (match w_lk (w_k32 o) k with
      | some v => K (i + 1) ls (.int v :: st) μ
      | none => False) := h
    cases hk : w_lk (w_k32 o) k with
    | none => rw [hk] at h; exact h.elim
    | some v =>
      rw [hk] at h
      exact lv_ldc hx hb hown (hts _ (w_k32ok o hk)) hdec (by have z := hK _ _ _ _ h H locs la hP hS hl; rw [hn] at z; exact z)
  | ldc_w k =>
    obtain rfl := hlen rfl
    have hn := hnx rfl
    have h : (match w_lk (w_k32 o) k with
      | some v => K (i + 1) ls (.int v :: st) μ
      | none => False) := h
    cases hk : w_lk (w_k32 o) k with
    | none => rw [hk] at h; exact h.elim
    | some v =>
      rw [hk] at h
      exact lv_ldcw hx hb hown (hts _ (w_k32ok o hk)) hdec (by have z := hK _ _ _ _ h H locs la hP hS hl; rw [hn] at z; exact z)
  | ldc2_w k =>
    obtain rfl := hlen rfl
    have hn := hnx rfl
    have h : (match w_lk (w_k64 o) k with
      | some v => K (i + 1) ls (.long v :: st) μ
      | none => False) := h
    cases hk : w_lk (w_k64 o) k with
    | none => rw [hk] at h; exact h.elim
    | some v =>
      rw [hk] at h
      exact lv_ldc2 hx hb hown (hts _ (w_k64ok o hk)) hdec (by have z := hK _ _ _ _ h H locs la hP hS hl; rw [hn] at z; exact z)
  | iadd =>
    obtain rfl := hlen rfl
    have hn := hnx rfl
    obtain ⟨x, y, r, rfl, h⟩ := w_ii_e h
    exact lv_iadd hx hb hdec (by have z := hK _ _ _ _ h H locs la hP hS hl; rw [hn] at z; exact z)
  | isub =>
    obtain rfl := hlen rfl
    have hn := hnx rfl
    obtain ⟨x, y, r, rfl, h⟩ := w_ii_e h
    exact lv_isub hx hb hdec (by have z := hK _ _ _ _ h H locs la hP hS hl; rw [hn] at z; exact z)
  | imul =>
    obtain rfl := hlen rfl
    have hn := hnx rfl
    obtain ⟨x, y, r, rfl, h⟩ := w_ii_e h
    exact lv_imul hx hb hdec (by have z := hK _ _ _ _ h H locs la hP hS hl; rw [hn] at z; exact z)
  | iand =>
    obtain rfl := hlen rfl
    have hn := hnx rfl
    obtain ⟨x, y, r, rfl, h⟩ := w_ii_e h
    exact lv_iand hx hb hdec (by have z := hK _ _ _ _ h H locs la hP hS hl; rw [hn] at z; exact z)
  | ior =>
    obtain rfl := hlen rfl
    have hn := hnx rfl
    obtain ⟨x, y, r, rfl, h⟩ := w_ii_e h
    exact lv_ior hx hb hdec (by have z := hK _ _ _ _ h H locs la hP hS hl; rw [hn] at z; exact z)
  | ixor =>
    obtain rfl := hlen rfl
    have hn := hnx rfl
    obtain ⟨x, y, r, rfl, h⟩ := w_ii_e h
    exact lv_ixor hx hb hdec (by have z := hK _ _ _ _ h H locs la hP hS hl; rw [hn] at z; exact z)
  | ishl =>
    obtain rfl := hlen rfl
    have hn := hnx rfl
    obtain ⟨x, y, r, rfl, h⟩ := w_ii_e h
    exact lv_ishl hx hb hdec (by have z := hK _ _ _ _ h H locs la hP hS hl; rw [hn] at z; exact z)
  | ishr =>
    obtain rfl := hlen rfl
    have hn := hnx rfl
    obtain ⟨x, y, r, rfl, h⟩ := w_ii_e h
    exact lv_ishr hx hb hdec (by have z := hK _ _ _ _ h H locs la hP hS hl; rw [hn] at z; exact z)
  | idiv =>
    obtain rfl := hlen rfl
    have hn := hnx rfl
    obtain ⟨x, y, r, rfl, h⟩ := w_ii_e h
    exact lv_idiv hx hb hdec h.1 (by have z := hK _ _ _ _ h.2 H locs la hP hS hl; rw [hn] at z; exact z)
  | irem =>
    obtain rfl := hlen rfl
    have hn := hnx rfl
    obtain ⟨x, y, r, rfl, h⟩ := w_ii_e h
    exact lv_irem hx hb hdec h.1 (by have z := hK _ _ _ _ h.2 H locs la hP hS hl; rw [hn] at z; exact z)
  | iushr =>
    obtain rfl := hlen rfl
    have hn := hnx rfl
    obtain ⟨x, y, r, rfl, h⟩ := w_ii_e h
    exact lv_iushr hx hb hdec rfl (by have z := hK _ _ _ _ h H locs la hP hS hl; rw [hn] at z; exact z)
  | ladd =>
    obtain rfl := hlen rfl
    have hn := hnx rfl
    obtain ⟨x, y, r, rfl, h⟩ := w_ll_e h
    exact lv_ladd hx hb hdec (by have z := hK _ _ _ _ h H locs la hP hS hl; rw [hn] at z; exact z)
  | lsub =>
    obtain rfl := hlen rfl
    have hn := hnx rfl
    obtain ⟨x, y, r, rfl, h⟩ := w_ll_e h
    exact lv_lsub hx hb hdec (by have z := hK _ _ _ _ h H locs la hP hS hl; rw [hn] at z; exact z)
  | lmul =>
    obtain rfl := hlen rfl
    have hn := hnx rfl
    obtain ⟨x, y, r, rfl, h⟩ := w_ll_e h
    exact lv_lmul hx hb hdec (by have z := hK _ _ _ _ h H locs la hP hS hl; rw [hn] at z; exact z)
  | land =>
    obtain rfl := hlen rfl
    have hn := hnx rfl
    obtain ⟨x, y, r, rfl, h⟩ := w_ll_e h
    exact lv_land hx hb hdec (by have z := hK _ _ _ _ h H locs la hP hS hl; rw [hn] at z; exact z)
  | lor =>
    obtain rfl := hlen rfl
    have hn := hnx rfl
    obtain ⟨x, y, r, rfl, h⟩ := w_ll_e h
    exact lv_lor hx hb hdec (by have z := hK _ _ _ _ h H locs la hP hS hl; rw [hn] at z; exact z)
  | ldiv =>
    obtain rfl := hlen rfl
    have hn := hnx rfl
    obtain ⟨x, y, r, rfl, h⟩ := w_ll_e h
    exact lv_ldiv hx hb hdec h.1 (by have z := hK _ _ _ _ h.2 H locs la hP hS hl; rw [hn] at z; exact z)
  | lcmp =>
    obtain rfl := hlen rfl
    have hn := hnx rfl
    obtain ⟨x, y, r, rfl, h⟩ := w_ll_e h
    exact W.lcmp hx hb hdec (by have z := hK _ _ _ _ h H locs la hP hS hl; rw [hn] at z; exact z)
  | lshl =>
    obtain rfl := hlen rfl
    have hn := hnx rfl
    obtain ⟨x, y, r, rfl, h⟩ := w_li_e h
    exact lv_lshl hx hb hdec rfl (by have z := hK _ _ _ _ h H locs la hP hS hl; rw [hn] at z; exact z)
  | lshr =>
    obtain rfl := hlen rfl
    have hn := hnx rfl
    obtain ⟨x, y, r, rfl, h⟩ := w_li_e h
    exact lv_lshr hx hb hdec rfl (by have z := hK _ _ _ _ h H locs la hP hS hl; rw [hn] at z; exact z)
  | lushr =>
    obtain rfl := hlen rfl
    have hn := hnx rfl
    obtain ⟨x, y, r, rfl, h⟩ := w_li_e h
    exact lv_lushr hx hb hdec rfl (by have z := hK _ _ _ _ h H locs la hP hS hl; rw [hn] at z; exact z)
  | i2l =>
    obtain rfl := hlen rfl
    have hn := hnx rfl
    obtain ⟨x, r, rfl, h⟩ := w_i_e h
    exact lv_i2l hx hb hdec rfl (by have z := hK _ _ _ _ h H locs la hP hS hl; rw [hn] at z; exact z)
  | l2i =>
    obtain rfl := hlen rfl
    have hn := hnx rfl
    obtain ⟨x, r, rfl, h⟩ := w_l_e h
    exact lv_l2i hx hb hdec rfl (by have z := hK _ _ _ _ h H locs la hP hS hl; rw [hn] at z; exact z)
  | i2b =>
    obtain rfl := hlen rfl
    have hn := hnx rfl
    obtain ⟨x, r, rfl, h⟩ := w_i_e h
    exact lv_i2b hx hb hdec rfl (by have z := hK _ _ _ _ h H locs la hP hS hl; rw [hn] at z; exact z)
  | i2s =>
    obtain rfl := hlen rfl
    have hn := hnx rfl
    obtain ⟨x, r, rfl, h⟩ := w_i_e h
    exact lv_i2s hx hb hdec rfl (by have z := hK _ _ _ _ h H locs la hP hS hl; rw [hn] at z; exact z)
  | dup =>
    obtain rfl := hlen rfl
    have hn := hnx rfl
    unfold w_1 at h
    dsimp only at h
    split at h
    · exact lv_dup hx hb hdec rfl (by have z := hK _ _ _ _ h H locs la hP hS hl; rw [hn] at z; exact z)
    · exact lv_dup hx hb hdec rfl (by have z := hK _ _ _ _ h H locs la hP hS hl; rw [hn] at z; exact z)
    · exact h.elim
  | dup2 =>
    obtain rfl := hlen rfl
    have hn := hnx rfl
    unfold w_1 at h
    dsimp only at h
    split at h
    · exact lv_dup2_11 hx hb hdec rfl rfl (by have z := hK _ _ _ _ h H locs la hP hS hl; rw [hn] at z; exact z)
    · exact h.elim
  | pop =>
    obtain rfl := hlen rfl
    have hn := hnx rfl
    obtain ⟨x, r, rfl, h⟩ := w_i_e h
    exact lv_pop hx hb hdec rfl (by have z := hK _ _ _ _ h H locs la hP hS hl; rw [hn] at z; exact z)
  | goto off =>
    obtain rfl := hlen rfl
    unfold w_1 at h
    unfold w_tgB at htg
    dsimp only at h htg
    split at h
    · exact lv_goto hx hb hdec (of_decide_eq_true htg) (hK _ _ _ _ h H locs la hP hS hl)
    · exact h.elim
  | ifCond cd off =>
    obtain rfl := hlen rfl
    have hn := hnx rfl
    unfold w_1 at h
    unfold w_tgB at htg
    dsimp only at h htg
    split at h
    · obtain ⟨x, r, rfl, h⟩ := w_i_e h
      have ht2 := of_decide_eq_true htg
      cases cd with
      | eq => exact lv_if_eq hx hb hdec ht2 (fun z => hK _ _ _ _ (h.1 z) H locs la hP hS hl) (fun z => by have z := hK _ _ _ _ (h.2 z) H locs la hP hS hl; rw [hn] at z; exact z)
      | ne => exact lv_if_ne hx hb hdec ht2 (fun z => hK _ _ _ _ (h.2 z) H locs la hP hS hl) (fun z => by have z := hK _ _ _ _ (h.1 z) H locs la hP hS hl; rw [hn] at z; exact z)
      | lt => exact lv_if_lt hx hb hdec ht2 (fun z => hK _ _ _ _ (h.1 z) H locs la hP hS hl) (fun z => by have z := hK _ _ _ _ (h.2 z) H locs la hP hS hl; rw [hn] at z; exact z)
      | ge => exact lv_if_ge hx hb hdec ht2 (fun z => hK _ _ _ _ (h.1 z) H locs la hP hS hl) (fun z => by have z := hK _ _ _ _ (h.2 z) H locs la hP hS hl; rw [hn] at z; exact z)
      | gt => exact lv_if_gt hx hb hdec ht2 (fun z => hK _ _ _ _ (h.1 z) H locs la hP hS hl) (fun z => by have z := hK _ _ _ _ (h.2 z) H locs la hP hS hl; rw [hn] at z; exact z)
      | le => exact lv_if_le hx hb hdec ht2 (fun z => hK _ _ _ _ (h.1 z) H locs la hP hS hl) (fun z => by have z := hK _ _ _ _ (h.2 z) H locs la hP hS hl; rw [hn] at z; exact z)
    · exact h.elim
  | if_icmp cd off =>
    obtain rfl := hlen rfl
    have hn := hnx rfl
    unfold w_1 at h
    unfold w_tgB at htg
    dsimp only at h htg
    split at h
    · obtain ⟨x, y, r, rfl, h⟩ := w_ii_e h
      have ht2 := of_decide_eq_true htg
      cases cd with
      | eq => exact lv_icmp_eq hx hb hdec ht2 (fun z => hK _ _ _ _ (h.1 z) H locs la hP hS hl) (fun z => by have z := hK _ _ _ _ (h.2 z) H locs la hP hS hl; rw [hn] at z; exact z)
      | ne => exact lv_icmp_ne hx hb hdec ht2 (fun z => hK _ _ _ _ (h.2 z) H locs la hP hS hl) (fun z => by have z := hK _ _ _ _ (h.1 z) H locs la hP hS hl; rw [hn] at z; exact z)
      | lt => exact lv_icmp_lt hx hb hdec ht2 (fun z => hK _ _ _ _ (h.1 z) H locs la hP hS hl) (fun z => by have z := hK _ _ _ _ (h.2 z) H locs la hP hS hl; rw [hn] at z; exact z)
      | ge => exact lv_icmp_ge hx hb hdec ht2 (fun z => hK _ _ _ _ (h.1 z) H locs la hP hS hl) (fun z => by have z := hK _ _ _ _ (h.2 z) H locs la hP hS hl; rw [hn] at z; exact z)
      | gt => exact lv_icmp_gt hx hb hdec ht2 (fun z => hK _ _ _ _ (h.1 z) H locs la hP hS hl) (fun z => by have z := hK _ _ _ _ (h.2 z) H locs la hP hS hl; rw [hn] at z; exact z)
      | le => exact lv_icmp_le hx hb hdec ht2 (fun z => hK _ _ _ _ (h.1 z) H locs la hP hS hl) (fun z => by have z := hK _ _ _ _ (h.2 z) H locs la hP hS hl; rw [hn] at z; exact z)
    · exact h.elim
  | tableswitch df lo hi offs =>
    unfold w_1 at h
    unfold w_tgB at htg
    dsimp only at h htg
    split at h
    · next d0 ts =>
      dsimp only at htg
      rw [Bool.and_eq_true, Bool.and_eq_true] at htg
      obtain ⟨⟨g1, g2⟩, g3⟩ := htg
      have g1 := of_decide_eq_true g1
      have g2 := of_decide_eq_true g2
      have g3 := of_decide_eq_true g3
      obtain ⟨x, r, rfl, h⟩ := w_i_e h
      by_cases hout : x.toInt < lo ∨ hi < x.toInt
      · exact lv_tableOut hx hb hdec hout g1 (hK _ _ _ _ (h.2 hout) H locs la hP hS hl)
      · have h1 : ¬ x.toInt < lo := fun z => hout (Or.inl z)
        have h2 : ¬ hi < x.toInt := fun z => hout (Or.inr z)
        obtain ⟨j, hj⟩ : ∃ j : Nat, x.toInt = lo + j := ⟨(x.toInt - lo).toNat, by omega⟩
        have hjl : j < ts.length := by omega
        have hKt := w_sw_e ts lo j hjl h.1 hj
        have hol : (offs.toList.map (fun x => (pc : Int) + x))[j]? = (ts.map (fun t => (w_pc tb t : Int)))[j]? := by rw [g3]
        rw [List.getElem?_map, List.getElem?_map, List.getElem?_eq_getElem hjl] at hol
        cases ho : offs.toList[j]? with
        | none => rw [ho] at hol; cases hol
        | some of0 =>
          rw [ho] at hol
          have hoe := Option.some.inj hol
          refine lv_tableIn (off := of0) hx hb hdec h1 h2 ?_ hoe (hK _ _ _ _ hKt H locs la hP hS hl)
          rw [show (x.toInt - lo).toNat = j by omega, ← Array.getElem?_toList]
          exact ho
    · exact h.elim
  | getfield k =>
    obtain rfl := hlen rfl
    have hn := hnx rfl
    have h : (match w_lk (w_fl o) k with
      | some e => w_r st fun q r => (q < n ∧ sh q = .inl e.1) ∧ K (i + 1) ls (w_pv rf μ e.1 q e.2 :: r) μ
      | none => False) := h
    cases hk : w_lk (w_fl o) k with
    | none => rw [hk] at h; exact h.elim
    | some ee =>
      rw [hk] at h
      obtain ⟨ci, j⟩ := ee
      obtain ⟨q, r, rfl, ⟨hq, hsh⟩, h⟩ := w_r_e h
      obtain ⟨f1, f2, f3⟩ := w_flok o hk
      obtain ⟨c1, c2, c3, c4, c5⟩ := w_cls ci f1
      refine va_get (D := D) (ci := ci) (v := w_fv rf ad μ ci q j) (C := w_C ci) (T := w_T ci) (N := w_nf ci) hx hb hts c2 hown hK0 hP q ((w_w_at hq).trans (by rw [w_e_obj hsh])) c1 j f2 (hts _ f3) (fun x h9 => by rw [c5 j f2] at h9; exact h9) (w_get f2) hdec ?_
      have z := hK _ _ _ _ h H locs la hP hS hl
      rw [hn] at z
      rw [← w_pv_tr]
      exact z
  | putfield k =>
    obtain rfl := hlen rfl
    have hn := hnx rfl
    have h : (match w_lk (w_fl o) k with
      | some e => (match (w_T e.1 e.2).2.2.2 || w_fk e.1 e.2 with
        | false => w_ir st fun q x r => (q < n ∧ sh q = .inl e.1 ∧ w_fok (w_ty e.1 e.2) x) ∧ K (i + 1) ls r (w_up μ q e.2 x)
        | true => False)
      | none => False) := h
    cases hk : w_lk (w_fl o) k with
    | none => rw [hk] at h; exact h.elim
    | some ee =>
      rw [hk] at h
      obtain ⟨ci, j⟩ := ee
      dsimp only at h
      cases hfin : ((w_T ci j).2.2.2 || w_fk ci j) with
      | true => rw [hfin] at h; exact h.elim
      | false =>
        rw [hfin] at h
        rw [Bool.or_eq_false_iff] at hfin
        obtain ⟨q, x, r, rfl, ⟨hq, hsh, hfo⟩, h⟩ := w_ir_e h
        obtain ⟨f1, f2, f3⟩ := w_flok o hk
        obtain ⟨c1, c2, c3, c4, c5⟩ := w_cls ci f1
        have hnf : narrow (w_ty ci j) (.int x) = .int x ∧ fits (w_ty ci j) (.int x) = true := by
          unfold w_fok at hfo
          split at hfo
          · next hty => rw [hty]; exact ⟨rfl, rfl⟩
          · next hty =>
            rw [hty]
            rcases hfo with rfl | rfl <;> exact ⟨rfl, rfl⟩
          · exact hfo.elim
        refine va_put (D := D) (ci := ci) (v := .int x) (ty := w_ty ci j) (C := w_C ci) (T := w_T ci) (N := w_nf ci) hx hb hts c2 (w_ty ci) c3 c4 hown hK0 hP (w_D hap μ) hS q ((w_w_at hq).trans (by rw [w_e_obj hsh])) c1 j f2 (hts _ f3) (fun x h9 => by rw [c5 j f2] at h9; exact h9) hfin.1 (c3 j f2) hnf.1 hnf.2 (by simp [f2]) hdec (fun H1 locs1 hP1 hD1 hS1 => ?_)
        have z := hK _ _ _ _ h H1 locs1 la (by
          rw [← w_w_set (E := .inr (ci, ((List.range (w_nf ci)).map (w_fv rf ad μ ci q)).set j (.int x))) hq]
          · exact hP1
          · rw [w_e_obj hsh]
            congr 2
            refine (w_set f2 ?_ ?_).symm
            · unfold w_fv
              rw [hfin.2]
              simp [w_up]
            · intro a ha
              unfold w_fv
              simp [w_up, ha]) hS1 hl
        rw [hn] at z
        exact z
  | iaload =>
    obtain rfl := hlen rfl
    have hn := hnx rfl
    obtain ⟨q, j, r, rfl, ⟨hq, len, hsh, hin⟩, h⟩ := w_ir_e h
    exact va_iald hx hb hK0 hP q 0 ((w_w_at hq).trans (by rw [w_e_int hsh])) rfl hin hdec (by have z := hK _ _ _ _ h H locs la hP hS hl; rw [hn] at z; exact z)
  | baload =>
    obtain rfl := hlen rfl
    have hn := hnx rfl
    obtain ⟨q, j, r, rfl, ⟨hq, len, hsh, hin⟩, h⟩ := w_ir_e h
    exact va_zald hx hb hK0 hP q 1 ((w_w_at hq).trans (by rw [w_e_bool hsh])) rfl hin hdec (by have z := hK _ _ _ _ h H locs la hP hS hl; rw [hn] at z; exact z)
  | aaload =>
    obtain rfl := hlen rfl
    have hn := hnx rfl
    obtain ⟨q, j, r, rfl, hor, h⟩ := w_ir_e h
    rcases hor with ⟨hq, len, hsh, hin⟩ | ⟨hq, len, hsh, hin⟩
    · refine va_aldq hx hb hK0 hP q 2 ((w_w_at hq).trans (by rw [w_e_ref hsh])) rfl hin hdec ?_
      have z := hK _ _ _ _ h H locs la hP hS hl
      rw [hn] at z
      exact z
    · refine va_aldq hx hb hK0 hP q 3 ((w_w_at hq).trans (by rw [w_e_ref hsh])) rfl hin hdec ?_
      have z := hK _ _ _ _ h H locs la hP hS hl
      rw [hn] at z
      exact z
  | iastore =>
    obtain rfl := hlen rfl
    have hn := hnx rfl
    obtain ⟨q, j, x, r, rfl, ⟨hq, len, hsh, hin⟩, h⟩ := w_iir_e h
    refine va_iast hx hb hK0 hP (w_D hap μ) hS q 0 ((w_w_at hq).trans (by rw [w_e_int hsh])) rfl hin hdec (fun H1 locs1 hP1 hD1 hS1 => ?_)
    have z := hK _ _ _ _ h H1 locs1 la (by
      rw [← w_w_set (E := .inl (kc 0, len, .inl (upd (μ q) j.toNatClampNeg x))) hq]
      · exact hP1
      · rw [w_e_int hsh, w_up_s]) hS1 hl
    rw [hn] at z
    exact z
  | bastore =>
    obtain rfl := hlen rfl
    have hn := hnx rfl
    obtain ⟨q, j, x, r, rfl, ⟨⟨hq, len, hsh, hin⟩, hbit⟩, h⟩ := w_iir_e h
    refine va_zast hx hb hK0 hP (w_D hap μ) hS q 1 ((w_w_at hq).trans (by rw [w_e_bool hsh])) rfl hin hdec (fun H1 locs1 hP1 hD1 hS1 => ?_)
    have hx2 : vp_nar .boolean x = x := by rcases hbit with rfl | rfl <;> rfl
    rw [hx2] at hP1
    have z := hK _ _ _ _ h H1 locs1 la (by
      rw [← w_w_set (E := .inl (kc 1, len, .inl (upd (μ q) j.toNatClampNeg x))) hq]
      · exact hP1
      · rw [w_e_bool hsh, w_up_s]) hS1 hl
    rw [hn] at z
    exact z
  | arraylength =>
    obtain rfl := hlen rfl
    have hn := hnx rfl
    obtain ⟨q, r, rfl, ⟨hq, hsh⟩, h⟩ := w_r_e h
    exact va_alen hx hb hK0 hP q 0 ((w_w_at hq).trans (by rw [w_e_int hsh])) rfl rfl hdec (by have z := hK _ _ _ _ h H locs la hP hS hl; rw [hn] at z; exact z)
  | invokevirtual k =>
    obtain rfl := hlen rfl
    have hn := hnx rfl
    have h : w_call false (Γ k) st μ fun st' μ' => K (i + 1) ls st' μ' := h
    cases hg : Γ k with
    | none => rw [hg] at h; exact h.elim
    | some S =>
      rw [hg] at h
      unfold w_call at h
      dsimp only at h
      split at h
      · next hbb =>
        rw [Bool.and_eq_true, Bool.and_eq_true] at hbb
        obtain ⟨⟨b1, b2⟩, b3⟩ := hbb
        have b1 := eq_of_beq b1
        have e1 : (st.take S.2.2.1).reverse.reverse ++ st.drop S.2.2.1 = st := by rw [List.reverse_reverse, List.take_append_drop]
        have z := hΓ k S hg p e s m args below meth c D kc ad A H0 cc nL rty (MQ below Qc args s 0 0 free) E pc la (st.take S.2.2.1).reverse (st.drop S.2.2.1) μ H locs hl.2.1 (by rw [b1]; exact hdec) (by rw [List.length_reverse, List.length_take]; exact Nat.min_eq_left (Nat.le_of_ble_eq_true b2)) (Nat.le_of_ble_eq_true b3) h.1 hP hS (fun r μ' H1 locs1 hp hP1 hS1 => by
          have z := hK _ _ _ _ (h.2 r μ' hp) H1 locs1 la hP1 hS1 hl
          rw [hn] at z
          exact z)
        rw [e1] at z
        exact z
      · exact h.elim
  | invokestatic k =>
    obtain rfl := hlen rfl
    have hn := hnx rfl
    have h : w_call true (Γ k) st μ fun st' μ' => K (i + 1) ls st' μ' := h
    cases hg : Γ k with
    | none => rw [hg] at h; exact h.elim
    | some S =>
      rw [hg] at h
      unfold w_call at h
      dsimp only at h
      split at h
      · next hbb =>
        rw [Bool.and_eq_true, Bool.and_eq_true] at hbb
        obtain ⟨⟨b1, b2⟩, b3⟩ := hbb
        have b1 := eq_of_beq b1
        have e1 : (st.take S.2.2.1).reverse.reverse ++ st.drop S.2.2.1 = st := by rw [List.reverse_reverse, List.take_append_drop]
        have z := hΓ k S hg p e s m args below meth c D kc ad A H0 cc nL rty (MQ below Qc args s 0 0 free) E pc la (st.take S.2.2.1).reverse (st.drop S.2.2.1) μ H locs hl.2.1 (by rw [b1]; exact hdec) (by rw [List.length_reverse, List.length_take]; exact Nat.min_eq_left (Nat.le_of_ble_eq_true b2)) (Nat.le_of_ble_eq_true b3) h.1 hP hS (fun r μ' H1 locs1 hp hP1 hS1 => by
          have z := hK _ _ _ _ (h.2 r μ' hp) H1 locs1 la hP1 hS1 hl
          rw [hn] at z
          exact z)
        rw [e1] at z
        exact z
      · exact h.elim
  | ireturn =>
    obtain rfl := hlen rfl
    unfold w_1 at h
    dsimp only at h
    split at h
    · next x =>
      obtain ⟨hro, h⟩ := h
      unfold w_rok at hro
      split at hro
      · obtain ⟨q1, q2⟩ := hret _ _ H locs (fun z => by cases z) h hP hS
        exact W.zret (ty := .int) hx hb hr rfl q1 q2 hdec
      · obtain ⟨q1, q2⟩ := hret _ _ H locs (fun z => by cases z) h hP hS
        exact W.zret (ty := .boolean) hx hb hr (by rcases hro with rfl | rfl <;> rfl) q1 q2 hdec
      · exact hro.elim
    · exact h.elim
  | return_ =>
    obtain rfl := hlen rfl
    unfold w_1 at h
    dsimp only at h
    split at h
    · obtain ⟨q1, q2⟩ := hret _ _ H locs (fun _ => rfl) h hP hS
      exact W.vret hx hb hr q1 q2 hdec
    · exact h.elim
  | _ => exact h.elim
end WSOUND
end
section
/-! from the pure walk of a method to its contract; from contracts to calls -/
def w_B (D : va_G) (kc : Nat → ClassId) (sh : wSh) (rf : Nat → Nat → Nat) (n : Nat) (ad : Nat → Nat) (A : Nat → Prop) (μ : wM) (t : State) : Prop := va_P D vwCl (w_w kc sh rf n ad μ) t.heap ∧ va_K D vwCl (w_tys kc) t ∧ va_D A (w_w kc sh rf n ad μ)
def w_P (D : va_G) (kc : Nat → ClassId) (sh : wSh) (rf : Nat → Nat → Nat) (n : Nat) (ad : Nat → Nat) (sz : Nat) (μ : wM) (U : State) : Prop := U.heap.size = sz ∧ va_P D vwCl (w_w kc sh rf n ad μ) U.heap ∧ va_K D vwCl (w_tys kc) U ∧ va_D (fun _ => True) (w_w kc sh rf n ad μ) ∧ w_NL U
def w_Q (rty : Option FieldType) (post : Int32 → wM → Prop) (B : wM → State → Prop) (A : Nat → Prop) : Array Value → State → Outcome → State → Prop := match rty with
  | none => va_Qv (fun μ => post 0 μ) B A
  | some _ => va_Qi post B A
def w_Met (l : Launch) (y : MethodName) (bytes : ByteArray) (maxL : Nat) (rty : Option FieldType) (d : Nat) (sh : wSh) (rf : Nat → Nat → Nat) (n : Nat) (pre : List Value → wM → Prop) (post : List Value → wM → Int32 → wM → Prop) : Prop :=
  ∀ (D : va_G) (kc : Nat → ClassId) (ad : Nat → Nat) (sz : Nat) (as : List Value) (μ : wM), pre as μ →
    Met l y (.code y bytes maxL rty :: w_tbl) (w_rm d) (va_Pc (as.map (w_tr ad)) (w_P D kc sh rf n ad sz μ)) (w_Q rty (post as μ) (w_B D kc sh rf n ad (w_A n ad sz)) (w_A n ad sz)) 0 0 (w_A n ad sz)
def w_ent : List Value → wL
  | [] => []
  | v :: r => if v.category = 2 then some v :: none :: w_ent r else some v :: w_ent r
def w_entry (nL : Nat) (as : List Value) : wL := w_ent as ++ List.replicate (nL - (w_ent as).length) none
theorem w_ent_args (ad : Nat → Nat) : ∀ (as : List Value) (j i : Nat) (v : Value), (w_ent as)[i]? = some (some v) → (j + i, w_tr ad v) ∈ lv_args j (as.map (w_tr ad)) := by
  intro as
  induction as with
  | nil => intro j i v h; simp [w_ent] at h
  | cons a as ih =>
    intro j i v h
    unfold w_ent at h
    rw [List.map_cons]
    unfold lv_args
    rw [w_tr_cat]
    by_cases hc : a.category = 2
    · rw [if_pos hc] at h ⊢
      match i, h with
      | 0, h => cases h; exact List.mem_cons_self
      | 1, h => cases h
      | i + 2, h =>
        have := ih (j + 2) i v (by simpa using h)
        rw [show j + (i + 2) = j + 2 + i by omega]
        exact List.mem_cons_of_mem _ this
    · rw [if_neg hc] at h ⊢
      match i, h with
      | 0, h => cases h; exact List.mem_cons_self
      | i + 1, h =>
        have := ih (j + 1) i v (by simpa using h)
        rw [show j + (i + 1) = j + 1 + i by omega]
        exact List.mem_cons_of_mem _ this
theorem w_ent_len (ad : Nat → Nat) : ∀ (as : List Value), (lg_sl (as.map (w_tr ad))).length = (w_ent as).length := by
  intro as
  induction as with
  | nil => rfl
  | cons a as ih =>
    unfold w_ent
    rw [List.map_cons]
    unfold lg_sl at ih ⊢
    rw [List.flatMap_cons, List.length_append, ih, w_tr_cat]
    by_cases hc : a.category = 2
    · rw [if_pos hc, if_pos hc]
      simp
      omega
    · rw [if_neg hc, if_neg hc]
      simp
      omega
theorem w_lok_entry (ad : Nat → Nat) {nL : Nat} {as : List Value} (h : (w_ent as).length ≤ nL) : w_lok ad nL (w_entry nL as) ((lg_sl (as.map (w_tr ad)) ++ List.replicate (nL - (lg_sl (as.map (w_tr ad))).length) Slot.unset).toArray) := by
  have h1 := lv_entry (as.map (w_tr ad)) (n := nL) (by rw [w_ent_len]; exact h)
  refine ⟨by unfold w_entry; simp; omega, h1.1, h1.2.1, fun q hq => ?_⟩
  obtain ⟨i, w⟩ := q
  obtain ⟨v, hv, rfl⟩ := w_pics_mem.mp hq
  unfold w_entry at hv
  by_cases hi : i < (w_ent as).length
  · rw [List.getElem?_append_left hi] at hv
    have := w_ent_args ad as 0 i v hv
    rw [Nat.zero_add] at this
    exact h1.2.2 _ this
  · rw [List.getElem?_append_right (by omega)] at hv
    have := List.eq_of_mem_replicate (List.mem_of_getElem? hv)
    cases this
theorem w_NL.warm {s U : State} (hW : s.WarmedH U.vm) (h : w_NL s) : w_NL U := ⟨h.1.warmM hW, h.2.warmM hW⟩
theorem w_P.blind {D : va_G} {kc : Nat → ClassId} {sh : wSh} {rf : Nat → Nat → Nat} {n : Nat} {ad : Nat → Nat} {sz : Nat} {μ : wM} {av : List Value} : FrameBlind (va_Pc av (w_P D kc sh rf n ad sz μ)) := by
  intro a U g mk q
  obtain ⟨q0, q1, qP, qK, qD, qN⟩ := q
  exact ⟨q0, q1, qP, va_K.moved (u := U) (U := U.calling g mk a) (Vm.Alike.refl U.vm) qK, qD, ⟨va_Nw.same rfl rfl qN.1, va_Nw.same rfl rfl qN.2⟩⟩
section WMETH
variable {l : Launch} {sh : wSh} {rf : Nat → Nat → Nat} {n d d' o : Nat} {y : MethodName} {bytes : ByteArray} {maxL : Nat} {rty : Option FieldType} {pre : List Value → wM → Prop} {post : List Value → wM → Int32 → wM → Prop}
theorem w_n_sim {p : Program} {e : Env} {s : State} {m : MethodId} {args : Array Value} {below : List Frame} {meth : Method} {c : Code} {D : va_G} {kc : Nat → ClassId} {ad : Nat → Nat} {A : Nat → Prop} {H0 : Heap} {cc : ByteArray} {nL : Nat} {Qc : Array Value → State → Outcome → State → Prop} {free : Addr → Prop}
    {Γ : Nat → Option wS} {tb : wT} {ret : Int32 → wM → Prop} (E : w_env p s m args meth c D kc n ad A H0 cc nL o rty) (hok : w_ok cc tb = true)
    (hΓ : ∀ (idx : Nat) (S : wS), Γ idx = some S → w_Call l o idx S d sh rf n)
    (hret : ∀ (r : Int32) (μ : wM) (H : Heap) (locs : List Loc), (rty = none → r = 0) → ret r μ → va_P D vwCl (w_w kc sh rf n ad μ) H → va_S A H0 H locs → (∀ t : State, t.heap = H → s.WarmedH t.vm → Qc args s (.returned (w_ov rty r)) t) ∧ ∀ q ∈ locs, free q.base) :
    w_cl o Γ sh rf n rty ret tb (w_sim p l e (w_rm d) s m args below meth c D kc sh rf n ad A H0 nL (MQ below Qc args s 0 0 free) tb) := by
  intro cut fuel
  induction fuel with
  | zero => intro i ls st μ h; exact h
  | succ f ih =>
    intro i ls st μ h
    have h : (match w_at tb i with
      | none => False
      | some t => w_1 o Γ sh rf n rty ret t.1 t.2.2 (fun j ls' st' μ' => match cut j with
        | true => w_sim p l e (w_rm d) s m args below meth c D kc sh rf n ad A H0 nL (MQ below Qc args s 0 0 free) tb j ls' st' μ'
        | false => w_n o Γ sh rf n rty ret tb cut (w_sim p l e (w_rm d) s m args below meth c D kc sh rf n ad A H0 nL (MQ below Qc args s 0 0 free) tb) f j ls' st' μ') i ls st μ) := h
    cases ht : w_at tb i with
    | none => rw [ht] at h; exact h.elim
    | some t =>
      rw [ht] at h
      refine w_step E hok hΓ hret ?_ ht h
      intro j ls' st' μ' hj
      split at hj
      · exact hj
      · exact ih _ _ _ _ hj
set_option maxHeartbeats 4000000 in
/-- a method's contract out of its pure walk -/
theorem w_meth {Γ : Nat → Option wS} {tb : wT} (hy : plainName y.cls = true) (hcls : y.cls = w_C o) (hok : w_ok bytes tb = true) (hpc : w_pc tb 0 = 0)
    (hΓ : ∀ (idx : Nat) (S : wS), Γ idx = some S → w_Call l o idx S d sh rf n)
    (hlen : ∀ as μ, pre as μ → (w_ent as).length ≤ maxL)
    (vc : ∀ (as : List Value) (μ : wM), pre as μ → ∀ K : wK, w_cl o Γ sh rf n rty (post as μ) tb K → K 0 (w_entry maxL as) [] μ) : w_Met l y bytes maxL rty d sh rf n pre post := by
  intro D kc ad sz as μ hpre
  refine Met.ofW (cc := bytes) (maxL := maxL) (ret := rty) hy rfl ?_
  intro p e s m args below meth c s₁ B hml hv
  obtain ⟨rfl, hsz, hP, hK, hD0, hNL⟩ := hv
  have hts := atoms_spec (ws := .code y bytes maxL rty :: w_tbl) B.pre
  have hown : s.vm.findClass (w_C o) = some m.cls := by rw [← hcls]; exact findClass_of_methodNamed B.named
  subst hsz
  have hap : w_ap n ad (w_A n ad s.heap.size) := ⟨(w_D' hD0).1, fun i hi => Or.inl ⟨i, hi, rfl⟩⟩
  have hA : ∀ q : Nat, s.heap.size ≤ q → w_A n ad s.heap.size q := fun q h => Or.inr h
  have E : w_env p s m (as.map (w_tr ad)).toArray meth c D kc n ad (w_A n ad s.heap.size) s.heap bytes maxL o rty := ⟨B.exec, B.bytes, hml, hown, fun w hw => hts w (List.mem_cons_of_mem _ hw), hK, hNL, hA, hap, B.notSynchronized, B.returns⟩
  rw [lg_entry_eq]
  have hcl := w_n_sim (l := l) (sh := sh) (rf := rf) (d := d) (e := e) (below := below) (Γ := Γ) (tb := tb) (ret := post as μ) (Qc := w_Q rty (post as μ) (w_B D kc sh rf n ad (w_A n ad s.heap.size)) (w_A n ad s.heap.size)) (free := w_A n ad s.heap.size) E hok hΓ (by
    intro r μ' H locs hr0 hp hP1 hS1
    refine ⟨fun t ht hW => ?_, hS1.2.2⟩
    have hB : w_B D kc sh rf n ad (w_A n ad s.heap.size) μ' t := ⟨by rw [ht]; exact hP1, va_K.moved hW.alike hK, w_D hap μ'⟩
    cases rty with
    | none => exact ⟨⟨μ', rfl, by rw [← hr0 rfl]; exact hp, hB⟩, hS1.F ht⟩
    | some ty => exact ⟨⟨r, μ', rfl, hp, hB⟩, hS1.F ht⟩)
  have h0 := vc as μ hpre _ hcl s.heap [] _ hP va_S.rf (w_lok_entry ad (hlen as μ hpre))
  rw [hpc] at h0
  exact h0
theorem w_good {y : MethodName} {bytes : ByteArray} {maxL : Nat} {rty : Option FieldType} (h : Cond.code y bytes maxL rty ∈ w_tbl) : GoodIn w_tbl (.code y bytes maxL rty :: w_tbl) := by
  intro w hw
  have key : ∀ w ∈ w_tbl, w ∈ w_tbl ∧ ((w.onTables && w.keeps) = true ∨ ∃ ty, w = .arrayClass ty) := fun w hw => ⟨hw, good_of_word (List.mem_filter.mp hw).2⟩
  rcases List.mem_cons.mp hw with rfl | hw
  · exact key _ h
  · exact key _ hw
theorem w_cat_sum {ad : Nat → Nat} : ∀ (rest : List Value), ((rest.map (w_tr ad)).map fun v => v.category).sum ≤ 2 * rest.length := by
  intro rest
  induction rest with
  | nil => exact Nat.le_refl _
  | cons a r ih =>
    rw [List.map_cons, List.map_cons, List.sum_cons, List.length_cons]
    have := lv_cat (w_tr ad a)
    omega
set_option maxHeartbeats 4000000 in
theorem w_behind {p : Program} {e : Env} {s : State} {m : MethodId} {args : Array Value} {below : List Frame} {meth : Method} {c : Code} {D : va_G} {kc : Nat → ClassId} {ad : Nat → Nat} {A : Nat → Prop} {H0 : Heap} {cc : ByteArray} {nL : Nat} {rt : Option FieldType} {Q : State → Prop} {R : Room} {a : Array Value} {st0 : List Value}
    (E : w_env p s m args meth c D kc n ad A H0 cc nL o rt) {pc : Nat} {la : Array Slot} {as rest : List Value} {μ : wM} {H : Heap} {locs : List Loc} (hS : va_S A H0 H locs)
    (hrun : va_Run p l e R s m args below meth c H locs 0 0 0 0 (F0 m pc la st0) (rest.map (w_tr ad)) (w_Q rty (post as μ) (w_B D kc sh rf n ad (w_A n ad H.size)) (w_A n ad H.size) a) (w_A n ad H.size))
    (kk : ∀ (r : Int32) (μ' : wM) (H1 : Heap) (locs1 : List Loc), post as μ r μ' → va_P D vwCl (w_w kc sh rf n ad μ') H1 → va_S A H0 H1 locs1 → W p l e R s m args below meth c H1 locs1 0 0 Q (F0 m (pc + 3) la ((w_pr rty.isNone r rest).map (w_tr ad)))) :
    W p l e R s m args below meth c H locs 0 0 Q (F0 m pc la st0) := by
  obtain ⟨hx, hb, hml, hown, hts, hK0, hNL, hA, hap, hlocks, hr⟩ := E
  have hf : ∀ q, w_A n ad H.size q → A q := by
    rintro q (⟨k, hk, rfl⟩ | h)
    · exact hap.2 k hk
    · exact hA q (Nat.le_trans hS.1 h)
  cases rty with
  | none =>
    refine va_callv (a := a) (rest := rest.map (w_tr ad)) hrun hS (fun q _ h => hf q h) hf (fun u t H1 locs1 ht hvm hp hB hz hk hS1 => ?_)
    exact kk 0 u H1 locs1 hp (by rw [← ht]; exact hB.1) hS1
  | some ty =>
    refine va_calli (a := a) (rest := rest.map (w_tr ad)) hrun hS (fun q _ h => hf q h) hf (fun r u t H1 locs1 ht hvm hp hB hz hk hS1 => ?_)
    exact kk r u H1 locs1 hp (by rw [← ht]; exact hB.1) hS1
theorem w_pre_at {s : State} {D : va_G} {kc : Nat → ClassId} {ad : Nat → Nat} {A : Nat → Prop} {μ : wM} {H : Heap} (hK0 : va_K D vwCl (w_tys kc) s) (hNL : w_NL s) (hap : w_ap n ad A) (hP : va_P D vwCl (w_w kc sh rf n ad μ) H) : ∀ U : State, U.heap = H → s.WarmedH U.vm → w_P D kc sh rf n ad H.size μ U :=
  fun U hU hW => ⟨by rw [hU], by rw [hU]; exact hP, va_K.moved hW.alike hK0, w_D ⟨hap.1, fun _ _ => trivial⟩ μ, hNL.warm hW⟩
set_option maxHeartbeats 4000000 in
/-- a static call -/
theorem w_callS {idx na : Nat} (hM : w_Met l y bytes maxL rty d' sh rf n pre post) (hcode : Cond.code y bytes maxL rty ∈ w_tbl) (hlink : Cond.methodLink (w_C o) idx y ∈ w_tbl) (hst : Cond.static y ∈ w_tbl) (hini : Cond.initialized y.cls ∈ w_tbl)
    (hd : y.cls ≠ "java/lang/invoke/MethodHandle" ∧ y.cls ≠ "java/lang/invoke/VarHandle" ∧ (parseMethodDescriptor y.desc).map (fun d => d.parameters.length) = some na) (hdd : d' + 1 ≤ d) (hmx : maxL ≤ 21) : w_Call l o idx (true, rty.isNone, na, pre, post) d sh rf n := by
  intro p e s m args below meth c D kc ad A H0 cc nL rt Q E pc la as rest μ H locs hla hdg hlen hrest hpre hP hS kk
  obtain ⟨hx, hb, hml, hown, hts, hK0, hNL, hA, hap, hlocks, hr⟩ := id E
  refine w_behind (rty := rty) (post := post) (a := (as.map (w_tr ad)).toArray) E hS ?_ kk
  have hs := w_cat_sum (ad := ad) rest
  refine va_runS (As := as.map (w_tr ad)) (rest := rest.map (w_tr ad)) (n := na) (nL := nL) ⟨hx, hb, hml, hown, hts⟩ (hM D kc ad H.size as μ hpre) ⟨callB_of na hts (w_good hcode) rfl rfl rfl (hts _ hini) (hts _ hlink) hd ⟨hdd, ?_⟩, hts _ hst⟩ ⟨w_P.blind, fun U hU hW => ⟨rfl, w_pre_at hK0 hNL hap hP U hU hW⟩⟩ rfl (by rw [List.length_map]; exact hlen) hla ?_ ?_ hdg ⟨Nat.le_refl _, Nat.le_refl _⟩
  · show 8 + (maxL + 11) + 40 * d' ≤ 40 * d
    omega
  · show (as.reverse ++ rest).map (w_tr ad) = (as.map (w_tr ad)).reverse ++ rest.map (w_tr ad)
    rw [List.map_append, List.map_reverse]
  · show 2 * 0 + _ ≤ 8
    omega
set_option maxHeartbeats 4000000 in
/-- a static call of a nest mate's private method -/
theorem w_callSN {idx na : Nat} {host : String} (hM : w_Met l y bytes maxL rty d' sh rf n pre post) (hcode : Cond.code y bytes maxL rty ∈ w_tbl) (hlink : ∀ U, w_NL U → va_Nw (.methodLinkNest (w_C o) idx y host) U) (hst : Cond.static y ∈ w_tbl) (hini : Cond.initialized y.cls ∈ w_tbl)
    (hd : y.cls ≠ "java/lang/invoke/MethodHandle" ∧ y.cls ≠ "java/lang/invoke/VarHandle" ∧ (parseMethodDescriptor y.desc).map (fun d => d.parameters.length) = some na) (hdd : d' + 1 ≤ d) (hmx : maxL ≤ 21) : w_Call l o idx (true, rty.isNone, na, pre, post) d sh rf n := by
  intro p e s m args below meth c D kc ad A H0 cc nL rt Q E pc la as rest μ H locs hla hdg hlen hrest hpre hP hS kk
  obtain ⟨hx, hb, hml, hown, hts, hK0, hNL, hA, hap, hlocks, hr⟩ := id E
  refine w_behind (rty := rty) (post := post) (a := (as.map (w_tr ad)).toArray) E hS ?_ kk
  have hs := w_cat_sum (ad := ad) rest
  refine va_runSN (As := as.map (w_tr ad)) (rest := rest.map (w_tr ad)) (n := na) (nL := nL) ⟨hx, hb, hml, hown, hts⟩ (hM D kc ad H.size as μ hpre) ⟨va_cnB na hts (w_good hcode) rfl rfl rfl (hlink s hNL) (hts _ hini) hd ⟨hdd, ?_⟩, hts _ hst, trivial⟩ ⟨w_P.blind, fun U hU hW => ⟨rfl, w_pre_at hK0 hNL hap hP U hU hW⟩⟩ rfl (by rw [List.length_map]; exact hlen) hla ?_ ?_ hdg ⟨Nat.le_refl _, Nat.le_refl _⟩
  · show 8 + (maxL + 11) + 40 * d' ≤ 40 * d
    omega
  · show (as.reverse ++ rest).map (w_tr ad) = (as.map (w_tr ad)).reverse ++ rest.map (w_tr ad)
    rw [List.map_append, List.map_reverse]
  · show 2 * 0 + _ ≤ 8
    omega
set_option maxHeartbeats 4000000 in
/-- a call of an object's method -/
theorem w_callV {idx na ci : Nat} (hM : w_Met l y bytes maxL rty d' sh rf n pre post) (hci : ci < 9) (hrecv : ∀ as μ, pre as μ → ∃ q as', as = .ref q :: as' ∧ q < n ∧ sh q = .inl ci) (hcode : Cond.code y bytes maxL rty ∈ w_tbl) (hlink : Cond.methodLink (w_C o) idx y ∈ w_tbl) (hin : Cond.instanceMethod y ∈ w_tbl) (hsel : Cond.selects (w_C ci) y y ∈ w_tbl) (hini : Cond.initialized y.cls ∈ w_tbl)
    (hd : y.cls ≠ "java/lang/invoke/MethodHandle" ∧ y.cls ≠ "java/lang/invoke/VarHandle" ∧ (parseMethodDescriptor y.desc).map (fun d => d.parameters.length) = some na) (hdd : d' + 1 ≤ d) (hmx : maxL ≤ 21) : w_Call l o idx (false, rty.isNone, na + 1, pre, post) d sh rf n := by
  intro p e s m args below meth c D kc ad A H0 cc nL rt Q E pc la as rest μ H locs hla hdg hlen hrest hpre hP hS kk
  obtain ⟨hx, hb, hml, hown, hts, hK0, hNL, hA, hap, hlocks, hr⟩ := id E
  have hs := w_cat_sum (ad := ad) rest
  have hM0 := hM D kc ad H.size as μ hpre
  obtain ⟨q, as', rfl, hq, hsh⟩ := hrecv as μ hpre
  obtain ⟨c1, -⟩ := w_cls ci hci
  refine w_behind (rty := rty) (post := post) (as := .ref q :: as') (a := (Value.ref (ad q) :: as'.map (w_tr ad)).toArray) E hS ?_ kk
  refine va_runV (C := w_C ci) (b := ad q) (As := as'.map (w_tr ad)) (rest := rest.map (w_tr ad)) (n := na) (nL := nL) ⟨hx, hb, hml, hown, hts⟩ hM0 ⟨callB_of na hts (w_good hcode) rfl rfl rfl (hts _ hini) (hts _ hlink) hd ⟨hdd, ?_⟩, hts _ hin, hts _ hsel⟩ ⟨w_P.blind, va_recv hK0 hP (ci := ci) (q0 := q) c1 ((w_w_at hq).trans (by rw [w_e_obj hsh])), fun U hU hW => ⟨rfl, w_pre_at hK0 hNL hap hP U hU hW⟩⟩ rfl (by rw [List.length_map]; simpa using hlen) hla ?_ ?_ hdg ⟨Nat.le_refl _, Nat.le_refl _⟩
  · show 8 + (maxL + 11) + 40 * d' ≤ 40 * d
    omega
  · show ((Value.ref q :: as').reverse ++ rest).map (w_tr ad) = (as'.map (w_tr ad)).reverse ++ Value.ref (ad q) :: rest.map (w_tr ad)
    rw [List.map_append, List.map_reverse, List.map_cons, List.reverse_cons, List.append_assoc]
    rfl
  · show 2 * 0 + _ ≤ 8
    omega
end WMETH
end
