section
-- ===== PART A: goes FIRST, ahead of the names: the tables' words, and 'selects' of the private methods out of them =====
/-- a private method of a class that the tables say can be made, by its rows of tables_1 -/
def lw_okq (q : MethodName × Nat) : Prop := (q.1.cls ≠ "java/lang/invoke/MethodHandle" ∧ q.1.cls ≠ "java/lang/invoke/VarHandle") ∧ Cond.instantiable q.1.cls q.2 ∈ tables_1 ∧ Cond.privateMethod q.1 ∈ tables_1 ∧ Cond.instanceMethod q.1 ∈ tables_1
theorem lw_p0 : lw_okq (⟨"VotedBank$Crossing", "vote", "(I)I"⟩, 8) := ⟨⟨by decide +kernel, by decide +kernel⟩, List.mem_of_getElem? (i := 343) (by decide +kernel), List.mem_of_getElem? (i := 508) (by decide +kernel), List.mem_of_getElem? (i := 509) (by decide +kernel)⟩
theorem lw_p1 : lw_okq (⟨"VotedBank$Crossing", "isAboard", "(I)Z"⟩, 8) := ⟨⟨by decide +kernel, by decide +kernel⟩, List.mem_of_getElem? (i := 343) (by decide +kernel), List.mem_of_getElem? (i := 512) (by decide +kernel), List.mem_of_getElem? (i := 513) (by decide +kernel)⟩
theorem lw_p2 : lw_okq (⟨"VotedBank$Crossing", "listen", "(II)V"⟩, 8) := ⟨⟨by decide +kernel, by decide +kernel⟩, List.mem_of_getElem? (i := 343) (by decide +kernel), List.mem_of_getElem? (i := 516) (by decide +kernel), List.mem_of_getElem? (i := 517) (by decide +kernel)⟩
theorem lw_p3 : lw_okq (⟨"VotedBank$Law", "learn", "(LVotedBank$River;IIII)V"⟩, 9) := ⟨⟨by decide +kernel, by decide +kernel⟩, List.mem_of_getElem? (i := 141) (by decide +kernel), List.mem_of_getElem? (i := 531) (by decide +kernel), List.mem_of_getElem? (i := 532) (by decide +kernel)⟩
theorem lw_p4 : lw_okq (⟨"VotedBank$Law", "untold", "(I)I"⟩, 9) := ⟨⟨by decide +kernel, by decide +kernel⟩, List.mem_of_getElem? (i := 141) (by decide +kernel), List.mem_of_getElem? (i := 545) (by decide +kernel), List.mem_of_getElem? (i := 546) (by decide +kernel)⟩
theorem lw_p5 : lw_okq (⟨"VotedBank$Law", "result", "(II)I"⟩, 9) := ⟨⟨by decide +kernel, by decide +kernel⟩, List.mem_of_getElem? (i := 141) (by decide +kernel), List.mem_of_getElem? (i := 549) (by decide +kernel), List.mem_of_getElem? (i := 550) (by decide +kernel)⟩
theorem lw_p6 : lw_okq (⟨"VotedBank$Crossing", "comesTrue", "(I)Z"⟩, 8) := ⟨⟨by decide +kernel, by decide +kernel⟩, List.mem_of_getElem? (i := 343) (by decide +kernel), List.mem_of_getElem? (i := 563) (by decide +kernel), List.mem_of_getElem? (i := 564) (by decide +kernel)⟩
theorem lw_p7 : lw_okq (⟨"VotedBank$Crossing", "abstains", "(II)Z"⟩, 8) := ⟨⟨by decide +kernel, by decide +kernel⟩, List.mem_of_getElem? (i := 343) (by decide +kernel), List.mem_of_getElem? (i := 581) (by decide +kernel), List.mem_of_getElem? (i := 582) (by decide +kernel)⟩
theorem lw_p8 : lw_okq (⟨"VotedBank$Tape", "addWord", "(ILjava/lang/String;)I"⟩, 10) := ⟨⟨by decide +kernel, by decide +kernel⟩, List.mem_of_getElem? (i := 274) (by decide +kernel), List.mem_of_getElem? (i := 671) (by decide +kernel), List.mem_of_getElem? (i := 672) (by decide +kernel)⟩
theorem lw_p9 : lw_okq (⟨"VotedBank$Tape", "isSpelled", "(IILjava/lang/String;I)Z"⟩, 10) := ⟨⟨by decide +kernel, by decide +kernel⟩, List.mem_of_getElem? (i := 274) (by decide +kernel), List.mem_of_getElem? (i := 723) (by decide +kernel), List.mem_of_getElem? (i := 724) (by decide +kernel)⟩
theorem lw_p10 : lw_okq (⟨"VotedBank$Tape", "addToken", "(III)V"⟩, 10) := ⟨⟨by decide +kernel, by decide +kernel⟩, List.mem_of_getElem? (i := 274) (by decide +kernel), List.mem_of_getElem? (i := 727) (by decide +kernel), List.mem_of_getElem? (i := 728) (by decide +kernel)⟩
theorem lw_p11 : lw_okq (⟨"VotedBank$Tape", "addNumber", "(I)I"⟩, 10) := ⟨⟨by decide +kernel, by decide +kernel⟩, List.mem_of_getElem? (i := 274) (by decide +kernel), List.mem_of_getElem? (i := 734) (by decide +kernel), List.mem_of_getElem? (i := 735) (by decide +kernel)⟩
theorem lw_p12 : lw_okq (⟨"VotedBank$Parser", "startsLine", "(I)Z"⟩, 5) := ⟨⟨by decide +kernel, by decide +kernel⟩, List.mem_of_getElem? (i := 316) (by decide +kernel), List.mem_of_getElem? (i := 798) (by decide +kernel), List.mem_of_getElem? (i := 799) (by decide +kernel)⟩
theorem lw_p13 : lw_okq (⟨"VotedBank$Parser", "blamed", "(I)Z"⟩, 5) := ⟨⟨by decide +kernel, by decide +kernel⟩, List.mem_of_getElem? (i := 316) (by decide +kernel), List.mem_of_getElem? (i := 802) (by decide +kernel), List.mem_of_getElem? (i := 803) (by decide +kernel)⟩
theorem lw_p14 : lw_okq (⟨"VotedBank$Parser", "readLaw", "()Z"⟩, 5) := ⟨⟨by decide +kernel, by decide +kernel⟩, List.mem_of_getElem? (i := 316) (by decide +kernel), List.mem_of_getElem? (i := 806) (by decide +kernel), List.mem_of_getElem? (i := 807) (by decide +kernel)⟩
theorem lw_p15 : lw_okq (⟨"VotedBank$Parser", "readSum", "()Z"⟩, 5) := ⟨⟨by decide +kernel, by decide +kernel⟩, List.mem_of_getElem? (i := 316) (by decide +kernel), List.mem_of_getElem? (i := 811) (by decide +kernel), List.mem_of_getElem? (i := 812) (by decide +kernel)⟩
def lw_privs_1 : List (MethodName × Nat) := [(⟨"VotedBank$Crossing", "vote", "(I)I"⟩, 8), (⟨"VotedBank$Crossing", "isAboard", "(I)Z"⟩, 8), (⟨"VotedBank$Crossing", "listen", "(II)V"⟩, 8), (⟨"VotedBank$Law", "learn", "(LVotedBank$River;IIII)V"⟩, 9), (⟨"VotedBank$Law", "untold", "(I)I"⟩, 9), (⟨"VotedBank$Law", "result", "(II)I"⟩, 9), (⟨"VotedBank$Crossing", "comesTrue", "(I)Z"⟩, 8), (⟨"VotedBank$Crossing", "abstains", "(II)Z"⟩, 8), (⟨"VotedBank$Tape", "addWord", "(ILjava/lang/String;)I"⟩, 10), (⟨"VotedBank$Tape", "isSpelled", "(IILjava/lang/String;I)Z"⟩, 10), (⟨"VotedBank$Tape", "addToken", "(III)V"⟩, 10), (⟨"VotedBank$Tape", "addNumber", "(I)I"⟩, 10), (⟨"VotedBank$Parser", "startsLine", "(I)Z"⟩, 5), (⟨"VotedBank$Parser", "blamed", "(I)Z"⟩, 5), (⟨"VotedBank$Parser", "readLaw", "()Z"⟩, 5), (⟨"VotedBank$Parser", "readSum", "()Z"⟩, 5)]
theorem lw_r1 : ∀ q ∈ lw_privs_1, lw_okq q := List.forall_mem_cons.mpr ⟨lw_p0, List.forall_mem_cons.mpr ⟨lw_p1, List.forall_mem_cons.mpr ⟨lw_p2, List.forall_mem_cons.mpr ⟨lw_p3, List.forall_mem_cons.mpr ⟨lw_p4, List.forall_mem_cons.mpr ⟨lw_p5, List.forall_mem_cons.mpr ⟨lw_p6, List.forall_mem_cons.mpr ⟨lw_p7, List.forall_mem_cons.mpr ⟨lw_p8, List.forall_mem_cons.mpr ⟨lw_p9, List.forall_mem_cons.mpr ⟨lw_p10, List.forall_mem_cons.mpr ⟨lw_p11, List.forall_mem_cons.mpr ⟨lw_p12, List.forall_mem_cons.mpr ⟨lw_p13, List.forall_mem_cons.mpr ⟨lw_p14, List.forall_mem_cons.mpr ⟨lw_p15, fun _ h => absurd h List.not_mem_nil⟩⟩⟩⟩⟩⟩⟩⟩⟩⟩⟩⟩⟩⟩⟩⟩
theorem lw_p16 : lw_okq (⟨"VotedBank$Parser", "readOperand", "(I)Z"⟩, 5) := ⟨⟨by decide +kernel, by decide +kernel⟩, List.mem_of_getElem? (i := 316) (by decide +kernel), List.mem_of_getElem? (i := 815) (by decide +kernel), List.mem_of_getElem? (i := 816) (by decide +kernel)⟩
theorem lw_p17 : lw_okq (⟨"VotedBank$Parser", "readConditions", "(I)Z"⟩, 5) := ⟨⟨by decide +kernel, by decide +kernel⟩, List.mem_of_getElem? (i := 316) (by decide +kernel), List.mem_of_getElem? (i := 823) (by decide +kernel), List.mem_of_getElem? (i := 824) (by decide +kernel)⟩
theorem lw_p18 : lw_okq (⟨"VotedBank$Parser", "readCondition", "(I)Z"⟩, 5) := ⟨⟨by decide +kernel, by decide +kernel⟩, List.mem_of_getElem? (i := 316) (by decide +kernel), List.mem_of_getElem? (i := 827) (by decide +kernel), List.mem_of_getElem? (i := 828) (by decide +kernel)⟩
theorem lw_p19 : lw_okq (⟨"VotedBank$Parser", "readOpened", "(I)Z"⟩, 5) := ⟨⟨by decide +kernel, by decide +kernel⟩, List.mem_of_getElem? (i := 316) (by decide +kernel), List.mem_of_getElem? (i := 831) (by decide +kernel), List.mem_of_getElem? (i := 832) (by decide +kernel)⟩
theorem lw_p20 : lw_okq (⟨"VotedBank$Parser", "expect", "(I)Z"⟩, 5) := ⟨⟨by decide +kernel, by decide +kernel⟩, List.mem_of_getElem? (i := 316) (by decide +kernel), List.mem_of_getElem? (i := 835) (by decide +kernel), List.mem_of_getElem? (i := 836) (by decide +kernel)⟩
theorem lw_p21 : lw_okq (⟨"VotedBank$Parser", "readEar", "()Z"⟩, 5) := ⟨⟨by decide +kernel, by decide +kernel⟩, List.mem_of_getElem? (i := 316) (by decide +kernel), List.mem_of_getElem? (i := 843) (by decide +kernel), List.mem_of_getElem? (i := 844) (by decide +kernel)⟩
theorem lw_p22 : lw_okq (⟨"VotedBank$Parser", "expectOneOf", "(I)I"⟩, 5) := ⟨⟨by decide +kernel, by decide +kernel⟩, List.mem_of_getElem? (i := 316) (by decide +kernel), List.mem_of_getElem? (i := 847) (by decide +kernel), List.mem_of_getElem? (i := 848) (by decide +kernel)⟩
theorem lw_p23 : lw_okq (⟨"VotedBank$Parser", "expectNumber", "(II)I"⟩, 5) := ⟨⟨by decide +kernel, by decide +kernel⟩, List.mem_of_getElem? (i := 316) (by decide +kernel), List.mem_of_getElem? (i := 851) (by decide +kernel), List.mem_of_getElem? (i := 852) (by decide +kernel)⟩
theorem lw_p24 : lw_okq (⟨"VotedBank$Parser", "readRow", "(I)Z"⟩, 5) := ⟨⟨by decide +kernel, by decide +kernel⟩, List.mem_of_getElem? (i := 316) (by decide +kernel), List.mem_of_getElem? (i := 855) (by decide +kernel), List.mem_of_getElem? (i := 856) (by decide +kernel)⟩
theorem lw_p25 : lw_okq (⟨"VotedBank$Parser", "expectSome", "(I)I"⟩, 5) := ⟨⟨by decide +kernel, by decide +kernel⟩, List.mem_of_getElem? (i := 316) (by decide +kernel), List.mem_of_getElem? (i := 859) (by decide +kernel), List.mem_of_getElem? (i := 860) (by decide +kernel)⟩
theorem lw_p26 : lw_okq (⟨"VotedBank$Parser", "readSeason", "()Z"⟩, 5) := ⟨⟨by decide +kernel, by decide +kernel⟩, List.mem_of_getElem? (i := 316) (by decide +kernel), List.mem_of_getElem? (i := 863) (by decide +kernel), List.mem_of_getElem? (i := 864) (by decide +kernel)⟩
theorem lw_p27 : lw_okq (⟨"VotedBank$Poll", "firstLandOf", "(I)I"⟩, 7) := ⟨⟨by decide +kernel, by decide +kernel⟩, List.mem_of_getElem? (i := 378) (by decide +kernel), List.mem_of_getElem? (i := 937) (by decide +kernel), List.mem_of_getElem? (i := 938) (by decide +kernel)⟩
theorem lw_p28 : lw_okq (⟨"VotedBank$Poll", "listBut", "(I)I"⟩, 7) := ⟨⟨by decide +kernel, by decide +kernel⟩, List.mem_of_getElem? (i := 378) (by decide +kernel), List.mem_of_getElem? (i := 950) (by decide +kernel), List.mem_of_getElem? (i := 951) (by decide +kernel)⟩
theorem lw_p29 : lw_okq (⟨"VotedBank$Poll", "turnsBank", "(II)Z"⟩, 7) := ⟨⟨by decide +kernel, by decide +kernel⟩, List.mem_of_getElem? (i := 378) (by decide +kernel), List.mem_of_getElem? (i := 956) (by decide +kernel), List.mem_of_getElem? (i := 957) (by decide +kernel)⟩
theorem lw_p30 : lw_okq (⟨"VotedBank$Poll", "changedAt", "(I)I"⟩, 7) := ⟨⟨by decide +kernel, by decide +kernel⟩, List.mem_of_getElem? (i := 378) (by decide +kernel), List.mem_of_getElem? (i := 961) (by decide +kernel), List.mem_of_getElem? (i := 962) (by decide +kernel)⟩
theorem lw_p31 : lw_okq (⟨"VotedBank$Poll", "compare", "(Z)V"⟩, 7) := ⟨⟨by decide +kernel, by decide +kernel⟩, List.mem_of_getElem? (i := 378) (by decide +kernel), List.mem_of_getElem? (i := 978) (by decide +kernel), List.mem_of_getElem? (i := 979) (by decide +kernel)⟩
def lw_privs_2 : List (MethodName × Nat) := [(⟨"VotedBank$Parser", "readOperand", "(I)Z"⟩, 5), (⟨"VotedBank$Parser", "readConditions", "(I)Z"⟩, 5), (⟨"VotedBank$Parser", "readCondition", "(I)Z"⟩, 5), (⟨"VotedBank$Parser", "readOpened", "(I)Z"⟩, 5), (⟨"VotedBank$Parser", "expect", "(I)Z"⟩, 5), (⟨"VotedBank$Parser", "readEar", "()Z"⟩, 5), (⟨"VotedBank$Parser", "expectOneOf", "(I)I"⟩, 5), (⟨"VotedBank$Parser", "expectNumber", "(II)I"⟩, 5), (⟨"VotedBank$Parser", "readRow", "(I)Z"⟩, 5), (⟨"VotedBank$Parser", "expectSome", "(I)I"⟩, 5), (⟨"VotedBank$Parser", "readSeason", "()Z"⟩, 5), (⟨"VotedBank$Poll", "firstLandOf", "(I)I"⟩, 7), (⟨"VotedBank$Poll", "listBut", "(I)I"⟩, 7), (⟨"VotedBank$Poll", "turnsBank", "(II)Z"⟩, 7), (⟨"VotedBank$Poll", "changedAt", "(I)I"⟩, 7), (⟨"VotedBank$Poll", "compare", "(Z)V"⟩, 7)]
theorem lw_r2 : ∀ q ∈ lw_privs_2, lw_okq q := List.forall_mem_cons.mpr ⟨lw_p16, List.forall_mem_cons.mpr ⟨lw_p17, List.forall_mem_cons.mpr ⟨lw_p18, List.forall_mem_cons.mpr ⟨lw_p19, List.forall_mem_cons.mpr ⟨lw_p20, List.forall_mem_cons.mpr ⟨lw_p21, List.forall_mem_cons.mpr ⟨lw_p22, List.forall_mem_cons.mpr ⟨lw_p23, List.forall_mem_cons.mpr ⟨lw_p24, List.forall_mem_cons.mpr ⟨lw_p25, List.forall_mem_cons.mpr ⟨lw_p26, List.forall_mem_cons.mpr ⟨lw_p27, List.forall_mem_cons.mpr ⟨lw_p28, List.forall_mem_cons.mpr ⟨lw_p29, List.forall_mem_cons.mpr ⟨lw_p30, List.forall_mem_cons.mpr ⟨lw_p31, fun _ h => absurd h List.not_mem_nil⟩⟩⟩⟩⟩⟩⟩⟩⟩⟩⟩⟩⟩⟩⟩⟩
theorem lw_p32 : lw_okq (⟨"VotedBank$Poll", "addCouples", "(II)V"⟩, 7) := ⟨⟨by decide +kernel, by decide +kernel⟩, List.mem_of_getElem? (i := 378) (by decide +kernel), List.mem_of_getElem? (i := 982) (by decide +kernel), List.mem_of_getElem? (i := 983) (by decide +kernel)⟩
theorem lw_p33 : lw_okq (⟨"VotedBank$Poll", "weakestOf", "(I)I"⟩, 7) := ⟨⟨by decide +kernel, by decide +kernel⟩, List.mem_of_getElem? (i := 378) (by decide +kernel), List.mem_of_getElem? (i := 998) (by decide +kernel), List.mem_of_getElem? (i := 999) (by decide +kernel)⟩
theorem lw_p34 : lw_okq (⟨"VotedBank$Poll", "winnerInOrder", "(I)I"⟩, 7) := ⟨⟨by decide +kernel, by decide +kernel⟩, List.mem_of_getElem? (i := 378) (by decide +kernel), List.mem_of_getElem? (i := 1023) (by decide +kernel), List.mem_of_getElem? (i := 1024) (by decide +kernel)⟩
theorem lw_p35 : lw_okq (⟨"VotedBank$Texts", "hearersOf", "(I)I"⟩, 7) := ⟨⟨by decide +kernel, by decide +kernel⟩, List.mem_of_getElem? (i := 135) (by decide +kernel), List.mem_of_getElem? (i := 1047) (by decide +kernel), List.mem_of_getElem? (i := 1048) (by decide +kernel)⟩
theorem lw_p36 : lw_okq (⟨"VotedBank$Poll", "couplesAgainst", "(I)I"⟩, 7) := ⟨⟨by decide +kernel, by decide +kernel⟩, List.mem_of_getElem? (i := 378) (by decide +kernel), List.mem_of_getElem? (i := 1077) (by decide +kernel), List.mem_of_getElem? (i := 1078) (by decide +kernel)⟩
theorem lw_p37 : lw_okq (⟨"VotedBank$World", "couldBegin", "(II)Z"⟩, 6) := ⟨⟨by decide +kernel, by decide +kernel⟩, List.mem_of_getElem? (i := 31) (by decide +kernel), List.mem_of_getElem? (i := 1097) (by decide +kernel), List.mem_of_getElem? (i := 1098) (by decide +kernel)⟩
theorem lw_p38 : lw_okq (⟨"VotedBank$Poll", "layAll", "(I)I"⟩, 7) := ⟨⟨by decide +kernel, by decide +kernel⟩, List.mem_of_getElem? (i := 378) (by decide +kernel), List.mem_of_getElem? (i := 1114) (by decide +kernel), List.mem_of_getElem? (i := 1115) (by decide +kernel)⟩
theorem lw_p39 : lw_okq (⟨"VotedBank$Poll", "keepIfCheaper", "(III)V"⟩, 7) := ⟨⟨by decide +kernel, by decide +kernel⟩, List.mem_of_getElem? (i := 378) (by decide +kernel), List.mem_of_getElem? (i := 1118) (by decide +kernel), List.mem_of_getElem? (i := 1119) (by decide +kernel)⟩
theorem lw_p40 : lw_okq (⟨"VotedBankModel", "isRank", "(I)Z"⟩, 54) := ⟨⟨by decide +kernel, by decide +kernel⟩, List.mem_of_getElem? (i := 1161) (by decide +kernel), List.mem_of_getElem? (i := 1342) (by decide +kernel), List.mem_of_getElem? (i := 1343) (by decide +kernel)⟩
theorem lw_p41 : lw_okq (⟨"VotedBankModel", "landAt", "(II)I"⟩, 54) := ⟨⟨by decide +kernel, by decide +kernel⟩, List.mem_of_getElem? (i := 1161) (by decide +kernel), List.mem_of_getElem? (i := 1346) (by decide +kernel), List.mem_of_getElem? (i := 1347) (by decide +kernel)⟩
theorem lw_p42 : lw_okq (⟨"VotedBankModel", "isIn", "(III)Z"⟩, 54) := ⟨⟨by decide +kernel, by decide +kernel⟩, List.mem_of_getElem? (i := 1161) (by decide +kernel), List.mem_of_getElem? (i := 1351) (by decide +kernel), List.mem_of_getElem? (i := 1352) (by decide +kernel)⟩
theorem lw_p43 : lw_okq (⟨"VotedBankModel", "canSet", "(III)Z"⟩, 54) := ⟨⟨by decide +kernel, by decide +kernel⟩, List.mem_of_getElem? (i := 1161) (by decide +kernel), List.mem_of_getElem? (i := 1359) (by decide +kernel), List.mem_of_getElem? (i := 1360) (by decide +kernel)⟩
theorem lw_p44 : lw_okq (⟨"VotedBankModel", "isOne", "(I)Z"⟩, 54) := ⟨⟨by decide +kernel, by decide +kernel⟩, List.mem_of_getElem? (i := 1161) (by decide +kernel), List.mem_of_getElem? (i := 1363) (by decide +kernel), List.mem_of_getElem? (i := 1364) (by decide +kernel)⟩
theorem lw_p45 : lw_okq (⟨"VotedBankModel", "types", "(I)V"⟩, 54) := ⟨⟨by decide +kernel, by decide +kernel⟩, List.mem_of_getElem? (i := 1161) (by decide +kernel), List.mem_of_getElem? (i := 1371) (by decide +kernel), List.mem_of_getElem? (i := 1372) (by decide +kernel)⟩
theorem lw_p46 : lw_okq (⟨"VotedBankModel", "readsText", "(I)I"⟩, 54) := ⟨⟨by decide +kernel, by decide +kernel⟩, List.mem_of_getElem? (i := 1161) (by decide +kernel), List.mem_of_getElem? (i := 1383) (by decide +kernel), List.mem_of_getElem? (i := 1384) (by decide +kernel)⟩
theorem lw_p47 : lw_okq (⟨"VotedBankModel", "reads", "()V"⟩, 54) := ⟨⟨by decide +kernel, by decide +kernel⟩, List.mem_of_getElem? (i := 1161) (by decide +kernel), List.mem_of_getElem? (i := 1387) (by decide +kernel), List.mem_of_getElem? (i := 1388) (by decide +kernel)⟩
def lw_privs_3 : List (MethodName × Nat) := [(⟨"VotedBank$Poll", "addCouples", "(II)V"⟩, 7), (⟨"VotedBank$Poll", "weakestOf", "(I)I"⟩, 7), (⟨"VotedBank$Poll", "winnerInOrder", "(I)I"⟩, 7), (⟨"VotedBank$Texts", "hearersOf", "(I)I"⟩, 7), (⟨"VotedBank$Poll", "couplesAgainst", "(I)I"⟩, 7), (⟨"VotedBank$World", "couldBegin", "(II)Z"⟩, 6), (⟨"VotedBank$Poll", "layAll", "(I)I"⟩, 7), (⟨"VotedBank$Poll", "keepIfCheaper", "(III)V"⟩, 7), (⟨"VotedBankModel", "isRank", "(I)Z"⟩, 54), (⟨"VotedBankModel", "landAt", "(II)I"⟩, 54), (⟨"VotedBankModel", "isIn", "(III)Z"⟩, 54), (⟨"VotedBankModel", "canSet", "(III)Z"⟩, 54), (⟨"VotedBankModel", "isOne", "(I)Z"⟩, 54), (⟨"VotedBankModel", "types", "(I)V"⟩, 54), (⟨"VotedBankModel", "readsText", "(I)I"⟩, 54), (⟨"VotedBankModel", "reads", "()V"⟩, 54)]
theorem lw_r3 : ∀ q ∈ lw_privs_3, lw_okq q := List.forall_mem_cons.mpr ⟨lw_p32, List.forall_mem_cons.mpr ⟨lw_p33, List.forall_mem_cons.mpr ⟨lw_p34, List.forall_mem_cons.mpr ⟨lw_p35, List.forall_mem_cons.mpr ⟨lw_p36, List.forall_mem_cons.mpr ⟨lw_p37, List.forall_mem_cons.mpr ⟨lw_p38, List.forall_mem_cons.mpr ⟨lw_p39, List.forall_mem_cons.mpr ⟨lw_p40, List.forall_mem_cons.mpr ⟨lw_p41, List.forall_mem_cons.mpr ⟨lw_p42, List.forall_mem_cons.mpr ⟨lw_p43, List.forall_mem_cons.mpr ⟨lw_p44, List.forall_mem_cons.mpr ⟨lw_p45, List.forall_mem_cons.mpr ⟨lw_p46, List.forall_mem_cons.mpr ⟨lw_p47, fun _ h => absurd h List.not_mem_nil⟩⟩⟩⟩⟩⟩⟩⟩⟩⟩⟩⟩⟩⟩⟩⟩
theorem lw_p48 : lw_okq (⟨"VotedBankModel", "raw", "(I)I"⟩, 54) := ⟨⟨by decide +kernel, by decide +kernel⟩, List.mem_of_getElem? (i := 1161) (by decide +kernel), List.mem_of_getElem? (i := 1391) (by decide +kernel), List.mem_of_getElem? (i := 1392) (by decide +kernel)⟩
theorem lw_p49 : lw_okq (⟨"VotedBankModel", "isLetter", "(I)Z"⟩, 54) := ⟨⟨by decide +kernel, by decide +kernel⟩, List.mem_of_getElem? (i := 1161) (by decide +kernel), List.mem_of_getElem? (i := 1395) (by decide +kernel), List.mem_of_getElem? (i := 1396) (by decide +kernel)⟩
theorem lw_p50 : lw_okq (⟨"VotedBankModel", "wordAt", "(II)I"⟩, 54) := ⟨⟨by decide +kernel, by decide +kernel⟩, List.mem_of_getElem? (i := 1161) (by decide +kernel), List.mem_of_getElem? (i := 1399) (by decide +kernel), List.mem_of_getElem? (i := 1400) (by decide +kernel)⟩
theorem lw_p51 : lw_okq (⟨"VotedBankModel", "isDigit", "(I)Z"⟩, 54) := ⟨⟨by decide +kernel, by decide +kernel⟩, List.mem_of_getElem? (i := 1161) (by decide +kernel), List.mem_of_getElem? (i := 1403) (by decide +kernel), List.mem_of_getElem? (i := 1404) (by decide +kernel)⟩
theorem lw_p52 : lw_okq (⟨"VotedBankModel", "isMarkSign", "(I)Z"⟩, 54) := ⟨⟨by decide +kernel, by decide +kernel⟩, List.mem_of_getElem? (i := 1161) (by decide +kernel), List.mem_of_getElem? (i := 1407) (by decide +kernel), List.mem_of_getElem? (i := 1408) (by decide +kernel)⟩
theorem lw_p53 : lw_okq (⟨"VotedBankModel", "readEars", "()I"⟩, 54) := ⟨⟨by decide +kernel, by decide +kernel⟩, List.mem_of_getElem? (i := 1161) (by decide +kernel), List.mem_of_getElem? (i := 1411) (by decide +kernel), List.mem_of_getElem? (i := 1412) (by decide +kernel)⟩
theorem lw_p54 : lw_okq (⟨"VotedBankModel", "isWord", "(I)Z"⟩, 54) := ⟨⟨by decide +kernel, by decide +kernel⟩, List.mem_of_getElem? (i := 1161) (by decide +kernel), List.mem_of_getElem? (i := 1415) (by decide +kernel), List.mem_of_getElem? (i := 1416) (by decide +kernel)⟩
theorem lw_p55 : lw_okq (⟨"VotedBankModel", "errs", "(I)I"⟩, 54) := ⟨⟨by decide +kernel, by decide +kernel⟩, List.mem_of_getElem? (i := 1161) (by decide +kernel), List.mem_of_getElem? (i := 1419) (by decide +kernel), List.mem_of_getElem? (i := 1420) (by decide +kernel)⟩
theorem lw_p56 : lw_okq (⟨"VotedBankModel", "readEar", "()I"⟩, 54) := ⟨⟨by decide +kernel, by decide +kernel⟩, List.mem_of_getElem? (i := 1161) (by decide +kernel), List.mem_of_getElem? (i := 1423) (by decide +kernel), List.mem_of_getElem? (i := 1424) (by decide +kernel)⟩
theorem lw_p57 : lw_okq (⟨"VotedBankModel", "readTold", "(III)I"⟩, 54) := ⟨⟨by decide +kernel, by decide +kernel⟩, List.mem_of_getElem? (i := 1161) (by decide +kernel), List.mem_of_getElem? (i := 1427) (by decide +kernel), List.mem_of_getElem? (i := 1428) (by decide +kernel)⟩
theorem lw_p58 : lw_okq (⟨"VotedBankModel", "readNumber", "(II)I"⟩, 54) := ⟨⟨by decide +kernel, by decide +kernel⟩, List.mem_of_getElem? (i := 1161) (by decide +kernel), List.mem_of_getElem? (i := 1431) (by decide +kernel), List.mem_of_getElem? (i := 1432) (by decide +kernel)⟩
theorem lw_p59 : lw_okq (⟨"VotedBankModel", "readMark", "(I)I"⟩, 54) := ⟨⟨by decide +kernel, by decide +kernel⟩, List.mem_of_getElem? (i := 1161) (by decide +kernel), List.mem_of_getElem? (i := 1435) (by decide +kernel), List.mem_of_getElem? (i := 1436) (by decide +kernel)⟩
theorem lw_p60 : lw_okq (⟨"VotedBankModel", "isSign", "(I)Z"⟩, 54) := ⟨⟨by decide +kernel, by decide +kernel⟩, List.mem_of_getElem? (i := 1161) (by decide +kernel), List.mem_of_getElem? (i := 1439) (by decide +kernel), List.mem_of_getElem? (i := 1440) (by decide +kernel)⟩
theorem lw_p61 : lw_okq (⟨"VotedBankModel", "readLog", "()I"⟩, 54) := ⟨⟨by decide +kernel, by decide +kernel⟩, List.mem_of_getElem? (i := 1161) (by decide +kernel), List.mem_of_getElem? (i := 1443) (by decide +kernel), List.mem_of_getElem? (i := 1444) (by decide +kernel)⟩
theorem lw_p62 : lw_okq (⟨"VotedBankModel", "readLogLine", "(I)I"⟩, 54) := ⟨⟨by decide +kernel, by decide +kernel⟩, List.mem_of_getElem? (i := 1161) (by decide +kernel), List.mem_of_getElem? (i := 1447) (by decide +kernel), List.mem_of_getElem? (i := 1448) (by decide +kernel)⟩
theorem lw_p63 : lw_okq (⟨"VotedBankModel", "readSet", "(I)I"⟩, 54) := ⟨⟨by decide +kernel, by decide +kernel⟩, List.mem_of_getElem? (i := 1161) (by decide +kernel), List.mem_of_getElem? (i := 1451) (by decide +kernel), List.mem_of_getElem? (i := 1452) (by decide +kernel)⟩
def lw_privs_4 : List (MethodName × Nat) := [(⟨"VotedBankModel", "raw", "(I)I"⟩, 54), (⟨"VotedBankModel", "isLetter", "(I)Z"⟩, 54), (⟨"VotedBankModel", "wordAt", "(II)I"⟩, 54), (⟨"VotedBankModel", "isDigit", "(I)Z"⟩, 54), (⟨"VotedBankModel", "isMarkSign", "(I)Z"⟩, 54), (⟨"VotedBankModel", "readEars", "()I"⟩, 54), (⟨"VotedBankModel", "isWord", "(I)Z"⟩, 54), (⟨"VotedBankModel", "errs", "(I)I"⟩, 54), (⟨"VotedBankModel", "readEar", "()I"⟩, 54), (⟨"VotedBankModel", "readTold", "(III)I"⟩, 54), (⟨"VotedBankModel", "readNumber", "(II)I"⟩, 54), (⟨"VotedBankModel", "readMark", "(I)I"⟩, 54), (⟨"VotedBankModel", "isSign", "(I)Z"⟩, 54), (⟨"VotedBankModel", "readLog", "()I"⟩, 54), (⟨"VotedBankModel", "readLogLine", "(I)I"⟩, 54), (⟨"VotedBankModel", "readSet", "(I)I"⟩, 54)]
theorem lw_r4 : ∀ q ∈ lw_privs_4, lw_okq q := List.forall_mem_cons.mpr ⟨lw_p48, List.forall_mem_cons.mpr ⟨lw_p49, List.forall_mem_cons.mpr ⟨lw_p50, List.forall_mem_cons.mpr ⟨lw_p51, List.forall_mem_cons.mpr ⟨lw_p52, List.forall_mem_cons.mpr ⟨lw_p53, List.forall_mem_cons.mpr ⟨lw_p54, List.forall_mem_cons.mpr ⟨lw_p55, List.forall_mem_cons.mpr ⟨lw_p56, List.forall_mem_cons.mpr ⟨lw_p57, List.forall_mem_cons.mpr ⟨lw_p58, List.forall_mem_cons.mpr ⟨lw_p59, List.forall_mem_cons.mpr ⟨lw_p60, List.forall_mem_cons.mpr ⟨lw_p61, List.forall_mem_cons.mpr ⟨lw_p62, List.forall_mem_cons.mpr ⟨lw_p63, fun _ h => absurd h List.not_mem_nil⟩⟩⟩⟩⟩⟩⟩⟩⟩⟩⟩⟩⟩⟩⟩⟩
theorem lw_p64 : lw_okq (⟨"VotedBankModel", "has", "(II)Z"⟩, 54) := ⟨⟨by decide +kernel, by decide +kernel⟩, List.mem_of_getElem? (i := 1161) (by decide +kernel), List.mem_of_getElem? (i := 1455) (by decide +kernel), List.mem_of_getElem? (i := 1456) (by decide +kernel)⟩
theorem lw_p65 : lw_okq (⟨"VotedBankModel", "readSeasons", "()I"⟩, 54) := ⟨⟨by decide +kernel, by decide +kernel⟩, List.mem_of_getElem? (i := 1161) (by decide +kernel), List.mem_of_getElem? (i := 1459) (by decide +kernel), List.mem_of_getElem? (i := 1460) (by decide +kernel)⟩
theorem lw_p66 : lw_okq (⟨"VotedBankModel", "readSeason", "(I)I"⟩, 54) := ⟨⟨by decide +kernel, by decide +kernel⟩, List.mem_of_getElem? (i := 1161) (by decide +kernel), List.mem_of_getElem? (i := 1463) (by decide +kernel), List.mem_of_getElem? (i := 1464) (by decide +kernel)⟩
theorem lw_p67 : lw_okq (⟨"VotedBankModel", "readLaw", "()I"⟩, 54) := ⟨⟨by decide +kernel, by decide +kernel⟩, List.mem_of_getElem? (i := 1161) (by decide +kernel), List.mem_of_getElem? (i := 1467) (by decide +kernel), List.mem_of_getElem? (i := 1468) (by decide +kernel)⟩
theorem lw_p68 : lw_okq (⟨"VotedBankModel", "isLineWord", "()Z"⟩, 54) := ⟨⟨by decide +kernel, by decide +kernel⟩, List.mem_of_getElem? (i := 1161) (by decide +kernel), List.mem_of_getElem? (i := 1471) (by decide +kernel), List.mem_of_getElem? (i := 1472) (by decide +kernel)⟩
theorem lw_p69 : lw_okq (⟨"VotedBankModel", "readSum", "()I"⟩, 54) := ⟨⟨by decide +kernel, by decide +kernel⟩, List.mem_of_getElem? (i := 1161) (by decide +kernel), List.mem_of_getElem? (i := 1475) (by decide +kernel), List.mem_of_getElem? (i := 1476) (by decide +kernel)⟩
theorem lw_p70 : lw_okq (⟨"VotedBankModel", "readProduct", "()I"⟩, 54) := ⟨⟨by decide +kernel, by decide +kernel⟩, List.mem_of_getElem? (i := 1161) (by decide +kernel), List.mem_of_getElem? (i := 1479) (by decide +kernel), List.mem_of_getElem? (i := 1480) (by decide +kernel)⟩
theorem lw_p71 : lw_okq (⟨"VotedBankModel", "readUnit", "()I"⟩, 54) := ⟨⟨by decide +kernel, by decide +kernel⟩, List.mem_of_getElem? (i := 1161) (by decide +kernel), List.mem_of_getElem? (i := 1483) (by decide +kernel), List.mem_of_getElem? (i := 1484) (by decide +kernel)⟩
theorem lw_p72 : lw_okq (⟨"VotedBankModel", "canAsk", "(I)Z"⟩, 54) := ⟨⟨by decide +kernel, by decide +kernel⟩, List.mem_of_getElem? (i := 1161) (by decide +kernel), List.mem_of_getElem? (i := 1487) (by decide +kernel), List.mem_of_getElem? (i := 1488) (by decide +kernel)⟩
theorem lw_p73 : lw_okq (⟨"VotedBankModel", "emits", "(II)V"⟩, 54) := ⟨⟨by decide +kernel, by decide +kernel⟩, List.mem_of_getElem? (i := 1161) (by decide +kernel), List.mem_of_getElem? (i := 1491) (by decide +kernel), List.mem_of_getElem? (i := 1492) (by decide +kernel)⟩
theorem lw_p74 : lw_okq (⟨"VotedBankModel", "readAny", "()I"⟩, 54) := ⟨⟨by decide +kernel, by decide +kernel⟩, List.mem_of_getElem? (i := 1161) (by decide +kernel), List.mem_of_getElem? (i := 1495) (by decide +kernel), List.mem_of_getElem? (i := 1496) (by decide +kernel)⟩
theorem lw_p75 : lw_okq (⟨"VotedBankModel", "waits", "(I)V"⟩, 54) := ⟨⟨by decide +kernel, by decide +kernel⟩, List.mem_of_getElem? (i := 1161) (by decide +kernel), List.mem_of_getElem? (i := 1499) (by decide +kernel), List.mem_of_getElem? (i := 1500) (by decide +kernel)⟩
theorem lw_p76 : lw_okq (⟨"VotedBankModel", "readCompared", "()I"⟩, 54) := ⟨⟨by decide +kernel, by decide +kernel⟩, List.mem_of_getElem? (i := 1161) (by decide +kernel), List.mem_of_getElem? (i := 1503) (by decide +kernel), List.mem_of_getElem? (i := 1504) (by decide +kernel)⟩
theorem lw_p77 : lw_okq (⟨"VotedBankModel", "settles", "(I)V"⟩, 54) := ⟨⟨by decide +kernel, by decide +kernel⟩, List.mem_of_getElem? (i := 1161) (by decide +kernel), List.mem_of_getElem? (i := 1507) (by decide +kernel), List.mem_of_getElem? (i := 1508) (by decide +kernel)⟩
theorem lw_p78 : lw_okq (⟨"VotedBankModel", "takesLaw", "(I)V"⟩, 54) := ⟨⟨by decide +kernel, by decide +kernel⟩, List.mem_of_getElem? (i := 1161) (by decide +kernel), List.mem_of_getElem? (i := 1511) (by decide +kernel), List.mem_of_getElem? (i := 1512) (by decide +kernel)⟩
theorem lw_p79 : lw_okq (⟨"VotedBankModel", "takesOther", "(II)V"⟩, 54) := ⟨⟨by decide +kernel, by decide +kernel⟩, List.mem_of_getElem? (i := 1161) (by decide +kernel), List.mem_of_getElem? (i := 1515) (by decide +kernel), List.mem_of_getElem? (i := 1516) (by decide +kernel)⟩
def lw_privs_5 : List (MethodName × Nat) := [(⟨"VotedBankModel", "has", "(II)Z"⟩, 54), (⟨"VotedBankModel", "readSeasons", "()I"⟩, 54), (⟨"VotedBankModel", "readSeason", "(I)I"⟩, 54), (⟨"VotedBankModel", "readLaw", "()I"⟩, 54), (⟨"VotedBankModel", "isLineWord", "()Z"⟩, 54), (⟨"VotedBankModel", "readSum", "()I"⟩, 54), (⟨"VotedBankModel", "readProduct", "()I"⟩, 54), (⟨"VotedBankModel", "readUnit", "()I"⟩, 54), (⟨"VotedBankModel", "canAsk", "(I)Z"⟩, 54), (⟨"VotedBankModel", "emits", "(II)V"⟩, 54), (⟨"VotedBankModel", "readAny", "()I"⟩, 54), (⟨"VotedBankModel", "waits", "(I)V"⟩, 54), (⟨"VotedBankModel", "readCompared", "()I"⟩, 54), (⟨"VotedBankModel", "settles", "(I)V"⟩, 54), (⟨"VotedBankModel", "takesLaw", "(I)V"⟩, 54), (⟨"VotedBankModel", "takesOther", "(II)V"⟩, 54)]
theorem lw_r5 : ∀ q ∈ lw_privs_5, lw_okq q := List.forall_mem_cons.mpr ⟨lw_p64, List.forall_mem_cons.mpr ⟨lw_p65, List.forall_mem_cons.mpr ⟨lw_p66, List.forall_mem_cons.mpr ⟨lw_p67, List.forall_mem_cons.mpr ⟨lw_p68, List.forall_mem_cons.mpr ⟨lw_p69, List.forall_mem_cons.mpr ⟨lw_p70, List.forall_mem_cons.mpr ⟨lw_p71, List.forall_mem_cons.mpr ⟨lw_p72, List.forall_mem_cons.mpr ⟨lw_p73, List.forall_mem_cons.mpr ⟨lw_p74, List.forall_mem_cons.mpr ⟨lw_p75, List.forall_mem_cons.mpr ⟨lw_p76, List.forall_mem_cons.mpr ⟨lw_p77, List.forall_mem_cons.mpr ⟨lw_p78, List.forall_mem_cons.mpr ⟨lw_p79, fun _ h => absurd h List.not_mem_nil⟩⟩⟩⟩⟩⟩⟩⟩⟩⟩⟩⟩⟩⟩⟩⟩
theorem lw_p80 : lw_okq (⟨"VotedBankModel", "canCross", "(I)Z"⟩, 54) := ⟨⟨by decide +kernel, by decide +kernel⟩, List.mem_of_getElem? (i := 1161) (by decide +kernel), List.mem_of_getElem? (i := 1527) (by decide +kernel), List.mem_of_getElem? (i := 1528) (by decide +kernel)⟩
theorem lw_p81 : lw_okq (⟨"VotedBankModel", "hereSet", "()I"⟩, 54) := ⟨⟨by decide +kernel, by decide +kernel⟩, List.mem_of_getElem? (i := 1161) (by decide +kernel), List.mem_of_getElem? (i := 1531) (by decide +kernel), List.mem_of_getElem? (i := 1532) (by decide +kernel)⟩
theorem lw_p82 : lw_okq (⟨"VotedBankModel", "overSet", "()I"⟩, 54) := ⟨⟨by decide +kernel, by decide +kernel⟩, List.mem_of_getElem? (i := 1161) (by decide +kernel), List.mem_of_getElem? (i := 1535) (by decide +kernel), List.mem_of_getElem? (i := 1536) (by decide +kernel)⟩
theorem lw_p83 : lw_okq (⟨"VotedBankModel", "keepsAhead", "()V"⟩, 54) := ⟨⟨by decide +kernel, by decide +kernel⟩, List.mem_of_getElem? (i := 1161) (by decide +kernel), List.mem_of_getElem? (i := 1539) (by decide +kernel), List.mem_of_getElem? (i := 1540) (by decide +kernel)⟩
theorem lw_p84 : lw_okq (⟨"VotedBankModel", "crosses", "(I)I"⟩, 54) := ⟨⟨by decide +kernel, by decide +kernel⟩, List.mem_of_getElem? (i := 1161) (by decide +kernel), List.mem_of_getElem? (i := 1543) (by decide +kernel), List.mem_of_getElem? (i := 1544) (by decide +kernel)⟩
theorem lw_p85 : lw_okq (⟨"VotedBankModel", "votes", "(I)I"⟩, 54) := ⟨⟨by decide +kernel, by decide +kernel⟩, List.mem_of_getElem? (i := 1161) (by decide +kernel), List.mem_of_getElem? (i := 1547) (by decide +kernel), List.mem_of_getElem? (i := 1548) (by decide +kernel)⟩
theorem lw_p86 : lw_okq (⟨"VotedBankModel", "isTalkedTo", "(III)V"⟩, 54) := ⟨⟨by decide +kernel, by decide +kernel⟩, List.mem_of_getElem? (i := 1161) (by decide +kernel), List.mem_of_getElem? (i := 1551) (by decide +kernel), List.mem_of_getElem? (i := 1552) (by decide +kernel)⟩
theorem lw_p87 : lw_okq (⟨"VotedBankModel", "talkerTo", "(II)I"⟩, 54) := ⟨⟨by decide +kernel, by decide +kernel⟩, List.mem_of_getElem? (i := 1161) (by decide +kernel), List.mem_of_getElem? (i := 1555) (by decide +kernel), List.mem_of_getElem? (i := 1556) (by decide +kernel)⟩
theorem lw_p88 : lw_okq (⟨"VotedBankModel", "firstOf", "(I)I"⟩, 54) := ⟨⟨by decide +kernel, by decide +kernel⟩, List.mem_of_getElem? (i := 1161) (by decide +kernel), List.mem_of_getElem? (i := 1559) (by decide +kernel), List.mem_of_getElem? (i := 1560) (by decide +kernel)⟩
theorem lw_p89 : lw_okq (⟨"VotedBankModel", "swayOf", "(IIII)I"⟩, 54) := ⟨⟨by decide +kernel, by decide +kernel⟩, List.mem_of_getElem? (i := 1161) (by decide +kernel), List.mem_of_getElem? (i := 1563) (by decide +kernel), List.mem_of_getElem? (i := 1564) (by decide +kernel)⟩
theorem lw_p90 : lw_okq (⟨"VotedBankModel", "asks", "(IIII)V"⟩, 54) := ⟨⟨by decide +kernel, by decide +kernel⟩, List.mem_of_getElem? (i := 1161) (by decide +kernel), List.mem_of_getElem? (i := 1567) (by decide +kernel), List.mem_of_getElem? (i := 1568) (by decide +kernel)⟩
theorem lw_p91 : lw_okq (⟨"VotedBankModel", "onesOf", "(I)I"⟩, 54) := ⟨⟨by decide +kernel, by decide +kernel⟩, List.mem_of_getElem? (i := 1161) (by decide +kernel), List.mem_of_getElem? (i := 1571) (by decide +kernel), List.mem_of_getElem? (i := 1572) (by decide +kernel)⟩
theorem lw_p92 : lw_okq (⟨"VotedBankModel", "lawTells", "(III)I"⟩, 54) := ⟨⟨by decide +kernel, by decide +kernel⟩, List.mem_of_getElem? (i := 1161) (by decide +kernel), List.mem_of_getElem? (i := 1575) (by decide +kernel), List.mem_of_getElem? (i := 1576) (by decide +kernel)⟩
theorem lw_p93 : lw_okq (⟨"VotedBankModel", "lineOf", "(I)I"⟩, 54) := ⟨⟨by decide +kernel, by decide +kernel⟩, List.mem_of_getElem? (i := 1161) (by decide +kernel), List.mem_of_getElem? (i := 1579) (by decide +kernel), List.mem_of_getElem? (i := 1580) (by decide +kernel)⟩
theorem lw_p94 : lw_okq (⟨"VotedBankModel", "runs", "(III)I"⟩, 54) := ⟨⟨by decide +kernel, by decide +kernel⟩, List.mem_of_getElem? (i := 1161) (by decide +kernel), List.mem_of_getElem? (i := 1583) (by decide +kernel), List.mem_of_getElem? (i := 1584) (by decide +kernel)⟩
theorem lw_p95 : lw_okq (⟨"VotedBankModel", "twoOf", "(III)I"⟩, 54) := ⟨⟨by decide +kernel, by decide +kernel⟩, List.mem_of_getElem? (i := 1161) (by decide +kernel), List.mem_of_getElem? (i := 1587) (by decide +kernel), List.mem_of_getElem? (i := 1588) (by decide +kernel)⟩
def lw_privs_6 : List (MethodName × Nat) := [(⟨"VotedBankModel", "canCross", "(I)Z"⟩, 54), (⟨"VotedBankModel", "hereSet", "()I"⟩, 54), (⟨"VotedBankModel", "overSet", "()I"⟩, 54), (⟨"VotedBankModel", "keepsAhead", "()V"⟩, 54), (⟨"VotedBankModel", "crosses", "(I)I"⟩, 54), (⟨"VotedBankModel", "votes", "(I)I"⟩, 54), (⟨"VotedBankModel", "isTalkedTo", "(III)V"⟩, 54), (⟨"VotedBankModel", "talkerTo", "(II)I"⟩, 54), (⟨"VotedBankModel", "firstOf", "(I)I"⟩, 54), (⟨"VotedBankModel", "swayOf", "(IIII)I"⟩, 54), (⟨"VotedBankModel", "asks", "(IIII)V"⟩, 54), (⟨"VotedBankModel", "onesOf", "(I)I"⟩, 54), (⟨"VotedBankModel", "lawTells", "(III)I"⟩, 54), (⟨"VotedBankModel", "lineOf", "(I)I"⟩, 54), (⟨"VotedBankModel", "runs", "(III)I"⟩, 54), (⟨"VotedBankModel", "twoOf", "(III)I"⟩, 54)]
theorem lw_r6 : ∀ q ∈ lw_privs_6, lw_okq q := List.forall_mem_cons.mpr ⟨lw_p80, List.forall_mem_cons.mpr ⟨lw_p81, List.forall_mem_cons.mpr ⟨lw_p82, List.forall_mem_cons.mpr ⟨lw_p83, List.forall_mem_cons.mpr ⟨lw_p84, List.forall_mem_cons.mpr ⟨lw_p85, List.forall_mem_cons.mpr ⟨lw_p86, List.forall_mem_cons.mpr ⟨lw_p87, List.forall_mem_cons.mpr ⟨lw_p88, List.forall_mem_cons.mpr ⟨lw_p89, List.forall_mem_cons.mpr ⟨lw_p90, List.forall_mem_cons.mpr ⟨lw_p91, List.forall_mem_cons.mpr ⟨lw_p92, List.forall_mem_cons.mpr ⟨lw_p93, List.forall_mem_cons.mpr ⟨lw_p94, List.forall_mem_cons.mpr ⟨lw_p95, fun _ h => absurd h List.not_mem_nil⟩⟩⟩⟩⟩⟩⟩⟩⟩⟩⟩⟩⟩⟩⟩⟩
theorem lw_p96 : lw_okq (⟨"VotedBankModel", "held", "(III)I"⟩, 54) := ⟨⟨by decide +kernel, by decide +kernel⟩, List.mem_of_getElem? (i := 1161) (by decide +kernel), List.mem_of_getElem? (i := 1591) (by decide +kernel), List.mem_of_getElem? (i := 1592) (by decide +kernel)⟩
theorem lw_p97 : lw_okq (⟨"VotedBankModel", "draw", "(I)I"⟩, 54) := ⟨⟨by decide +kernel, by decide +kernel⟩, List.mem_of_getElem? (i := 1161) (by decide +kernel), List.mem_of_getElem? (i := 1595) (by decide +kernel), List.mem_of_getElem? (i := 1596) (by decide +kernel)⟩
theorem lw_p98 : lw_okq (⟨"VotedBankModel", "rankWith", "(II)I"⟩, 54) := ⟨⟨by decide +kernel, by decide +kernel⟩, List.mem_of_getElem? (i := 1161) (by decide +kernel), List.mem_of_getElem? (i := 1601) (by decide +kernel), List.mem_of_getElem? (i := 1602) (by decide +kernel)⟩
theorem lw_p99 : lw_okq (⟨"VotedBankModel", "notes", "(III)V"⟩, 54) := ⟨⟨by decide +kernel, by decide +kernel⟩, List.mem_of_getElem? (i := 1161) (by decide +kernel), List.mem_of_getElem? (i := 1605) (by decide +kernel), List.mem_of_getElem? (i := 1606) (by decide +kernel)⟩
theorem lw_p100 : lw_okq (⟨"VotedBankModel", "wadingOf", "(II)I"⟩, 54) := ⟨⟨by decide +kernel, by decide +kernel⟩, List.mem_of_getElem? (i := 1161) (by decide +kernel), List.mem_of_getElem? (i := 1609) (by decide +kernel), List.mem_of_getElem? (i := 1610) (by decide +kernel)⟩
theorem lw_p101 : lw_okq (⟨"VotedBankModel", "doesAbstain", "(III)Z"⟩, 54) := ⟨⟨by decide +kernel, by decide +kernel⟩, List.mem_of_getElem? (i := 1161) (by decide +kernel), List.mem_of_getElem? (i := 1613) (by decide +kernel), List.mem_of_getElem? (i := 1614) (by decide +kernel)⟩
theorem lw_p102 : lw_okq (⟨"VotedBankModel", "abstainOf", "(III)I"⟩, 54) := ⟨⟨by decide +kernel, by decide +kernel⟩, List.mem_of_getElem? (i := 1161) (by decide +kernel), List.mem_of_getElem? (i := 1617) (by decide +kernel), List.mem_of_getElem? (i := 1618) (by decide +kernel)⟩
theorem lw_p103 : lw_okq (⟨"VotedBankModel", "shellsOf", "(III)I"⟩, 54) := ⟨⟨by decide +kernel, by decide +kernel⟩, List.mem_of_getElem? (i := 1161) (by decide +kernel), List.mem_of_getElem? (i := 1621) (by decide +kernel), List.mem_of_getElem? (i := 1622) (by decide +kernel)⟩
theorem lw_p104 : lw_okq (⟨"VotedBankModel", "winner", "()I"⟩, 54) := ⟨⟨by decide +kernel, by decide +kernel⟩, List.mem_of_getElem? (i := 1161) (by decide +kernel), List.mem_of_getElem? (i := 1625) (by decide +kernel), List.mem_of_getElem? (i := 1626) (by decide +kernel)⟩
theorem lw_p105 : lw_okq (⟨"VotedBankModel", "greater", "(II)I"⟩, 54) := ⟨⟨by decide +kernel, by decide +kernel⟩, List.mem_of_getElem? (i := 1161) (by decide +kernel), List.mem_of_getElem? (i := 1629) (by decide +kernel), List.mem_of_getElem? (i := 1630) (by decide +kernel)⟩
theorem lw_p106 : lw_okq (⟨"VotedBankModel", "lesser", "(II)I"⟩, 54) := ⟨⟨by decide +kernel, by decide +kernel⟩, List.mem_of_getElem? (i := 1161) (by decide +kernel), List.mem_of_getElem? (i := 1633) (by decide +kernel), List.mem_of_getElem? (i := 1634) (by decide +kernel)⟩
theorem lw_p107 : lw_okq (⟨"VotedBankModel", "isOver", "(II)Z"⟩, 54) := ⟨⟨by decide +kernel, by decide +kernel⟩, List.mem_of_getElem? (i := 1161) (by decide +kernel), List.mem_of_getElem? (i := 1637) (by decide +kernel), List.mem_of_getElem? (i := 1638) (by decide +kernel)⟩
theorem lw_p108 : lw_okq (⟨"VotedBankModel", "seasonOf", "(I)I"⟩, 54) := ⟨⟨by decide +kernel, by decide +kernel⟩, List.mem_of_getElem? (i := 1161) (by decide +kernel), List.mem_of_getElem? (i := 1641) (by decide +kernel), List.mem_of_getElem? (i := 1642) (by decide +kernel)⟩
theorem lw_p109 : lw_okq (⟨"VotedBankModel", "stays", "(I)V"⟩, 54) := ⟨⟨by decide +kernel, by decide +kernel⟩, List.mem_of_getElem? (i := 1161) (by decide +kernel), List.mem_of_getElem? (i := 1649) (by decide +kernel), List.mem_of_getElem? (i := 1650) (by decide +kernel)⟩
theorem lw_p110 : lw_okq (⟨"VotedBankModel", "shellsNow", "(I)I"⟩, 54) := ⟨⟨by decide +kernel, by decide +kernel⟩, List.mem_of_getElem? (i := 1161) (by decide +kernel), List.mem_of_getElem? (i := 1661) (by decide +kernel), List.mem_of_getElem? (i := 1662) (by decide +kernel)⟩
theorem lw_p111 : lw_okq (⟨"VotedBankModel", "thinks", "()V"⟩, 54) := ⟨⟨by decide +kernel, by decide +kernel⟩, List.mem_of_getElem? (i := 1161) (by decide +kernel), List.mem_of_getElem? (i := 1681) (by decide +kernel), List.mem_of_getElem? (i := 1682) (by decide +kernel)⟩
def lw_privs_7 : List (MethodName × Nat) := [(⟨"VotedBankModel", "held", "(III)I"⟩, 54), (⟨"VotedBankModel", "draw", "(I)I"⟩, 54), (⟨"VotedBankModel", "rankWith", "(II)I"⟩, 54), (⟨"VotedBankModel", "notes", "(III)V"⟩, 54), (⟨"VotedBankModel", "wadingOf", "(II)I"⟩, 54), (⟨"VotedBankModel", "doesAbstain", "(III)Z"⟩, 54), (⟨"VotedBankModel", "abstainOf", "(III)I"⟩, 54), (⟨"VotedBankModel", "shellsOf", "(III)I"⟩, 54), (⟨"VotedBankModel", "winner", "()I"⟩, 54), (⟨"VotedBankModel", "greater", "(II)I"⟩, 54), (⟨"VotedBankModel", "lesser", "(II)I"⟩, 54), (⟨"VotedBankModel", "isOver", "(II)Z"⟩, 54), (⟨"VotedBankModel", "seasonOf", "(I)I"⟩, 54), (⟨"VotedBankModel", "stays", "(I)V"⟩, 54), (⟨"VotedBankModel", "shellsNow", "(I)I"⟩, 54), (⟨"VotedBankModel", "thinks", "()V"⟩, 54)]
theorem lw_r7 : ∀ q ∈ lw_privs_7, lw_okq q := List.forall_mem_cons.mpr ⟨lw_p96, List.forall_mem_cons.mpr ⟨lw_p97, List.forall_mem_cons.mpr ⟨lw_p98, List.forall_mem_cons.mpr ⟨lw_p99, List.forall_mem_cons.mpr ⟨lw_p100, List.forall_mem_cons.mpr ⟨lw_p101, List.forall_mem_cons.mpr ⟨lw_p102, List.forall_mem_cons.mpr ⟨lw_p103, List.forall_mem_cons.mpr ⟨lw_p104, List.forall_mem_cons.mpr ⟨lw_p105, List.forall_mem_cons.mpr ⟨lw_p106, List.forall_mem_cons.mpr ⟨lw_p107, List.forall_mem_cons.mpr ⟨lw_p108, List.forall_mem_cons.mpr ⟨lw_p109, List.forall_mem_cons.mpr ⟨lw_p110, List.forall_mem_cons.mpr ⟨lw_p111, fun _ h => absurd h List.not_mem_nil⟩⟩⟩⟩⟩⟩⟩⟩⟩⟩⟩⟩⟩⟩⟩⟩
theorem lw_p112 : lw_okq (⟨"VotedBankModel", "endsThought", "()V"⟩, 54) := ⟨⟨by decide +kernel, by decide +kernel⟩, List.mem_of_getElem? (i := 1161) (by decide +kernel), List.mem_of_getElem? (i := 1685) (by decide +kernel), List.mem_of_getElem? (i := 1686) (by decide +kernel)⟩
theorem lw_p113 : lw_okq (⟨"VotedBankModel", "findsLays", "()V"⟩, 54) := ⟨⟨by decide +kernel, by decide +kernel⟩, List.mem_of_getElem? (i := 1161) (by decide +kernel), List.mem_of_getElem? (i := 1693) (by decide +kernel), List.mem_of_getElem? (i := 1694) (by decide +kernel)⟩
theorem lw_p114 : lw_okq (⟨"VotedBankModel", "voteOf", "(III)I"⟩, 54) := ⟨⟨by decide +kernel, by decide +kernel⟩, List.mem_of_getElem? (i := 1161) (by decide +kernel), List.mem_of_getElem? (i := 1697) (by decide +kernel), List.mem_of_getElem? (i := 1698) (by decide +kernel)⟩
theorem lw_p115 : lw_okq (⟨"VotedBankModel", "beatsBy", "(II)I"⟩, 54) := ⟨⟨by decide +kernel, by decide +kernel⟩, List.mem_of_getElem? (i := 1161) (by decide +kernel), List.mem_of_getElem? (i := 1709) (by decide +kernel), List.mem_of_getElem? (i := 1710) (by decide +kernel)⟩
theorem lw_p116 : lw_okq (⟨"VotedBankModel", "isAhead", "(III)Z"⟩, 54) := ⟨⟨by decide +kernel, by decide +kernel⟩, List.mem_of_getElem? (i := 1161) (by decide +kernel), List.mem_of_getElem? (i := 1713) (by decide +kernel), List.mem_of_getElem? (i := 1714) (by decide +kernel)⟩
theorem lw_p117 : lw_okq (⟨"VotedBankModel", "placeIn", "(II)I"⟩, 54) := ⟨⟨by decide +kernel, by decide +kernel⟩, List.mem_of_getElem? (i := 1161) (by decide +kernel), List.mem_of_getElem? (i := 1717) (by decide +kernel), List.mem_of_getElem? (i := 1718) (by decide +kernel)⟩
theorem lw_p118 : lw_okq (⟨"VotedBankModel", "champion", "()I"⟩, 54) := ⟨⟨by decide +kernel, by decide +kernel⟩, List.mem_of_getElem? (i := 1161) (by decide +kernel), List.mem_of_getElem? (i := 1725) (by decide +kernel), List.mem_of_getElem? (i := 1726) (by decide +kernel)⟩
theorem lw_p119 : lw_okq (⟨"VotedBankModel", "lastLand", "()I"⟩, 54) := ⟨⟨by decide +kernel, by decide +kernel⟩, List.mem_of_getElem? (i := 1161) (by decide +kernel), List.mem_of_getElem? (i := 1729) (by decide +kernel), List.mem_of_getElem? (i := 1730) (by decide +kernel)⟩
theorem lw_p120 : lw_okq (⟨"VotedBankModel", "goesAmong", "(I)I"⟩, 54) := ⟨⟨by decide +kernel, by decide +kernel⟩, List.mem_of_getElem? (i := 1161) (by decide +kernel), List.mem_of_getElem? (i := 1733) (by decide +kernel), List.mem_of_getElem? (i := 1734) (by decide +kernel)⟩
theorem lw_p121 : lw_okq (⟨"VotedBankModel", "firstAmong", "(II)I"⟩, 54) := ⟨⟨by decide +kernel, by decide +kernel⟩, List.mem_of_getElem? (i := 1161) (by decide +kernel), List.mem_of_getElem? (i := 1737) (by decide +kernel), List.mem_of_getElem? (i := 1738) (by decide +kernel)⟩
theorem lw_p122 : lw_okq (⟨"VotedBankModel", "pointsOf", "(I)I"⟩, 54) := ⟨⟨by decide +kernel, by decide +kernel⟩, List.mem_of_getElem? (i := 1161) (by decide +kernel), List.mem_of_getElem? (i := 1741) (by decide +kernel), List.mem_of_getElem? (i := 1742) (by decide +kernel)⟩
theorem lw_p123 : lw_okq (⟨"VotedBankModel", "putFor", "(I)I"⟩, 54) := ⟨⟨by decide +kernel, by decide +kernel⟩, List.mem_of_getElem? (i := 1161) (by decide +kernel), List.mem_of_getElem? (i := 1745) (by decide +kernel), List.mem_of_getElem? (i := 1746) (by decide +kernel)⟩
theorem lw_p124 : lw_okq (⟨"VotedBankModel", "putBy", "(I)I"⟩, 54) := ⟨⟨by decide +kernel, by decide +kernel⟩, List.mem_of_getElem? (i := 1161) (by decide +kernel), List.mem_of_getElem? (i := 1749) (by decide +kernel), List.mem_of_getElem? (i := 1750) (by decide +kernel)⟩
theorem lw_p125 : lw_okq (⟨"VotedBankModel", "boatsBy", "(I)I"⟩, 54) := ⟨⟨by decide +kernel, by decide +kernel⟩, List.mem_of_getElem? (i := 1161) (by decide +kernel), List.mem_of_getElem? (i := 1757) (by decide +kernel), List.mem_of_getElem? (i := 1758) (by decide +kernel)⟩
theorem lw_p126 : lw_okq (⟨"VotedBankModel", "crossingsBy", "(I)I"⟩, 54) := ⟨⟨by decide +kernel, by decide +kernel⟩, List.mem_of_getElem? (i := 1161) (by decide +kernel), List.mem_of_getElem? (i := 1761) (by decide +kernel), List.mem_of_getElem? (i := 1762) (by decide +kernel)⟩
theorem lw_p127 : lw_okq (⟨"VotedBankModel", "hearersOf", "(I)I"⟩, 54) := ⟨⟨by decide +kernel, by decide +kernel⟩, List.mem_of_getElem? (i := 1161) (by decide +kernel), List.mem_of_getElem? (i := 1769) (by decide +kernel), List.mem_of_getElem? (i := 1770) (by decide +kernel)⟩
def lw_privs_8 : List (MethodName × Nat) := [(⟨"VotedBankModel", "endsThought", "()V"⟩, 54), (⟨"VotedBankModel", "findsLays", "()V"⟩, 54), (⟨"VotedBankModel", "voteOf", "(III)I"⟩, 54), (⟨"VotedBankModel", "beatsBy", "(II)I"⟩, 54), (⟨"VotedBankModel", "isAhead", "(III)Z"⟩, 54), (⟨"VotedBankModel", "placeIn", "(II)I"⟩, 54), (⟨"VotedBankModel", "champion", "()I"⟩, 54), (⟨"VotedBankModel", "lastLand", "()I"⟩, 54), (⟨"VotedBankModel", "goesAmong", "(I)I"⟩, 54), (⟨"VotedBankModel", "firstAmong", "(II)I"⟩, 54), (⟨"VotedBankModel", "pointsOf", "(I)I"⟩, 54), (⟨"VotedBankModel", "putFor", "(I)I"⟩, 54), (⟨"VotedBankModel", "putBy", "(I)I"⟩, 54), (⟨"VotedBankModel", "boatsBy", "(I)I"⟩, 54), (⟨"VotedBankModel", "crossingsBy", "(I)I"⟩, 54), (⟨"VotedBankModel", "hearersOf", "(I)I"⟩, 54)]
theorem lw_r8 : ∀ q ∈ lw_privs_8, lw_okq q := List.forall_mem_cons.mpr ⟨lw_p112, List.forall_mem_cons.mpr ⟨lw_p113, List.forall_mem_cons.mpr ⟨lw_p114, List.forall_mem_cons.mpr ⟨lw_p115, List.forall_mem_cons.mpr ⟨lw_p116, List.forall_mem_cons.mpr ⟨lw_p117, List.forall_mem_cons.mpr ⟨lw_p118, List.forall_mem_cons.mpr ⟨lw_p119, List.forall_mem_cons.mpr ⟨lw_p120, List.forall_mem_cons.mpr ⟨lw_p121, List.forall_mem_cons.mpr ⟨lw_p122, List.forall_mem_cons.mpr ⟨lw_p123, List.forall_mem_cons.mpr ⟨lw_p124, List.forall_mem_cons.mpr ⟨lw_p125, List.forall_mem_cons.mpr ⟨lw_p126, List.forall_mem_cons.mpr ⟨lw_p127, fun _ h => absurd h List.not_mem_nil⟩⟩⟩⟩⟩⟩⟩⟩⟩⟩⟩⟩⟩⟩⟩⟩
theorem lw_p128 : lw_okq (⟨"VotedBankModel", "otherwise", "(II)I"⟩, 54) := ⟨⟨by decide +kernel, by decide +kernel⟩, List.mem_of_getElem? (i := 1161) (by decide +kernel), List.mem_of_getElem? (i := 1777) (by decide +kernel), List.mem_of_getElem? (i := 1778) (by decide +kernel)⟩
theorem lw_p129 : lw_okq (⟨"VotedBankModel", "otherwiseAll", "(I)I"⟩, 54) := ⟨⟨by decide +kernel, by decide +kernel⟩, List.mem_of_getElem? (i := 1161) (by decide +kernel), List.mem_of_getElem? (i := 1786) (by decide +kernel), List.mem_of_getElem? (i := 1787) (by decide +kernel)⟩
theorem lw_p130 : lw_okq (⟨"VotedBankModel", "canBegin", "(II)Z"⟩, 54) := ⟨⟨by decide +kernel, by decide +kernel⟩, List.mem_of_getElem? (i := 1161) (by decide +kernel), List.mem_of_getElem? (i := 1798) (by decide +kernel), List.mem_of_getElem? (i := 1799) (by decide +kernel)⟩
theorem lw_p131 : lw_okq (⟨"VotedBankModel", "bribesOf", "(I)I"⟩, 54) := ⟨⟨by decide +kernel, by decide +kernel⟩, List.mem_of_getElem? (i := 1161) (by decide +kernel), List.mem_of_getElem? (i := 1810) (by decide +kernel), List.mem_of_getElem? (i := 1811) (by decide +kernel)⟩
theorem lw_p132 : lw_okq (⟨"VotedBankModel", "nimber", "(I)I"⟩, 54) := ⟨⟨by decide +kernel, by decide +kernel⟩, List.mem_of_getElem? (i := 1161) (by decide +kernel), List.mem_of_getElem? (i := 1818) (by decide +kernel), List.mem_of_getElem? (i := 1819) (by decide +kernel)⟩
theorem lw_p133 : lw_okq (⟨"VotedBankModel", "keeps", "(I)I"⟩, 54) := ⟨⟨by decide +kernel, by decide +kernel⟩, List.mem_of_getElem? (i := 1161) (by decide +kernel), List.mem_of_getElem? (i := 1826) (by decide +kernel), List.mem_of_getElem? (i := 1827) (by decide +kernel)⟩
theorem lw_p134 : lw_okq (⟨"VotedBankModel", "keepsTold", "()V"⟩, 54) := ⟨⟨by decide +kernel, by decide +kernel⟩, List.mem_of_getElem? (i := 1161) (by decide +kernel), List.mem_of_getElem? (i := 1830) (by decide +kernel), List.mem_of_getElem? (i := 1831) (by decide +kernel)⟩
theorem lw_p135 : lw_okq (⟨"VotedBankModel", "keepsLaw", "()V"⟩, 54) := ⟨⟨by decide +kernel, by decide +kernel⟩, List.mem_of_getElem? (i := 1161) (by decide +kernel), List.mem_of_getElem? (i := 1834) (by decide +kernel), List.mem_of_getElem? (i := 1835) (by decide +kernel)⟩
def lw_privs_9 : List (MethodName × Nat) := [(⟨"VotedBankModel", "otherwise", "(II)I"⟩, 54), (⟨"VotedBankModel", "otherwiseAll", "(I)I"⟩, 54), (⟨"VotedBankModel", "canBegin", "(II)Z"⟩, 54), (⟨"VotedBankModel", "bribesOf", "(I)I"⟩, 54), (⟨"VotedBankModel", "nimber", "(I)I"⟩, 54), (⟨"VotedBankModel", "keeps", "(I)I"⟩, 54), (⟨"VotedBankModel", "keepsTold", "()V"⟩, 54), (⟨"VotedBankModel", "keepsLaw", "()V"⟩, 54)]
theorem lw_r9 : ∀ q ∈ lw_privs_9, lw_okq q := List.forall_mem_cons.mpr ⟨lw_p128, List.forall_mem_cons.mpr ⟨lw_p129, List.forall_mem_cons.mpr ⟨lw_p130, List.forall_mem_cons.mpr ⟨lw_p131, List.forall_mem_cons.mpr ⟨lw_p132, List.forall_mem_cons.mpr ⟨lw_p133, List.forall_mem_cons.mpr ⟨lw_p134, List.forall_mem_cons.mpr ⟨lw_p135, fun _ h => absurd h List.not_mem_nil⟩⟩⟩⟩⟩⟩⟩⟩
def lw_privs : List (MethodName × Nat) := lw_privs_1 ++ (lw_privs_2 ++ (lw_privs_3 ++ (lw_privs_4 ++ (lw_privs_5 ++ (lw_privs_6 ++ (lw_privs_7 ++ (lw_privs_8 ++ (lw_privs_9))))))))
def lw_tbl : List Cond := k2_sels lw_privs ++ tables_1
theorem lw_privs_ok : ∀ q ∈ lw_privs, lw_okq q := by
  show ∀ q ∈ lw_privs_1 ++ (lw_privs_2 ++ (lw_privs_3 ++ (lw_privs_4 ++ (lw_privs_5 ++ (lw_privs_6 ++ (lw_privs_7 ++ (lw_privs_8 ++ (lw_privs_9)))))))), lw_okq q
  exact List.forall_mem_append.mpr ⟨lw_r1, List.forall_mem_append.mpr ⟨lw_r2, List.forall_mem_append.mpr ⟨lw_r3, List.forall_mem_append.mpr ⟨lw_r4, List.forall_mem_append.mpr ⟨lw_r5, List.forall_mem_append.mpr ⟨lw_r6, List.forall_mem_append.mpr ⟨lw_r7, List.forall_mem_append.mpr ⟨lw_r8, lw_r9⟩⟩⟩⟩⟩⟩⟩⟩
end
section
/-! An interpreter of the part of the bytecode that this program uses, over numbered cells: what a method does, as a function. Shapes (S) hold what kind a cell is and its references; st holds all ints: st c i is slot i of cell c. Cells from 1000 on are given ones (script, RANKS, texts) that nobody writes. -/
abbrev ix_Sh : Type := Nat × Nat × List (Option (Option Nat))
abbrev ix_St : Type := Nat → Nat → Int32
abbrev ix_H : Type := List ix_Sh × ix_St
abbrev ix_R : Type := Option (Value × ix_H)
abbrev ix_L : Type := List (Option Value)
/-- an instruction of a method: pc, instruction, length, which locals live (where the interpreter stops), what it is linked to, a constant -/
abbrev ix_E : Type := Nat × Instr × Nat × Option (List Bool) × Nat × Nat × Nat × Nat × Int32
def ix_row (σ : ix_St) (c : Nat) (f : Nat → Int32) : ix_St := fun d => if d = c then f else σ d
def ix_up (σ : ix_St) (c i : Nat) (v : Int32) : ix_St := ix_row σ c (upd (σ c) i v)
def ix_n {α : Type} : List α → Nat → Option α
  | [], _ => none
  | a :: _, 0 => some a
  | _ :: l, n + 1 => ix_n l n
def ix_mask : List Bool → ix_L → ix_L
  | b :: bs, v :: vs => (bif b then v else none) :: ix_mask bs vs
  | _, _ => []
/-- the given cells: the script, RANKS, five texts and their bytes -/
def ix_xs (σ : ix_St) : List ix_Sh := [(11, (σ 999 0).toNatClampNeg, []), (11, 120, []), (14, 0, []), (14, 1, []), (14, 2, []), (14, 3, []), (14, 4, []), (12, 98, []), (12, 15, []), (12, 8, []), (12, 14, []), (12, 10, [])]
def ix_sh (h : ix_H) (r : Nat) : Option ix_Sh := bif Nat.blt r 1000 then ix_n h.1 r else ix_n (ix_xs h.2) (r - 1000)
def ix_popI (st : List Value) (k : Int32 → List Value → ix_R) : ix_R := match st with
  | .int x :: r => k x r
  | _ => none
def ix_popR (st : List Value) (k : Nat → List Value → ix_R) : ix_R := match st with
  | .ref x :: r => k x r
  | _ => none
def ix_popN : Nat → List Value → List Value → Option (List Value × List Value)
  | 0, acc, st => some (acc, st)
  | _ + 1, _, [] => none
  | n + 1, acc, v :: st => ix_popN n (v :: acc) st
/-- an array of kind k (or k + 10: a given one) at r, of length n -/
def ix_arr (h : ix_H) (r k : Nat) (f : Nat → ix_R) : ix_R := match ix_sh h r with
  | some (q, n, _) => bif (Nat.beq q k || Nat.beq q (k + 10)) then f n else none
  | none => none
/-- an own array of kind k -/
def ix_own (h : ix_H) (r k : Nat) (f : Nat → ix_R) : ix_R := match ix_n h.1 r with
  | some (q, n, _) => bif Nat.beq q k then f n else none
  | none => none
def ix_isA (h : ix_H) (r ci : Nat) : Bool := match ix_sh h r with
  | some (q, n, _) => (Nat.beq q 0 && Nat.beq n ci) || (Nat.beq q 14 && Nat.beq ci 99)
  | none => false
def ix_get (h : ix_H) (r ci k : Nat) (f : Value → ix_R) : ix_R := match ix_sh h r with
  | some (q, n, sl) => bif (Nat.beq q 0 && Nat.beq n ci) then (match ix_n sl k with
      | some none => f (.int (h.2 r k))
      | some (some (some a)) => f (.ref a)
      | _ => none) else bif (Nat.beq q 14 && Nat.beq ci 99) then (match k with
      | 0 => f (.ref (1007 + n))
      | _ => f (.int 0)) else none
  | none => none
/-- b: the slot's kind (0 int, 1 boolean, 2 a reference) -/
def ix_put (h : ix_H) (r ci k b : Nat) (v : Value) (f : ix_H → ix_R) : ix_R := match ix_n h.1 r with
  | some (q, n, sl) => bif (Nat.beq q 0 && Nat.beq n ci) then (match v, b, ix_n sl k with
      | .int x, 0, some none => f (h.1, ix_up h.2 r k x)
      | .int x, 1, some none => if x = 0 ∨ x = 1 then f (h.1, ix_up h.2 r k x) else none
      | .ref a, 2, some (some _) => f (h.1.set r (q, n, sl.set k (some (some a))), h.2)
      | _, _, _ => none) else none
  | none => none
def ix_ch : List (Option (Option Nat)) → Nat → Nat → (Nat → ix_R) → ix_R
  | some (some a) :: l, j, i, k => if i = j then k a else ix_ch l (j + 1) i k
  | _, _, _, _ => none
def ix_sw : List Int → Int → Int → Int → (Int → ix_R) → ix_R
  | [], _, d, _, k => k d
  | o :: os, j, d, x, k => if x = j then k o else ix_sw os (j + 1) d x k
def ix_lk : List (Int × Int) → Int → Int → (Int → ix_R) → ix_R
  | [], d, _, k => k d
  | o :: os, d, x, k => if x = o.1 then k o.2 else ix_lk os d x k
/-- fresh slots of an object of a class -/
def ix_fs (kinds : List Nat) : List (Option (Option Nat)) := kinds.map fun k => bif Nat.beq k 2 then some none else none
def ix_new (h : ix_H) (sh : ix_Sh) (k : Nat → ix_H → ix_R) : ix_R := bif Nat.blt h.1.length 900 then k h.1.length (h.1 ++ [sh], ix_row h.2 h.1.length (fun _ => 0)) else none
def ix_nar (t : Nat) (x : Int32) (k : ix_R) : ix_R := match t with
  | 0 => k
  | 1 => if x = 0 ∨ x = 1 then k else none
  | 2 => if x.toInt8.toInt32 = x then k else none
  | _ => if (x.toUInt32 % 65536).toInt32 = x then k else none
def ix_cpy (h : ix_H) (n dp : Int32) (q : Nat) (sp : Int32) (p : Nat) (k : ix_H → ix_R) : ix_R := ix_own h p 1 fun n0 => ix_own h q 1 fun n1 =>
  if sp < 0 ∨ dp < 0 ∨ n < 0 ∨ n0 < sp.toNatClampNeg + n.toNatClampNeg ∨ n1 < dp.toNatClampNeg + n.toNatClampNeg then none
  else k (h.1, ix_row h.2 q (va_cpy (h.2 p) (h.2 q) sp.toNatClampNeg dp.toNatClampNeg n.toNatClampNeg))
abbrev ix_KL : Type := Nat → List Value → ix_H → (Value → ix_H → ix_R) → ix_R
def ix_call (cl : ix_KL) (nx : ix_L → List Value → ix_H → ix_R) (ls : ix_L) (st : List Value) (h : ix_H) (a b c : Nat) : ix_R := match ix_popN b [] st with
  | some (as, st') => bif Nat.ble st'.length 8 then cl a as h fun v h' => nx ls (bif Nat.beq c 0 then st' else v :: st') h' else none
  | none => none
def ix_recv (h : ix_H) (b d : Nat) (st : List Value) (k : ix_R) : ix_R := match ix_n st (b - 1) with
  | some (.ref r) => bif ix_isA h r d then k else none
  | _ => none
def ix_ret (st : List Value) (k : Value → ix_R) : ix_R := match st with
  | [v] => k v
  | _ => none
/-- the slots of each class: 0 int, 1 boolean, 2 a reference -/
def ix_kinds : Nat → List Nat
  | 0 => [2, 0]
  | 1 => [2, 0, 2, 2, 2, 2, 1, 0]
  | 2 => [2, 2, 2, 2, 2, 2, 2, 0, 0]
  | 3 => [2, 0, 0, 2, 0]
  | 4 => [2, 2, 0, 0]
  | 5 => [2, 2, 2, 2, 2, 0, 0]
  | 6 => [0, 0, 0, 0, 0, 0, 0, 0, 2, 2, 2, 2, 2, 2]
  | 7 => [2, 0, 2, 2, 2, 0, 0, 0, 0, 0]
  | 8 => [2, 2, 2, 2, 2, 2, 2]
  | 9 => [2, 2, 2, 2, 2, 0]
  | 10 => [2, 2, 2, 2, 2, 2, 2, 1]
  | 11 => [0, 2, 2, 0, 2, 1, 0, 0, 2, 2, 2, 2, 2, 0, 0, 0, 0, 0, 2, 2, 2, 2, 2, 2, 2, 2, 0, 0, 0, 2, 0, 0, 0, 0, 0, 0, 2, 0, 2, 0, 2, 2, 2, 0, 2, 2, 2, 0, 2, 2, 1, 1, 0, 2]
  | _ => []
/-- one instruction: nx goes on behind it, jp goes on at a pc, cl is what a called method does -/
def ix_ex (cl : ix_KL) (nx : ix_L → List Value → ix_H → ix_R) (jp : Nat → ix_L → List Value → ix_H → ix_R) (e : ix_E) (ls : ix_L) (st : List Value) (h : ix_H) : ix_R := match e with
  | (pc, ins, _, _, a, b, c, d, v) => match ins with
    | .iconst _ => nx ls (.int v :: st) h
    | .bipush _ => nx ls (.int v :: st) h
    | .sipush _ => nx ls (.int v :: st) h
    | .ldc _ => bif Nat.beq b 0 then nx ls (.int v :: st) h else nx ls (.ref a :: st) h
    | .ldc_w _ => nx ls (.int v :: st) h
    | .iload _ | .iload_n _ => (match ix_n ls a with
        | some (some (.int x)) => nx ls (.int x :: st) h
        | _ => none)
    | .aload _ | .aload_n _ => (match ix_n ls a with
        | some (some (.ref x)) => nx ls (.ref x :: st) h
        | _ => none)
    | .istore _ | .istore_n _ => ix_popI st fun x st => bif Nat.blt a ls.length then nx (ls.set a (some (.int x))) st h else none
    | .astore _ | .astore_n _ => ix_popR st fun x st => bif Nat.blt a ls.length then nx (ls.set a (some (.ref x))) st h else none
    | .iinc _ _ => (match ix_n ls a with
        | some (some (.int x)) => nx (ls.set a (some (.int (bif Nat.beq c 0 then x + v else x - v)))) st h
        | _ => none)
    | .dup => (match st with
        | x :: st => nx ls (x :: x :: st) h
        | _ => none)
    | .dup2 => (match st with
        | x :: y :: st => nx ls (x :: y :: x :: y :: st) h
        | _ => none)
    | .pop => (match st with
        | _ :: st => nx ls st h
        | _ => none)
    | .iadd => ix_popI st fun y st => ix_popI st fun x st => nx ls (.int (x + y) :: st) h
    | .isub => ix_popI st fun y st => ix_popI st fun x st => nx ls (.int (x - y) :: st) h
    | .imul => ix_popI st fun y st => ix_popI st fun x st => nx ls (.int (x * y) :: st) h
    | .idiv => ix_popI st fun y st => ix_popI st fun x st => if y = 0 then none else nx ls (.int (x / y) :: st) h
    | .irem => ix_popI st fun y st => ix_popI st fun x st => if y = 0 then none else nx ls (.int (x - x / y * y) :: st) h
    | .ineg => ix_popI st fun x st => nx ls (.int (-x) :: st) h
    | .ishl => ix_popI st fun y st => ix_popI st fun x st => nx ls (.int (x <<< (y &&& 31)) :: st) h
    | .ishr => ix_popI st fun y st => ix_popI st fun x st => nx ls (.int (x >>> (y &&& 31)) :: st) h
    | .iushr => ix_popI st fun y st => ix_popI st fun x st => nx ls (.int (x.toUInt32 >>> (y.toUInt32 &&& Int32.toUInt32 31)).toInt32 :: st) h
    | .iand => ix_popI st fun y st => ix_popI st fun x st => nx ls (.int (x &&& y) :: st) h
    | .ior => ix_popI st fun y st => ix_popI st fun x st => nx ls (.int (x ||| y) :: st) h
    | .ixor => ix_popI st fun y st => ix_popI st fun x st => nx ls (.int (x ^^^ y) :: st) h
    | .i2b => ix_popI st fun x st => nx ls (.int x.toInt8.toInt32 :: st) h
    | .i2c => ix_popI st fun x st => nx ls (.int (x.toUInt32 % 65536).toInt32 :: st) h
    | .goto _ => jp a ls st h
    | .ifCond cd _ => ix_popI st fun x st => (match cd with
        | .eq => if x = 0 then jp a ls st h else nx ls st h
        | .ne => if x = 0 then nx ls st h else jp a ls st h
        | .lt => if x < 0 then jp a ls st h else nx ls st h
        | .ge => if 0 ≤ x then jp a ls st h else nx ls st h
        | .gt => if 0 < x then jp a ls st h else nx ls st h
        | .le => if x ≤ 0 then jp a ls st h else nx ls st h)
    | .if_icmp cd _ => ix_popI st fun y st => ix_popI st fun x st => (match cd with
        | .eq => if x = y then jp a ls st h else nx ls st h
        | .ne => if x = y then nx ls st h else jp a ls st h
        | .lt => if x < y then jp a ls st h else nx ls st h
        | .ge => if y ≤ x then jp a ls st h else nx ls st h
        | .gt => if y < x then jp a ls st h else nx ls st h
        | .le => if x ≤ y then jp a ls st h else nx ls st h)
    | .tableswitch df lo _ os => ix_popI st fun x st => ix_sw os.toList lo df x.toInt fun o => jp ((pc : Int) + o).toNat ls st h
    | .lookupswitch df ps => ix_popI st fun x st => ix_lk ps.toList df x.toInt fun o => jp ((pc : Int) + o).toNat ls st h
    | .getstatic _ => bif Nat.beq b 0 then nx ls (.int v :: st) h else nx ls (.ref a :: st) h
    | .getfield _ => ix_popR st fun r st => ix_get h r a b fun x => nx ls (x :: st) h
    | .putfield _ => (match st with
        | x :: st => ix_popR st fun r st => ix_put h r a b c x fun h => nx ls st h
        | _ => none)
    | .arraylength => ix_popR st fun r st => (match ix_sh h r with
        | some (q, n, _) => bif (Nat.beq q 1 || Nat.beq q 2 || Nat.beq q 11 || Nat.beq q 12) then nx ls (.int (Int32.ofNat n) :: st) h else none
        | none => none)
    | .iaload => ix_popI st fun i st => ix_popR st fun r st => ix_arr h r 1 fun n => if i < 0 ∨ n ≤ i.toNatClampNeg then none else nx ls (.int (h.2 r i.toNatClampNeg) :: st) h
    | .baload => ix_popI st fun i st => ix_popR st fun r st => ix_arr h r 2 fun n => if i < 0 ∨ n ≤ i.toNatClampNeg then none else nx ls (.int (h.2 r i.toNatClampNeg) :: st) h
    | .iastore => ix_popI st fun x st => ix_popI st fun i st => ix_popR st fun r st => ix_own h r 1 fun n => if i < 0 ∨ n ≤ i.toNatClampNeg then none else nx ls st (h.1, ix_up h.2 r i.toNatClampNeg x)
    | .bastore => ix_popI st fun x st => ix_popI st fun i st => ix_popR st fun r st => ix_own h r 2 fun n => if i < 0 ∨ n ≤ i.toNatClampNeg then none else nx ls st (h.1, ix_up h.2 r i.toNatClampNeg x.toInt8.toInt32)
    | .aaload => ix_popI st fun i st => ix_popR st fun r st => (match ix_n h.1 r with
        | some (q, n, sl) => bif Nat.beq q 3 then (if i < 0 ∨ n ≤ i.toNatClampNeg then none else ix_ch sl 0 i.toNatClampNeg fun a => nx ls (.ref a :: st) h) else none
        | none => none)
    | .aastore => ix_popR st fun x st => ix_popI st fun i st => ix_popR st fun r st => (match ix_n h.1 r with
        | some (q, n, sl) => bif (Nat.beq q 3 && ix_isA h x 6) then (if i < 0 ∨ n ≤ i.toNatClampNeg ∨ sl.length ≤ i.toNatClampNeg then none else nx ls st (h.1.set r (q, n, sl.set i.toNatClampNeg (some (some x))), h.2)) else none
        | none => none)
    | .new _ => ix_new h (0, a, ix_fs (ix_kinds a)) fun r h => nx ls (.ref r :: st) h
    | .newarray t => ix_popI st fun n st => if n < 0 ∨ 5000 < n.toNatClampNeg then none else (match t with
        | .int => ix_new h (1, n.toNatClampNeg, []) fun r h => nx ls (.ref r :: st) h
        | .byte => ix_new h (2, n.toNatClampNeg, []) fun r h => nx ls (.ref r :: st) h
        | _ => none)
    | .anewarray _ => ix_popI st fun n st => if n < 0 ∨ 5000 < n.toNatClampNeg then none else ix_new h (3, n.toNatClampNeg, List.replicate n.toNatClampNeg (some none)) fun r h => nx ls (.ref r :: st) h
    | .invokestatic _ => bif Nat.beq c 2 then (ix_popI st fun n st => ix_popI st fun dp st => ix_popR st fun q st => ix_popI st fun sp st => ix_popR st fun p st => bif Nat.ble st.length 8 then ix_cpy h n dp q sp p fun h => nx ls st h else none)
        else ix_call cl nx ls st h a b c
    | .invokevirtual _ => ix_recv h b d st (ix_call cl nx ls st h a b c)
    | .invokespecial _ => bif Nat.beq c 2 then (ix_popR st fun _ st => bif Nat.ble st.length 8 then nx ls st h else none) else ix_recv h b d st (ix_call cl nx ls st h a b c)
    | .ireturn => ix_ret st fun x => (match x with
        | .int x => ix_nar a x (some (.int x, h))
        | _ => none)
    | .areturn => ix_ret st fun x => (match x with
        | .ref r => some (.ref r, h)
        | _ => none)
    | .return_ => (match st with
        | [] => some (.null, h)
        | _ => none)
    | _ => none
def ix_fd (tab : List ix_E) (pc : Nat) : List ix_E := tab.dropWhile fun e => !Nat.beq e.1 pc
/-- the run up to a stop: cb is what comes from a stop on -/
def ix_go (tab : List ix_E) (cb : Nat → ix_L → List Value → ix_H → ix_R) (cl : ix_KL) : Nat → List ix_E → Nat → ix_L → List Value → ix_H → ix_R
  | 0, _, _, _, _, _ => none
  | _ + 1, [], _, _, _, _ => none
  | k + 1, e :: rest, pc, ls, st, h => bif Nat.beq e.1 pc then (match e.2.2.2.1 with
      | some kp => cb pc (ix_mask kp ls) st h
      | none => ix_ex cl (ix_go tab cb cl k rest (pc + e.2.2.1)) (fun t => ix_go tab cb cl k (ix_fd tab t) t) e ls st h) else none
def ix_at (tab : List ix_E) (cb : Nat → ix_L → List Value → ix_H → ix_R) (cl : ix_KL) (pc : Nat) (ls : ix_L) (st : List Value) (h : ix_H) : ix_R :=
  match ix_fd tab pc with
  | [] => none
  | e :: rest => ix_ex cl (ix_go tab cb cl 3000 rest (pc + e.2.2.1)) (fun t => ix_go tab cb cl 3000 (ix_fd tab t) t) e ls st h
/-- what called methods do, as the interpreter takes it -/
def ix_D0 (cl : Nat → List Value → ix_H → ix_R) : ix_KL := fun a as h k => (cl a as h).bind fun x => k x.1 x.2
end
section
def ix_e (pc : Nat) (i : Instr) (n a b c d : Nat) (v : Int32) : ix_E := (pc, i, n, none, a, b, c, d, v)
def ix_c (pc : Nat) (i : Instr) (n : Nat) (k : List Bool) (a b c d : Nat) (v : Int32) : ix_E := (pc, i, n, some k, a, b, c, d, v)
/-- VotedBankLaw.law ([I)Z -/
def ix_t0 : List ix_E := [ix_e 0 (.new (7)) 3 10 0 0 0 0,
  ix_e 3 .dup 1 0 0 0 0 0,
  ix_e 4 (.invokespecial (9)) 3 1 1 0 10 0,
  ix_e 7 (.astore_n (1)) 1 1 0 0 0 0,
  ix_e 8 (.new (10)) 3 11 0 0 0 0,
  ix_e 11 .dup 1 0 0 0 0 0,
  ix_e 12 (.invokespecial (12)) 3 156 1 0 11 0,
  ix_e 15 (.astore_n (2)) 1 2 0 0 0 0,
  ix_e 16 (.iconst (0)) 1 0 0 0 0 0,
  ix_e 17 (.istore_n (3)) 1 3 0 0 0 0,
  ix_c 18 (.iload_n (3)) 1 [true, true, true, true] 3 0 0 0 0,
  ix_e 19 (.aload_n (0)) 1 0 0 0 0 0,
  ix_e 20 .arraylength 1 0 0 0 0 0,
  ix_e 21 (.bipush (6)) 2 0 0 0 0 6,
  ix_e 23 .isub 1 0 0 0 0 0,
  ix_e 24 (.if_icmp .gt (1105)) 3 1129 0 0 0 0,
  ix_e 27 (.aload_n (0)) 1 0 0 0 0 0,
  ix_e 28 (.iload_n (3)) 1 3 0 0 0 0,
  ix_e 29 .iaload 1 0 0 0 0 0,
  ix_e 30 (.bipush (31)) 2 0 0 0 0 31,
  ix_e 32 .iand 1 0 0 0 0 0,
  ix_e 33 (.tableswitch (1090) (0) (30) #[139, 162, 231, 274, 297, 346, 359, 422, 445, 468, 491, 524, 557, 590, 623, 656, 689, 712, 745, 768, 801, 824, 857, 880, 903, 926, 959, 992, 1015, 1028, 1067]) 139 0 0 0 0 0,
  ix_c 172 (.aload_n (1)) 1 [true, true, true, true] 1 0 0 0 0,
  ix_e 173 (.aload_n (0)) 1 0 0 0 0 0,
  ix_e 174 (.iload_n (3)) 1 3 0 0 0 0,
  ix_e 175 (.iconst (1)) 1 0 0 0 0 1,
  ix_e 176 .iadd 1 0 0 0 0 0,
  ix_e 177 .iaload 1 0 0 0 0 0,
  ix_e 178 (.invokevirtual (13)) 3 2 2 1 10 0,
  ix_e 181 (.aload_n (2)) 1 2 0 0 0 0,
  ix_e 182 (.aload_n (0)) 1 0 0 0 0 0,
  ix_e 183 (.iload_n (3)) 1 3 0 0 0 0,
  ix_e 184 (.iconst (1)) 1 0 0 0 0 1,
  ix_e 185 .iadd 1 0 0 0 0 0,
  ix_e 186 .iaload 1 0 0 0 0 0,
  ix_e 187 (.invokevirtual (17)) 3 157 2 1 11 0,
  ix_e 190 (.if_icmp .eq (933)) 3 1123 0 0 0 0,
  ix_e 193 (.iconst (0)) 1 0 0 0 0 0,
  ix_e 194 .ireturn 1 1 0 0 0 0,
  ix_c 195 (.aload_n (1)) 1 [true, true, true, true] 1 0 0 0 0,
  ix_e 196 (.aload_n (0)) 1 0 0 0 0 0,
  ix_e 197 (.iload_n (3)) 1 3 0 0 0 0,
  ix_e 198 (.iconst (1)) 1 0 0 0 0 1,
  ix_e 199 .iadd 1 0 0 0 0 0,
  ix_e 200 .iaload 1 0 0 0 0 0,
  ix_e 201 (.aload_n (0)) 1 0 0 0 0 0,
  ix_e 202 (.iload_n (3)) 1 3 0 0 0 0,
  ix_e 203 (.iconst (2)) 1 0 0 0 0 2,
  ix_e 204 .iadd 1 0 0 0 0 0,
  ix_e 205 .iaload 1 0 0 0 0 0,
  ix_e 206 (.ifCond .eq (7)) 3 213 0 0 0 0,
  ix_e 209 (.iconst (1)) 1 0 0 0 0 1,
  ix_e 210 (.goto (4)) 3 214 0 0 0 0,
  ix_e 213 (.iconst (0)) 1 0 0 0 0 0,
  ix_e 214 (.aload_n (0)) 1 0 0 0 0 0,
  ix_e 215 (.iload_n (3)) 1 3 0 0 0 0,
  ix_e 216 (.iconst (3)) 1 0 0 0 0 3,
  ix_e 217 .iadd 1 0 0 0 0 0,
  ix_e 218 .iaload 1 0 0 0 0 0,
  ix_e 219 (.aload_n (0)) 1 0 0 0 0 0,
  ix_e 220 (.iload_n (3)) 1 3 0 0 0 0,
  ix_e 221 (.iconst (4)) 1 0 0 0 0 4,
  ix_e 222 .iadd 1 0 0 0 0 0,
  ix_e 223 .iaload 1 0 0 0 0 0,
  ix_e 224 (.invokevirtual (18)) 3 3 5 1 10 0,
  ix_e 227 (.aload_n (2)) 1 2 0 0 0 0,
  ix_e 228 (.aload_n (0)) 1 0 0 0 0 0,
  ix_e 229 (.iload_n (3)) 1 3 0 0 0 0,
  ix_e 230 (.iconst (1)) 1 0 0 0 0 1,
  ix_e 231 .iadd 1 0 0 0 0 0,
  ix_e 232 .iaload 1 0 0 0 0 0,
  ix_e 233 (.aload_n (0)) 1 0 0 0 0 0,
  ix_e 234 (.iload_n (3)) 1 3 0 0 0 0,
  ix_e 235 (.iconst (2)) 1 0 0 0 0 2,
  ix_e 236 .iadd 1 0 0 0 0 0,
  ix_e 237 .iaload 1 0 0 0 0 0,
  ix_e 238 (.ifCond .eq (7)) 3 245 0 0 0 0,
  ix_e 241 (.iconst (1)) 1 0 0 0 0 1,
  ix_e 242 (.goto (4)) 3 246 0 0 0 0,
  ix_e 245 (.iconst (0)) 1 0 0 0 0 0,
  ix_e 246 (.aload_n (0)) 1 0 0 0 0 0,
  ix_e 247 (.iload_n (3)) 1 3 0 0 0 0,
  ix_e 248 (.iconst (3)) 1 0 0 0 0 3,
  ix_e 249 .iadd 1 0 0 0 0 0,
  ix_e 250 .iaload 1 0 0 0 0 0,
  ix_e 251 (.aload_n (0)) 1 0 0 0 0 0,
  ix_e 252 (.iload_n (3)) 1 3 0 0 0 0,
  ix_e 253 (.iconst (4)) 1 0 0 0 0 4,
  ix_e 254 .iadd 1 0 0 0 0 0,
  ix_e 255 .iaload 1 0 0 0 0 0,
  ix_e 256 (.invokevirtual (22)) 3 158 5 1 11 0,
  ix_e 259 (.if_icmp .eq (864)) 3 1123 0 0 0 0,
  ix_e 262 (.iconst (0)) 1 0 0 0 0 0,
  ix_e 263 .ireturn 1 1 0 0 0 0,
  ix_c 264 (.aload_n (1)) 1 [true, true, true, true] 1 0 0 0 0,
  ix_e 265 (.aload_n (0)) 1 0 0 0 0 0,
  ix_e 266 (.iload_n (3)) 1 3 0 0 0 0,
  ix_e 267 (.iconst (1)) 1 0 0 0 0 1,
  ix_e 268 .iadd 1 0 0 0 0 0,
  ix_e 269 .iaload 1 0 0 0 0 0,
  ix_e 270 (.aload_n (0)) 1 0 0 0 0 0,
  ix_e 271 (.iload_n (3)) 1 3 0 0 0 0,
  ix_e 272 (.iconst (2)) 1 0 0 0 0 2,
  ix_e 273 .iadd 1 0 0 0 0 0,
  ix_e 274 .iaload 1 0 0 0 0 0,
  ix_e 275 (.aload_n (0)) 1 0 0 0 0 0,
  ix_e 276 (.iload_n (3)) 1 3 0 0 0 0,
  ix_e 277 (.iconst (3)) 1 0 0 0 0 3,
  ix_e 278 .iadd 1 0 0 0 0 0,
  ix_e 279 .iaload 1 0 0 0 0 0,
  ix_e 280 (.invokevirtual (23)) 3 4 4 1 10 0,
  ix_e 283 (.aload_n (2)) 1 2 0 0 0 0,
  ix_e 284 (.aload_n (0)) 1 0 0 0 0 0,
  ix_e 285 (.iload_n (3)) 1 3 0 0 0 0,
  ix_e 286 (.iconst (1)) 1 0 0 0 0 1,
  ix_e 287 .iadd 1 0 0 0 0 0,
  ix_e 288 .iaload 1 0 0 0 0 0,
  ix_e 289 (.aload_n (0)) 1 0 0 0 0 0,
  ix_e 290 (.iload_n (3)) 1 3 0 0 0 0,
  ix_e 291 (.iconst (2)) 1 0 0 0 0 2,
  ix_e 292 .iadd 1 0 0 0 0 0,
  ix_e 293 .iaload 1 0 0 0 0 0,
  ix_e 294 (.aload_n (0)) 1 0 0 0 0 0,
  ix_e 295 (.iload_n (3)) 1 3 0 0 0 0,
  ix_e 296 (.iconst (3)) 1 0 0 0 0 3,
  ix_e 297 .iadd 1 0 0 0 0 0,
  ix_e 298 .iaload 1 0 0 0 0 0,
  ix_e 299 (.invokevirtual (27)) 3 159 4 1 11 0,
  ix_e 302 (.if_icmp .eq (821)) 3 1123 0 0 0 0,
  ix_e 305 (.iconst (0)) 1 0 0 0 0 0,
  ix_e 306 .ireturn 1 1 0 0 0 0,
  ix_c 307 (.aload_n (1)) 1 [true, true, true, true] 1 0 0 0 0,
  ix_e 308 (.aload_n (0)) 1 0 0 0 0 0,
  ix_e 309 (.iload_n (3)) 1 3 0 0 0 0,
  ix_e 310 (.iconst (1)) 1 0 0 0 0 1,
  ix_e 311 .iadd 1 0 0 0 0 0,
  ix_e 312 .iaload 1 0 0 0 0 0,
  ix_e 313 (.invokevirtual (28)) 3 5 2 1 10 0,
  ix_c 316 (.aload_n (2)) 1 [true, true, true, true] 2 0 0 0 0,
  ix_e 317 (.aload_n (0)) 1 0 0 0 0 0,
  ix_e 318 (.iload_n (3)) 1 3 0 0 0 0,
  ix_e 319 (.iconst (1)) 1 0 0 0 0 1,
  ix_e 320 .iadd 1 0 0 0 0 0,
  ix_e 321 .iaload 1 0 0 0 0 0,
  ix_e 322 (.invokevirtual (31)) 3 160 2 1 11 0,
  ix_e 325 (.if_icmp .eq (798)) 3 1123 0 0 0 0,
  ix_e 328 (.iconst (0)) 1 0 0 0 0 0,
  ix_e 329 .ireturn 1 1 0 0 0 0,
  ix_c 330 (.aload_n (1)) 1 [true, true, true, true] 1 0 0 0 0,
  ix_e 331 (.aload_n (0)) 1 0 0 0 0 0,
  ix_e 332 (.iload_n (3)) 1 3 0 0 0 0,
  ix_e 333 (.iconst (1)) 1 0 0 0 0 1,
  ix_e 334 .iadd 1 0 0 0 0 0,
  ix_e 335 .iaload 1 0 0 0 0 0,
  ix_e 336 (.aload_n (0)) 1 0 0 0 0 0,
  ix_e 337 (.iload_n (3)) 1 3 0 0 0 0,
  ix_e 338 (.iconst (2)) 1 0 0 0 0 2,
  ix_e 339 .iadd 1 0 0 0 0 0,
  ix_e 340 .iaload 1 0 0 0 0 0,
  ix_e 341 (.ifCond .eq (7)) 3 348 0 0 0 0,
  ix_e 344 (.iconst (1)) 1 0 0 0 0 1,
  ix_e 345 (.goto (4)) 3 349 0 0 0 0,
  ix_e 348 (.iconst (0)) 1 0 0 0 0 0,
  ix_e 349 (.invokevirtual (32)) 3 6 3 1 10 0,
  ix_e 352 (.aload_n (2)) 1 2 0 0 0 0,
  ix_e 353 (.aload_n (0)) 1 0 0 0 0 0,
  ix_e 354 (.iload_n (3)) 1 3 0 0 0 0,
  ix_e 355 (.iconst (1)) 1 0 0 0 0 1,
  ix_e 356 .iadd 1 0 0 0 0 0,
  ix_e 357 .iaload 1 0 0 0 0 0,
  ix_e 358 (.aload_n (0)) 1 0 0 0 0 0,
  ix_e 359 (.iload_n (3)) 1 3 0 0 0 0,
  ix_e 360 (.iconst (2)) 1 0 0 0 0 2,
  ix_e 361 .iadd 1 0 0 0 0 0,
  ix_e 362 .iaload 1 0 0 0 0 0,
  ix_e 363 (.ifCond .eq (7)) 3 370 0 0 0 0,
  ix_e 366 (.iconst (1)) 1 0 0 0 0 1,
  ix_e 367 (.goto (4)) 3 371 0 0 0 0,
  ix_e 370 (.iconst (0)) 1 0 0 0 0 0,
  ix_e 371 (.invokevirtual (36)) 3 161 3 1 11 0,
  ix_e 374 (.if_icmp .eq (749)) 3 1123 0 0 0 0,
  ix_e 377 (.iconst (0)) 1 0 0 0 0 0,
  ix_e 378 .ireturn 1 1 0 0 0 0,
  ix_c 379 (.aload_n (1)) 1 [true, true, true, true] 1 0 0 0 0,
  ix_e 380 (.invokevirtual (37)) 3 7 1 1 10 0,
  ix_c 383 (.aload_n (2)) 1 [true, true, true, true] 2 0 0 0 0,
  ix_e 384 (.invokevirtual (41)) 3 162 1 1 11 0,
  ix_e 387 (.if_icmp .eq (736)) 3 1123 0 0 0 0,
  ix_e 390 (.iconst (0)) 1 0 0 0 0 0,
  ix_e 391 .ireturn 1 1 0 0 0 0,
  ix_c 392 (.aload_n (1)) 1 [true, true, true, true] 1 0 0 0 0,
  ix_e 393 (.aload_n (0)) 1 0 0 0 0 0,
  ix_e 394 (.iload_n (3)) 1 3 0 0 0 0,
  ix_e 395 (.iconst (1)) 1 0 0 0 0 1,
  ix_e 396 .iadd 1 0 0 0 0 0,
  ix_e 397 .iaload 1 0 0 0 0 0,
  ix_e 398 (.aload_n (0)) 1 0 0 0 0 0,
  ix_e 399 (.iload_n (3)) 1 3 0 0 0 0,
  ix_e 400 (.iconst (2)) 1 0 0 0 0 2,
  ix_e 401 .iadd 1 0 0 0 0 0,
  ix_e 402 .iaload 1 0 0 0 0 0,
  ix_e 403 (.aload_n (0)) 1 0 0 0 0 0,
  ix_e 404 (.iload_n (3)) 1 3 0 0 0 0,
  ix_e 405 (.iconst (3)) 1 0 0 0 0 3,
  ix_e 406 .iadd 1 0 0 0 0 0,
  ix_e 407 .iaload 1 0 0 0 0 0,
  ix_e 408 (.aload_n (0)) 1 0 0 0 0 0,
  ix_e 409 (.iload_n (3)) 1 3 0 0 0 0,
  ix_e 410 (.iconst (4)) 1 0 0 0 0 4,
  ix_e 411 .iadd 1 0 0 0 0 0,
  ix_e 412 .iaload 1 0 0 0 0 0,
  ix_e 413 (.aload_n (0)) 1 0 0 0 0 0,
  ix_e 414 (.iload_n (3)) 1 3 0 0 0 0,
  ix_e 415 (.iconst (5)) 1 0 0 0 0 5,
  ix_e 416 .iadd 1 0 0 0 0 0,
  ix_e 417 .iaload 1 0 0 0 0 0,
  ix_e 418 (.invokevirtual (42)) 3 8 6 1 10 0,
  ix_e 421 (.aload_n (2)) 1 2 0 0 0 0,
  ix_e 422 (.aload_n (0)) 1 0 0 0 0 0,
  ix_e 423 (.iload_n (3)) 1 3 0 0 0 0,
  ix_e 424 (.iconst (1)) 1 0 0 0 0 1,
  ix_e 425 .iadd 1 0 0 0 0 0,
  ix_e 426 .iaload 1 0 0 0 0 0,
  ix_e 427 (.aload_n (0)) 1 0 0 0 0 0,
  ix_e 428 (.iload_n (3)) 1 3 0 0 0 0,
  ix_e 429 (.iconst (2)) 1 0 0 0 0 2,
  ix_e 430 .iadd 1 0 0 0 0 0,
  ix_e 431 .iaload 1 0 0 0 0 0,
  ix_e 432 (.aload_n (0)) 1 0 0 0 0 0,
  ix_e 433 (.iload_n (3)) 1 3 0 0 0 0,
  ix_e 434 (.iconst (3)) 1 0 0 0 0 3,
  ix_e 435 .iadd 1 0 0 0 0 0,
  ix_e 436 .iaload 1 0 0 0 0 0,
  ix_e 437 (.aload_n (0)) 1 0 0 0 0 0,
  ix_e 438 (.iload_n (3)) 1 3 0 0 0 0,
  ix_e 439 (.iconst (4)) 1 0 0 0 0 4,
  ix_e 440 .iadd 1 0 0 0 0 0,
  ix_e 441 .iaload 1 0 0 0 0 0,
  ix_e 442 (.aload_n (0)) 1 0 0 0 0 0,
  ix_e 443 (.iload_n (3)) 1 3 0 0 0 0,
  ix_e 444 (.iconst (5)) 1 0 0 0 0 5,
  ix_e 445 .iadd 1 0 0 0 0 0,
  ix_e 446 .iaload 1 0 0 0 0 0,
  ix_e 447 (.invokevirtual (46)) 3 163 6 1 11 0,
  ix_e 450 (.if_icmp .eq (673)) 3 1123 0 0 0 0,
  ix_e 453 (.iconst (0)) 1 0 0 0 0 0,
  ix_e 454 .ireturn 1 1 0 0 0 0,
  ix_c 455 (.aload_n (1)) 1 [true, true, true, true] 1 0 0 0 0,
  ix_e 456 (.aload_n (0)) 1 0 0 0 0 0,
  ix_e 457 (.iload_n (3)) 1 3 0 0 0 0,
  ix_e 458 (.iconst (1)) 1 0 0 0 0 1,
  ix_e 459 .iadd 1 0 0 0 0 0,
  ix_e 460 .iaload 1 0 0 0 0 0,
  ix_e 461 (.invokevirtual (47)) 3 9 2 1 10 0,
  ix_e 464 (.aload_n (2)) 1 2 0 0 0 0,
  ix_e 465 (.aload_n (0)) 1 0 0 0 0 0,
  ix_e 466 (.iload_n (3)) 1 3 0 0 0 0,
  ix_e 467 (.iconst (1)) 1 0 0 0 0 1,
  ix_e 468 .iadd 1 0 0 0 0 0,
  ix_e 469 .iaload 1 0 0 0 0 0,
  ix_e 470 (.invokevirtual (51)) 3 164 2 1 11 0,
  ix_e 473 (.if_icmp .eq (650)) 3 1123 0 0 0 0,
  ix_e 476 (.iconst (0)) 1 0 0 0 0 0,
  ix_e 477 .ireturn 1 1 0 0 0 0,
  ix_c 478 (.aload_n (1)) 1 [true, true, true, true] 1 0 0 0 0,
  ix_e 479 (.aload_n (0)) 1 0 0 0 0 0,
  ix_e 480 (.iload_n (3)) 1 3 0 0 0 0,
  ix_e 481 (.iconst (1)) 1 0 0 0 0 1,
  ix_e 482 .iadd 1 0 0 0 0 0,
  ix_e 483 .iaload 1 0 0 0 0 0,
  ix_e 484 (.invokevirtual (52)) 3 10 2 1 10 0,
  ix_e 487 (.aload_n (2)) 1 2 0 0 0 0,
  ix_e 488 (.aload_n (0)) 1 0 0 0 0 0,
  ix_e 489 (.iload_n (3)) 1 3 0 0 0 0,
  ix_e 490 (.iconst (1)) 1 0 0 0 0 1,
  ix_e 491 .iadd 1 0 0 0 0 0,
  ix_e 492 .iaload 1 0 0 0 0 0,
  ix_e 493 (.invokevirtual (55)) 3 165 2 1 11 0,
  ix_e 496 (.if_icmp .eq (627)) 3 1123 0 0 0 0,
  ix_e 499 (.iconst (0)) 1 0 0 0 0 0,
  ix_e 500 .ireturn 1 1 0 0 0 0,
  ix_c 501 (.aload_n (1)) 1 [true, true, true, true] 1 0 0 0 0,
  ix_e 502 (.aload_n (0)) 1 0 0 0 0 0,
  ix_e 503 (.iload_n (3)) 1 3 0 0 0 0,
  ix_e 504 (.iconst (1)) 1 0 0 0 0 1,
  ix_e 505 .iadd 1 0 0 0 0 0,
  ix_e 506 .iaload 1 0 0 0 0 0,
  ix_e 507 (.invokevirtual (56)) 3 11 2 1 10 0,
  ix_e 510 (.aload_n (2)) 1 2 0 0 0 0,
  ix_e 511 (.aload_n (0)) 1 0 0 0 0 0,
  ix_e 512 (.iload_n (3)) 1 3 0 0 0 0,
  ix_e 513 (.iconst (1)) 1 0 0 0 0 1,
  ix_e 514 .iadd 1 0 0 0 0 0,
  ix_e 515 .iaload 1 0 0 0 0 0,
  ix_e 516 (.invokevirtual (59)) 3 166 2 1 11 0,
  ix_e 519 (.if_icmp .eq (604)) 3 1123 0 0 0 0,
  ix_e 522 (.iconst (0)) 1 0 0 0 0 0,
  ix_e 523 .ireturn 1 1 0 0 0 0,
  ix_c 524 (.aload_n (1)) 1 [true, true, true, true] 1 0 0 0 0,
  ix_e 525 (.aload_n (0)) 1 0 0 0 0 0,
  ix_e 526 (.iload_n (3)) 1 3 0 0 0 0,
  ix_e 527 (.iconst (1)) 1 0 0 0 0 1,
  ix_e 528 .iadd 1 0 0 0 0 0,
  ix_e 529 .iaload 1 0 0 0 0 0,
  ix_e 530 (.aload_n (0)) 1 0 0 0 0 0,
  ix_e 531 (.iload_n (3)) 1 3 0 0 0 0,
  ix_e 532 (.iconst (2)) 1 0 0 0 0 2,
  ix_e 533 .iadd 1 0 0 0 0 0,
  ix_e 534 .iaload 1 0 0 0 0 0,
  ix_e 535 (.invokevirtual (60)) 3 12 3 1 10 0,
  ix_e 538 (.aload_n (2)) 1 2 0 0 0 0,
  ix_e 539 (.aload_n (0)) 1 0 0 0 0 0,
  ix_e 540 (.iload_n (3)) 1 3 0 0 0 0,
  ix_e 541 (.iconst (1)) 1 0 0 0 0 1,
  ix_e 542 .iadd 1 0 0 0 0 0,
  ix_e 543 .iaload 1 0 0 0 0 0,
  ix_e 544 (.aload_n (0)) 1 0 0 0 0 0,
  ix_e 545 (.iload_n (3)) 1 3 0 0 0 0,
  ix_e 546 (.iconst (2)) 1 0 0 0 0 2,
  ix_e 547 .iadd 1 0 0 0 0 0,
  ix_e 548 .iaload 1 0 0 0 0 0,
  ix_e 549 (.invokevirtual (64)) 3 167 3 1 11 0,
  ix_e 552 (.if_icmp .eq (571)) 3 1123 0 0 0 0,
  ix_e 555 (.iconst (0)) 1 0 0 0 0 0,
  ix_e 556 .ireturn 1 1 0 0 0 0,
  ix_c 557 (.aload_n (1)) 1 [true, true, true, true] 1 0 0 0 0,
  ix_e 558 (.aload_n (0)) 1 0 0 0 0 0,
  ix_e 559 (.iload_n (3)) 1 3 0 0 0 0,
  ix_e 560 (.iconst (1)) 1 0 0 0 0 1,
  ix_e 561 .iadd 1 0 0 0 0 0,
  ix_e 562 .iaload 1 0 0 0 0 0,
  ix_e 563 (.aload_n (0)) 1 0 0 0 0 0,
  ix_e 564 (.iload_n (3)) 1 3 0 0 0 0,
  ix_e 565 (.iconst (2)) 1 0 0 0 0 2,
  ix_e 566 .iadd 1 0 0 0 0 0,
  ix_e 567 .iaload 1 0 0 0 0 0,
  ix_e 568 (.invokevirtual (65)) 3 13 3 1 10 0,
  ix_e 571 (.aload_n (2)) 1 2 0 0 0 0,
  ix_e 572 (.aload_n (0)) 1 0 0 0 0 0,
  ix_e 573 (.iload_n (3)) 1 3 0 0 0 0,
  ix_e 574 (.iconst (1)) 1 0 0 0 0 1,
  ix_e 575 .iadd 1 0 0 0 0 0,
  ix_e 576 .iaload 1 0 0 0 0 0,
  ix_e 577 (.aload_n (0)) 1 0 0 0 0 0,
  ix_e 578 (.iload_n (3)) 1 3 0 0 0 0,
  ix_e 579 (.iconst (2)) 1 0 0 0 0 2,
  ix_e 580 .iadd 1 0 0 0 0 0,
  ix_e 581 .iaload 1 0 0 0 0 0,
  ix_e 582 (.invokevirtual (68)) 3 168 3 1 11 0,
  ix_e 585 (.if_icmp .eq (538)) 3 1123 0 0 0 0,
  ix_e 588 (.iconst (0)) 1 0 0 0 0 0,
  ix_e 589 .ireturn 1 1 0 0 0 0,
  ix_c 590 (.aload_n (1)) 1 [true, true, true, true] 1 0 0 0 0,
  ix_e 591 (.aload_n (0)) 1 0 0 0 0 0,
  ix_e 592 (.iload_n (3)) 1 3 0 0 0 0,
  ix_e 593 (.iconst (1)) 1 0 0 0 0 1,
  ix_e 594 .iadd 1 0 0 0 0 0,
  ix_e 595 .iaload 1 0 0 0 0 0,
  ix_e 596 (.aload_n (0)) 1 0 0 0 0 0,
  ix_e 597 (.iload_n (3)) 1 3 0 0 0 0,
  ix_e 598 (.iconst (2)) 1 0 0 0 0 2,
  ix_e 599 .iadd 1 0 0 0 0 0,
  ix_e 600 .iaload 1 0 0 0 0 0,
  ix_e 601 (.invokevirtual (69)) 3 14 3 1 10 0,
  ix_e 604 (.aload_n (2)) 1 2 0 0 0 0,
  ix_e 605 (.aload_n (0)) 1 0 0 0 0 0,
  ix_e 606 (.iload_n (3)) 1 3 0 0 0 0,
  ix_e 607 (.iconst (1)) 1 0 0 0 0 1,
  ix_e 608 .iadd 1 0 0 0 0 0,
  ix_e 609 .iaload 1 0 0 0 0 0,
  ix_e 610 (.aload_n (0)) 1 0 0 0 0 0,
  ix_e 611 (.iload_n (3)) 1 3 0 0 0 0,
  ix_e 612 (.iconst (2)) 1 0 0 0 0 2,
  ix_e 613 .iadd 1 0 0 0 0 0,
  ix_e 614 .iaload 1 0 0 0 0 0,
  ix_e 615 (.invokevirtual (72)) 3 169 3 1 11 0,
  ix_e 618 (.if_icmp .eq (505)) 3 1123 0 0 0 0,
  ix_e 621 (.iconst (0)) 1 0 0 0 0 0,
  ix_e 622 .ireturn 1 1 0 0 0 0,
  ix_c 623 (.aload_n (1)) 1 [true, true, true, true] 1 0 0 0 0,
  ix_e 624 (.aload_n (0)) 1 0 0 0 0 0,
  ix_e 625 (.iload_n (3)) 1 3 0 0 0 0,
  ix_e 626 (.iconst (1)) 1 0 0 0 0 1,
  ix_e 627 .iadd 1 0 0 0 0 0,
  ix_e 628 .iaload 1 0 0 0 0 0,
  ix_e 629 (.aload_n (0)) 1 0 0 0 0 0,
  ix_e 630 (.iload_n (3)) 1 3 0 0 0 0,
  ix_e 631 (.iconst (2)) 1 0 0 0 0 2,
  ix_e 632 .iadd 1 0 0 0 0 0,
  ix_e 633 .iaload 1 0 0 0 0 0,
  ix_e 634 (.invokevirtual (73)) 3 15 3 1 10 0,
  ix_e 637 (.aload_n (2)) 1 2 0 0 0 0,
  ix_e 638 (.aload_n (0)) 1 0 0 0 0 0,
  ix_e 639 (.iload_n (3)) 1 3 0 0 0 0,
  ix_e 640 (.iconst (1)) 1 0 0 0 0 1,
  ix_e 641 .iadd 1 0 0 0 0 0,
  ix_e 642 .iaload 1 0 0 0 0 0,
  ix_e 643 (.aload_n (0)) 1 0 0 0 0 0,
  ix_e 644 (.iload_n (3)) 1 3 0 0 0 0,
  ix_e 645 (.iconst (2)) 1 0 0 0 0 2,
  ix_e 646 .iadd 1 0 0 0 0 0,
  ix_e 647 .iaload 1 0 0 0 0 0,
  ix_e 648 (.invokevirtual (76)) 3 170 3 1 11 0,
  ix_e 651 (.if_icmp .eq (472)) 3 1123 0 0 0 0,
  ix_e 654 (.iconst (0)) 1 0 0 0 0 0,
  ix_e 655 .ireturn 1 1 0 0 0 0,
  ix_c 656 (.aload_n (1)) 1 [true, true, true, true] 1 0 0 0 0,
  ix_e 657 (.aload_n (0)) 1 0 0 0 0 0,
  ix_e 658 (.iload_n (3)) 1 3 0 0 0 0,
  ix_e 659 (.iconst (1)) 1 0 0 0 0 1,
  ix_e 660 .iadd 1 0 0 0 0 0,
  ix_e 661 .iaload 1 0 0 0 0 0,
  ix_e 662 (.aload_n (0)) 1 0 0 0 0 0,
  ix_e 663 (.iload_n (3)) 1 3 0 0 0 0,
  ix_e 664 (.iconst (2)) 1 0 0 0 0 2,
  ix_e 665 .iadd 1 0 0 0 0 0,
  ix_e 666 .iaload 1 0 0 0 0 0,
  ix_e 667 (.invokevirtual (77)) 3 16 3 1 10 0,
  ix_c 670 (.aload_n (2)) 1 [true, true, true, true] 2 0 0 0 0,
  ix_e 671 (.aload_n (0)) 1 0 0 0 0 0,
  ix_e 672 (.iload_n (3)) 1 3 0 0 0 0,
  ix_e 673 (.iconst (1)) 1 0 0 0 0 1,
  ix_e 674 .iadd 1 0 0 0 0 0,
  ix_e 675 .iaload 1 0 0 0 0 0,
  ix_e 676 (.aload_n (0)) 1 0 0 0 0 0,
  ix_e 677 (.iload_n (3)) 1 3 0 0 0 0,
  ix_e 678 (.iconst (2)) 1 0 0 0 0 2,
  ix_e 679 .iadd 1 0 0 0 0 0,
  ix_e 680 .iaload 1 0 0 0 0 0,
  ix_e 681 (.invokevirtual (80)) 3 171 3 1 11 0,
  ix_e 684 (.if_icmp .eq (439)) 3 1123 0 0 0 0,
  ix_e 687 (.iconst (0)) 1 0 0 0 0 0,
  ix_e 688 .ireturn 1 1 0 0 0 0,
  ix_c 689 (.aload_n (1)) 1 [true, true, true, true] 1 0 0 0 0,
  ix_e 690 (.aload_n (0)) 1 0 0 0 0 0,
  ix_e 691 (.iload_n (3)) 1 3 0 0 0 0,
  ix_e 692 (.iconst (1)) 1 0 0 0 0 1,
  ix_e 693 .iadd 1 0 0 0 0 0,
  ix_e 694 .iaload 1 0 0 0 0 0,
  ix_e 695 (.aload_n (0)) 1 0 0 0 0 0,
  ix_e 696 (.iload_n (3)) 1 3 0 0 0 0,
  ix_e 697 (.iconst (2)) 1 0 0 0 0 2,
  ix_e 698 .iadd 1 0 0 0 0 0,
  ix_e 699 .iaload 1 0 0 0 0 0,
  ix_e 700 (.invokevirtual (81)) 3 17 3 1 10 0,
  ix_e 703 (.aload_n (2)) 1 2 0 0 0 0,
  ix_e 704 (.aload_n (0)) 1 0 0 0 0 0,
  ix_e 705 (.iload_n (3)) 1 3 0 0 0 0,
  ix_e 706 (.iconst (1)) 1 0 0 0 0 1,
  ix_e 707 .iadd 1 0 0 0 0 0,
  ix_e 708 .iaload 1 0 0 0 0 0,
  ix_e 709 (.aload_n (0)) 1 0 0 0 0 0,
  ix_e 710 (.iload_n (3)) 1 3 0 0 0 0,
  ix_e 711 (.iconst (2)) 1 0 0 0 0 2,
  ix_e 712 .iadd 1 0 0 0 0 0,
  ix_e 713 .iaload 1 0 0 0 0 0,
  ix_e 714 (.invokevirtual (84)) 3 172 3 1 11 0,
  ix_e 717 (.if_icmp .eq (406)) 3 1123 0 0 0 0,
  ix_e 720 (.iconst (0)) 1 0 0 0 0 0,
  ix_e 721 .ireturn 1 1 0 0 0 0,
  ix_c 722 (.aload_n (1)) 1 [true, true, true, true] 1 0 0 0 0,
  ix_e 723 (.aload_n (0)) 1 0 0 0 0 0,
  ix_e 724 (.iload_n (3)) 1 3 0 0 0 0,
  ix_e 725 (.iconst (1)) 1 0 0 0 0 1,
  ix_e 726 .iadd 1 0 0 0 0 0,
  ix_e 727 .iaload 1 0 0 0 0 0,
  ix_e 728 (.invokevirtual (85)) 3 18 2 1 10 0,
  ix_e 731 (.aload_n (2)) 1 2 0 0 0 0,
  ix_e 732 (.aload_n (0)) 1 0 0 0 0 0,
  ix_e 733 (.iload_n (3)) 1 3 0 0 0 0,
  ix_e 734 (.iconst (1)) 1 0 0 0 0 1,
  ix_e 735 .iadd 1 0 0 0 0 0,
  ix_e 736 .iaload 1 0 0 0 0 0,
  ix_e 737 (.invokevirtual (88)) 3 173 2 1 11 0,
  ix_e 740 (.if_icmp .eq (383)) 3 1123 0 0 0 0,
  ix_e 743 (.iconst (0)) 1 0 0 0 0 0,
  ix_e 744 .ireturn 1 1 0 0 0 0,
  ix_c 745 (.aload_n (1)) 1 [true, true, true, true] 1 0 0 0 0,
  ix_e 746 (.aload_n (0)) 1 0 0 0 0 0,
  ix_e 747 (.iload_n (3)) 1 3 0 0 0 0,
  ix_e 748 (.iconst (1)) 1 0 0 0 0 1,
  ix_e 749 .iadd 1 0 0 0 0 0,
  ix_e 750 .iaload 1 0 0 0 0 0,
  ix_e 751 (.aload_n (0)) 1 0 0 0 0 0,
  ix_e 752 (.iload_n (3)) 1 3 0 0 0 0,
  ix_e 753 (.iconst (2)) 1 0 0 0 0 2,
  ix_e 754 .iadd 1 0 0 0 0 0,
  ix_e 755 .iaload 1 0 0 0 0 0,
  ix_e 756 (.invokevirtual (89)) 3 19 3 1 10 0,
  ix_e 759 (.aload_n (2)) 1 2 0 0 0 0,
  ix_e 760 (.aload_n (0)) 1 0 0 0 0 0,
  ix_e 761 (.iload_n (3)) 1 3 0 0 0 0,
  ix_e 762 (.iconst (1)) 1 0 0 0 0 1,
  ix_e 763 .iadd 1 0 0 0 0 0,
  ix_e 764 .iaload 1 0 0 0 0 0,
  ix_e 765 (.aload_n (0)) 1 0 0 0 0 0,
  ix_e 766 (.iload_n (3)) 1 3 0 0 0 0,
  ix_e 767 (.iconst (2)) 1 0 0 0 0 2,
  ix_e 768 .iadd 1 0 0 0 0 0,
  ix_e 769 .iaload 1 0 0 0 0 0,
  ix_e 770 (.invokevirtual (92)) 3 174 3 1 11 0,
  ix_e 773 (.if_icmp .eq (350)) 3 1123 0 0 0 0,
  ix_e 776 (.iconst (0)) 1 0 0 0 0 0,
  ix_e 777 .ireturn 1 1 0 0 0 0,
  ix_c 778 (.aload_n (1)) 1 [true, true, true, true] 1 0 0 0 0,
  ix_e 779 (.aload_n (0)) 1 0 0 0 0 0,
  ix_e 780 (.iload_n (3)) 1 3 0 0 0 0,
  ix_e 781 (.iconst (1)) 1 0 0 0 0 1,
  ix_e 782 .iadd 1 0 0 0 0 0,
  ix_e 783 .iaload 1 0 0 0 0 0,
  ix_e 784 (.invokevirtual (93)) 3 20 2 1 10 0,
  ix_e 787 (.aload_n (2)) 1 2 0 0 0 0,
  ix_e 788 (.aload_n (0)) 1 0 0 0 0 0,
  ix_e 789 (.iload_n (3)) 1 3 0 0 0 0,
  ix_e 790 (.iconst (1)) 1 0 0 0 0 1,
  ix_e 791 .iadd 1 0 0 0 0 0,
  ix_e 792 .iaload 1 0 0 0 0 0,
  ix_e 793 (.invokevirtual (96)) 3 175 2 1 11 0,
  ix_e 796 (.if_icmp .eq (327)) 3 1123 0 0 0 0,
  ix_e 799 (.iconst (0)) 1 0 0 0 0 0,
  ix_e 800 .ireturn 1 1 0 0 0 0,
  ix_c 801 (.aload_n (1)) 1 [true, true, true, true] 1 0 0 0 0,
  ix_e 802 (.aload_n (0)) 1 0 0 0 0 0,
  ix_e 803 (.iload_n (3)) 1 3 0 0 0 0,
  ix_e 804 (.iconst (1)) 1 0 0 0 0 1,
  ix_e 805 .iadd 1 0 0 0 0 0,
  ix_e 806 .iaload 1 0 0 0 0 0,
  ix_e 807 (.aload_n (0)) 1 0 0 0 0 0,
  ix_e 808 (.iload_n (3)) 1 3 0 0 0 0,
  ix_e 809 (.iconst (2)) 1 0 0 0 0 2,
  ix_e 810 .iadd 1 0 0 0 0 0,
  ix_e 811 .iaload 1 0 0 0 0 0,
  ix_e 812 (.invokevirtual (97)) 3 21 3 1 10 0,
  ix_e 815 (.aload_n (2)) 1 2 0 0 0 0,
  ix_e 816 (.aload_n (0)) 1 0 0 0 0 0,
  ix_e 817 (.iload_n (3)) 1 3 0 0 0 0,
  ix_e 818 (.iconst (1)) 1 0 0 0 0 1,
  ix_e 819 .iadd 1 0 0 0 0 0,
  ix_e 820 .iaload 1 0 0 0 0 0,
  ix_e 821 (.aload_n (0)) 1 0 0 0 0 0,
  ix_e 822 (.iload_n (3)) 1 3 0 0 0 0,
  ix_e 823 (.iconst (2)) 1 0 0 0 0 2,
  ix_e 824 .iadd 1 0 0 0 0 0,
  ix_e 825 .iaload 1 0 0 0 0 0,
  ix_e 826 (.invokevirtual (100)) 3 176 3 1 11 0,
  ix_e 829 (.if_icmp .eq (294)) 3 1123 0 0 0 0,
  ix_e 832 (.iconst (0)) 1 0 0 0 0 0,
  ix_e 833 .ireturn 1 1 0 0 0 0,
  ix_c 834 (.aload_n (1)) 1 [true, true, true, true] 1 0 0 0 0,
  ix_e 835 (.aload_n (0)) 1 0 0 0 0 0,
  ix_e 836 (.iload_n (3)) 1 3 0 0 0 0,
  ix_e 837 (.iconst (1)) 1 0 0 0 0 1,
  ix_e 838 .iadd 1 0 0 0 0 0,
  ix_e 839 .iaload 1 0 0 0 0 0,
  ix_e 840 (.invokevirtual (101)) 3 22 2 1 10 0,
  ix_e 843 (.aload_n (2)) 1 2 0 0 0 0,
  ix_e 844 (.aload_n (0)) 1 0 0 0 0 0,
  ix_e 845 (.iload_n (3)) 1 3 0 0 0 0,
  ix_e 846 (.iconst (1)) 1 0 0 0 0 1,
  ix_e 847 .iadd 1 0 0 0 0 0,
  ix_e 848 .iaload 1 0 0 0 0 0,
  ix_e 849 (.invokevirtual (104)) 3 177 2 1 11 0,
  ix_e 852 (.if_icmp .eq (271)) 3 1123 0 0 0 0,
  ix_e 855 (.iconst (0)) 1 0 0 0 0 0,
  ix_e 856 .ireturn 1 1 0 0 0 0,
  ix_c 857 (.aload_n (1)) 1 [true, true, true, true] 1 0 0 0 0,
  ix_e 858 (.aload_n (0)) 1 0 0 0 0 0,
  ix_e 859 (.iload_n (3)) 1 3 0 0 0 0,
  ix_e 860 (.iconst (1)) 1 0 0 0 0 1,
  ix_e 861 .iadd 1 0 0 0 0 0,
  ix_e 862 .iaload 1 0 0 0 0 0,
  ix_e 863 (.aload_n (0)) 1 0 0 0 0 0,
  ix_e 864 (.iload_n (3)) 1 3 0 0 0 0,
  ix_e 865 (.iconst (2)) 1 0 0 0 0 2,
  ix_e 866 .iadd 1 0 0 0 0 0,
  ix_e 867 .iaload 1 0 0 0 0 0,
  ix_e 868 (.invokevirtual (105)) 3 23 3 1 10 0,
  ix_e 871 (.aload_n (2)) 1 2 0 0 0 0,
  ix_e 872 (.aload_n (0)) 1 0 0 0 0 0,
  ix_e 873 (.iload_n (3)) 1 3 0 0 0 0,
  ix_e 874 (.iconst (1)) 1 0 0 0 0 1,
  ix_e 875 .iadd 1 0 0 0 0 0,
  ix_e 876 .iaload 1 0 0 0 0 0,
  ix_e 877 (.aload_n (0)) 1 0 0 0 0 0,
  ix_e 878 (.iload_n (3)) 1 3 0 0 0 0,
  ix_e 879 (.iconst (2)) 1 0 0 0 0 2,
  ix_e 880 .iadd 1 0 0 0 0 0,
  ix_e 881 .iaload 1 0 0 0 0 0,
  ix_e 882 (.invokevirtual (108)) 3 178 3 1 11 0,
  ix_e 885 (.if_icmp .eq (238)) 3 1123 0 0 0 0,
  ix_e 888 (.iconst (0)) 1 0 0 0 0 0,
  ix_e 889 .ireturn 1 1 0 0 0 0,
  ix_c 890 (.aload_n (1)) 1 [true, true, true, true] 1 0 0 0 0,
  ix_e 891 (.aload_n (0)) 1 0 0 0 0 0,
  ix_e 892 (.iload_n (3)) 1 3 0 0 0 0,
  ix_e 893 (.iconst (1)) 1 0 0 0 0 1,
  ix_e 894 .iadd 1 0 0 0 0 0,
  ix_e 895 .iaload 1 0 0 0 0 0,
  ix_e 896 (.invokevirtual (109)) 3 24 2 1 10 0,
  ix_e 899 (.aload_n (2)) 1 2 0 0 0 0,
  ix_e 900 (.aload_n (0)) 1 0 0 0 0 0,
  ix_e 901 (.iload_n (3)) 1 3 0 0 0 0,
  ix_e 902 (.iconst (1)) 1 0 0 0 0 1,
  ix_e 903 .iadd 1 0 0 0 0 0,
  ix_e 904 .iaload 1 0 0 0 0 0,
  ix_e 905 (.invokevirtual (112)) 3 179 2 1 11 0,
  ix_e 908 (.if_icmp .eq (215)) 3 1123 0 0 0 0,
  ix_e 911 (.iconst (0)) 1 0 0 0 0 0,
  ix_e 912 .ireturn 1 1 0 0 0 0,
  ix_c 913 (.aload_n (1)) 1 [true, true, true, true] 1 0 0 0 0,
  ix_e 914 (.aload_n (0)) 1 0 0 0 0 0,
  ix_e 915 (.iload_n (3)) 1 3 0 0 0 0,
  ix_e 916 (.iconst (1)) 1 0 0 0 0 1,
  ix_e 917 .iadd 1 0 0 0 0 0,
  ix_e 918 .iaload 1 0 0 0 0 0,
  ix_e 919 (.invokevirtual (113)) 3 25 2 1 10 0,
  ix_e 922 (.aload_n (2)) 1 2 0 0 0 0,
  ix_e 923 (.aload_n (0)) 1 0 0 0 0 0,
  ix_e 924 (.iload_n (3)) 1 3 0 0 0 0,
  ix_e 925 (.iconst (1)) 1 0 0 0 0 1,
  ix_e 926 .iadd 1 0 0 0 0 0,
  ix_e 927 .iaload 1 0 0 0 0 0,
  ix_e 928 (.invokevirtual (116)) 3 180 2 1 11 0,
  ix_e 931 (.if_icmp .eq (192)) 3 1123 0 0 0 0,
  ix_e 934 (.iconst (0)) 1 0 0 0 0 0,
  ix_e 935 .ireturn 1 1 0 0 0 0,
  ix_c 936 (.aload_n (1)) 1 [true, true, true, true] 1 0 0 0 0,
  ix_e 937 (.aload_n (0)) 1 0 0 0 0 0,
  ix_e 938 (.iload_n (3)) 1 3 0 0 0 0,
  ix_e 939 (.iconst (1)) 1 0 0 0 0 1,
  ix_e 940 .iadd 1 0 0 0 0 0,
  ix_e 941 .iaload 1 0 0 0 0 0,
  ix_e 942 (.invokevirtual (117)) 3 26 2 1 10 0,
  ix_e 945 (.aload_n (2)) 1 2 0 0 0 0,
  ix_e 946 (.aload_n (0)) 1 0 0 0 0 0,
  ix_e 947 (.iload_n (3)) 1 3 0 0 0 0,
  ix_e 948 (.iconst (1)) 1 0 0 0 0 1,
  ix_e 949 .iadd 1 0 0 0 0 0,
  ix_e 950 .iaload 1 0 0 0 0 0,
  ix_e 951 (.invokevirtual (120)) 3 181 2 1 11 0,
  ix_e 954 (.if_icmp .eq (169)) 3 1123 0 0 0 0,
  ix_e 957 (.iconst (0)) 1 0 0 0 0 0,
  ix_e 958 .ireturn 1 1 0 0 0 0,
  ix_c 959 (.aload_n (1)) 1 [true, true, true, true] 1 0 0 0 0,
  ix_e 960 (.aload_n (0)) 1 0 0 0 0 0,
  ix_e 961 (.iload_n (3)) 1 3 0 0 0 0,
  ix_e 962 (.iconst (1)) 1 0 0 0 0 1,
  ix_e 963 .iadd 1 0 0 0 0 0,
  ix_e 964 .iaload 1 0 0 0 0 0,
  ix_e 965 (.aload_n (0)) 1 0 0 0 0 0,
  ix_e 966 (.iload_n (3)) 1 3 0 0 0 0,
  ix_e 967 (.iconst (2)) 1 0 0 0 0 2,
  ix_e 968 .iadd 1 0 0 0 0 0,
  ix_e 969 .iaload 1 0 0 0 0 0,
  ix_e 970 (.invokevirtual (121)) 3 27 3 1 10 0,
  ix_e 973 (.aload_n (2)) 1 2 0 0 0 0,
  ix_e 974 (.aload_n (0)) 1 0 0 0 0 0,
  ix_e 975 (.iload_n (3)) 1 3 0 0 0 0,
  ix_e 976 (.iconst (1)) 1 0 0 0 0 1,
  ix_e 977 .iadd 1 0 0 0 0 0,
  ix_e 978 .iaload 1 0 0 0 0 0,
  ix_e 979 (.aload_n (0)) 1 0 0 0 0 0,
  ix_e 980 (.iload_n (3)) 1 3 0 0 0 0,
  ix_e 981 (.iconst (2)) 1 0 0 0 0 2,
  ix_e 982 .iadd 1 0 0 0 0 0,
  ix_e 983 .iaload 1 0 0 0 0 0,
  ix_e 984 (.invokevirtual (125)) 3 182 3 1 11 0,
  ix_e 987 (.if_icmp .eq (136)) 3 1123 0 0 0 0,
  ix_e 990 (.iconst (0)) 1 0 0 0 0 0,
  ix_e 991 .ireturn 1 1 0 0 0 0,
  ix_c 992 (.aload_n (1)) 1 [true, true, true, true] 1 0 0 0 0,
  ix_e 993 (.aload_n (0)) 1 0 0 0 0 0,
  ix_e 994 (.iload_n (3)) 1 3 0 0 0 0,
  ix_e 995 (.iconst (1)) 1 0 0 0 0 1,
  ix_e 996 .iadd 1 0 0 0 0 0,
  ix_e 997 .iaload 1 0 0 0 0 0,
  ix_e 998 (.aload_n (0)) 1 0 0 0 0 0,
  ix_e 999 (.iload_n (3)) 1 3 0 0 0 0,
  ix_e 1000 (.iconst (2)) 1 0 0 0 0 2,
  ix_e 1001 .iadd 1 0 0 0 0 0,
  ix_e 1002 .iaload 1 0 0 0 0 0,
  ix_e 1003 (.invokevirtual (126)) 3 28 3 1 10 0,
  ix_e 1006 (.aload_n (2)) 1 2 0 0 0 0,
  ix_e 1007 (.aload_n (0)) 1 0 0 0 0 0,
  ix_e 1008 (.iload_n (3)) 1 3 0 0 0 0,
  ix_e 1009 (.iconst (1)) 1 0 0 0 0 1,
  ix_e 1010 .iadd 1 0 0 0 0 0,
  ix_e 1011 .iaload 1 0 0 0 0 0,
  ix_e 1012 (.aload_n (0)) 1 0 0 0 0 0,
  ix_e 1013 (.iload_n (3)) 1 3 0 0 0 0,
  ix_e 1014 (.iconst (2)) 1 0 0 0 0 2,
  ix_e 1015 .iadd 1 0 0 0 0 0,
  ix_e 1016 .iaload 1 0 0 0 0 0,
  ix_e 1017 (.invokevirtual (129)) 3 183 3 1 11 0,
  ix_e 1020 (.if_icmp .eq (103)) 3 1123 0 0 0 0,
  ix_e 1023 (.iconst (0)) 1 0 0 0 0 0,
  ix_e 1024 .ireturn 1 1 0 0 0 0,
  ix_c 1025 (.aload_n (1)) 1 [true, true, true, true] 1 0 0 0 0,
  ix_e 1026 (.aload_n (0)) 1 0 0 0 0 0,
  ix_e 1027 (.iload_n (3)) 1 3 0 0 0 0,
  ix_e 1028 (.iconst (1)) 1 0 0 0 0 1,
  ix_e 1029 .iadd 1 0 0 0 0 0,
  ix_e 1030 .iaload 1 0 0 0 0 0,
  ix_e 1031 (.invokevirtual (130)) 3 29 2 1 10 0,
  ix_e 1034 (.aload_n (2)) 1 2 0 0 0 0,
  ix_e 1035 (.aload_n (0)) 1 0 0 0 0 0,
  ix_e 1036 (.iload_n (3)) 1 3 0 0 0 0,
  ix_e 1037 (.iconst (1)) 1 0 0 0 0 1,
  ix_e 1038 .iadd 1 0 0 0 0 0,
  ix_e 1039 .iaload 1 0 0 0 0 0,
  ix_e 1040 (.invokevirtual (133)) 3 184 2 1 11 0,
  ix_e 1043 (.if_icmp .eq (80)) 3 1123 0 0 0 0,
  ix_e 1046 (.iconst (0)) 1 0 0 0 0 0,
  ix_e 1047 .ireturn 1 1 0 0 0 0,
  ix_c 1048 (.aload_n (1)) 1 [true, true, true, true] 1 0 0 0 0,
  ix_e 1049 (.invokevirtual (134)) 3 30 1 1 10 0,
  ix_e 1052 (.aload_n (2)) 1 2 0 0 0 0,
  ix_e 1053 (.invokevirtual (138)) 3 185 1 1 11 0,
  ix_e 1056 (.if_icmp .eq (67)) 3 1123 0 0 0 0,
  ix_e 1059 (.iconst (0)) 1 0 0 0 0 0,
  ix_e 1060 .ireturn 1 1 0 0 0 0,
  ix_c 1061 (.aload_n (1)) 1 [true, true, true, true] 1 0 0 0 0,
  ix_e 1062 (.aload_n (0)) 1 0 0 0 0 0,
  ix_e 1063 (.iload_n (3)) 1 3 0 0 0 0,
  ix_e 1064 (.iconst (1)) 1 0 0 0 0 1,
  ix_e 1065 .iadd 1 0 0 0 0 0,
  ix_e 1066 .iaload 1 0 0 0 0 0,
  ix_e 1067 (.ifCond .eq (7)) 3 1074 0 0 0 0,
  ix_e 1070 (.iconst (1)) 1 0 0 0 0 1,
  ix_e 1071 (.goto (4)) 3 1075 0 0 0 0,
  ix_e 1074 (.iconst (0)) 1 0 0 0 0 0,
  ix_e 1075 (.invokevirtual (139)) 3 31 2 1 10 0,
  ix_e 1078 (.aload_n (2)) 1 2 0 0 0 0,
  ix_e 1079 (.aload_n (0)) 1 0 0 0 0 0,
  ix_e 1080 (.iload_n (3)) 1 3 0 0 0 0,
  ix_e 1081 (.iconst (1)) 1 0 0 0 0 1,
  ix_e 1082 .iadd 1 0 0 0 0 0,
  ix_e 1083 .iaload 1 0 0 0 0 0,
  ix_e 1084 (.ifCond .eq (7)) 3 1091 0 0 0 0,
  ix_e 1087 (.iconst (1)) 1 0 0 0 0 1,
  ix_e 1088 (.goto (4)) 3 1092 0 0 0 0,
  ix_e 1091 (.iconst (0)) 1 0 0 0 0 0,
  ix_e 1092 (.invokevirtual (143)) 3 186 2 1 11 0,
  ix_e 1095 (.if_icmp .eq (28)) 3 1123 0 0 0 0,
  ix_e 1098 (.iconst (0)) 1 0 0 0 0 0,
  ix_e 1099 .ireturn 1 1 0 0 0 0,
  ix_c 1100 (.aload_n (1)) 1 [true, true, true, true] 1 0 0 0 0,
  ix_e 1101 (.aload_n (0)) 1 0 0 0 0 0,
  ix_e 1102 (.iload_n (3)) 1 3 0 0 0 0,
  ix_e 1103 (.iconst (1)) 1 0 0 0 0 1,
  ix_e 1104 .iadd 1 0 0 0 0 0,
  ix_e 1105 .iaload 1 0 0 0 0 0,
  ix_e 1106 (.invokevirtual (144)) 3 32 2 1 10 0,
  ix_e 1109 (.aload_n (2)) 1 2 0 0 0 0,
  ix_e 1110 (.aload_n (0)) 1 0 0 0 0 0,
  ix_e 1111 (.iload_n (3)) 1 3 0 0 0 0,
  ix_e 1112 (.iconst (1)) 1 0 0 0 0 1,
  ix_e 1113 .iadd 1 0 0 0 0 0,
  ix_e 1114 .iaload 1 0 0 0 0 0,
  ix_e 1115 (.invokevirtual (147)) 3 187 2 1 11 0,
  ix_e 1118 (.if_icmp .eq (5)) 3 1123 0 0 0 0,
  ix_e 1121 (.iconst (0)) 1 0 0 0 0 0,
  ix_e 1122 .ireturn 1 1 0 0 0 0,
  ix_c 1123 (.iinc 3 (6)) 3 [true, true, true, true] 3 0 0 0 6,
  ix_e 1126 (.goto (-1108)) 3 18 0 0 0 0,
  ix_e 1129 (.iconst (1)) 1 0 0 0 0 1,
  ix_e 1130 .ireturn 1 1 0 0 0 0]
/-- VotedBank.<init> ()V -/
def ix_t1 : List ix_E := [ix_e 0 (.aload_n (0)) 1 0 0 0 0 0,
  ix_e 1 (.invokespecial (3)) 3 0 0 2 0 0,
  ix_e 4 (.aload_n (0)) 1 0 0 0 0 0,
  ix_e 5 (.new (9)) 3 9 0 0 0 0,
  ix_e 8 .dup 1 0 0 0 0 0,
  ix_e 9 (.invokespecial (11)) 3 150 1 0 9 0,
  ix_e 12 (.putfield (12)) 3 10 0 2 0 0,
  ix_e 15 (.aload_n (0)) 1 0 0 0 0 0,
  ix_e 16 (.new (9)) 3 9 0 0 0 0,
  ix_e 19 .dup 1 0 0 0 0 0,
  ix_e 20 (.invokespecial (11)) 3 150 1 0 9 0,
  ix_e 23 (.putfield (16)) 3 10 1 2 0 0,
  ix_e 26 (.aload_n (0)) 1 0 0 0 0 0,
  ix_e 27 (.new (19)) 3 4 0 0 0 0,
  ix_e 30 .dup 1 0 0 0 0 0,
  ix_e 31 (.invokespecial (21)) 3 82 1 0 4 0,
  ix_e 34 (.putfield (22)) 3 10 2 2 0 0,
  ix_e 37 (.aload_n (0)) 1 0 0 0 0 0,
  ix_e 38 (.new (26)) 3 7 0 0 0 0,
  ix_e 41 .dup 1 0 0 0 0 0,
  ix_e 42 (.invokespecial (28)) 3 132 1 0 7 1,
  ix_e 45 (.putfield (29)) 3 10 3 2 0 0,
  ix_e 48 (.aload_n (0)) 1 0 0 0 0 0,
  ix_e 49 (.new (33)) 3 3 0 0 0 0,
  ix_e 52 .dup 1 0 0 0 0 0,
  ix_e 53 (.aload_n (0)) 1 0 0 0 0 0,
  ix_e 54 (.getfield (29)) 3 10 3 2 0 0,
  ix_e 57 (.invokespecial (35)) 3 64 2 0 3 0,
  ix_e 60 (.putfield (38)) 3 10 4 2 0 0,
  ix_e 63 (.aload_n (0)) 1 0 0 0 0 0,
  ix_e 64 (.new (42)) 3 1 0 0 0 0,
  ix_e 67 .dup 1 0 0 0 0 0,
  ix_e 68 (.aload_n (0)) 1 0 0 0 0 0,
  ix_e 69 (.getfield (12)) 3 10 0 2 0 0,
  ix_e 72 (.invokespecial (44)) 3 45 2 0 1 0,
  ix_e 75 (.putfield (47)) 3 10 5 2 0 0,
  ix_e 78 (.aload_n (0)) 1 0 0 0 0 0,
  ix_e 79 (.new (51)) 3 5 0 0 0 0,
  ix_e 82 .dup 1 0 0 0 0 0,
  ix_e 83 (.aload_n (0)) 1 0 0 0 0 0,
  ix_e 84 (.getfield (12)) 3 10 0 2 0 0,
  ix_e 87 (.invokespecial (53)) 3 86 2 0 5 0,
  ix_e 90 (.putfield (54)) 3 10 6 2 0 0,
  ix_e 93 .return_ 1 0 0 0 0 0]
/-- VotedBank.state (I)I -/
def ix_t2 : List ix_E := [ix_e 0 (.aload_n (0)) 1 0 0 0 0 0,
  ix_e 1 (.getfield (12)) 3 10 0 2 0 0,
  ix_e 4 (.getfield (58)) 3 9 0 2 0 0,
  ix_e 7 (.getfield (62)) 3 6 0 0 0 0,
  ix_e 10 (.istore_n (2)) 1 2 0 0 0 0,
  ix_e 11 (.aload_n (0)) 1 0 0 0 0 0,
  ix_e 12 (.getfield (12)) 3 10 0 2 0 0,
  ix_e 15 (.getfield (58)) 3 9 0 2 0 0,
  ix_e 18 (.iload_n (1)) 1 1 0 0 0 0,
  ix_e 19 (.putfield (62)) 3 6 0 0 0 0,
  ix_e 22 (.aload_n (0)) 1 0 0 0 0 0,
  ix_e 23 (.getfield (22)) 3 10 2 2 0 0,
  ix_e 26 (.invokevirtual (68)) 3 83 1 0 4 0,
  ix_e 29 (.iload_n (2)) 1 2 0 0 0 0,
  ix_e 30 .ireturn 1 0 0 0 0 0]
/-- VotedBank.passenger (IZII)I -/
def ix_t3 : List ix_E := [ix_e 0 (.aload_n (0)) 1 0 0 0 0 0,
  ix_e 1 (.getfield (12)) 3 10 0 2 0 0,
  ix_e 4 (.getfield (58)) 3 9 0 2 0 0,
  ix_e 7 (.astore (5)) 2 5 0 0 0 0,
  ix_e 9 (.iload_n (1)) 1 1 0 0 0 0,
  ix_e 10 (.invokestatic (71)) 3 33 1 1 0 0,
  ix_e 13 (.ifCond .eq (28)) 3 41 0 0 0 0,
  ix_e 16 (.iload_n (3)) 1 3 0 0 0 0,
  ix_e 17 (.invokestatic (75)) 3 34 1 1 0 0,
  ix_e 20 (.ifCond .eq (21)) 3 41 0 0 0 0,
  ix_e 23 (.iload (4)) 2 4 0 0 0 0,
  ix_e 25 (.invokestatic (75)) 3 34 1 1 0 0,
  ix_e 28 (.ifCond .eq (13)) 3 41 0 0 0 0,
  ix_e 31 (.aload (5)) 2 5 0 0 0 0,
  ix_e 33 (.getfield (78)) 3 6 6 0 0 0,
  ix_e 36 (.bipush (12)) 2 0 0 0 0 12,
  ix_e 38 (.if_icmp .lt (5)) 3 43 0 0 0 0,
  ix_e 41 (.iconst (-1)) 1 0 0 0 0 (-1),
  ix_e 42 .ireturn 1 0 0 0 0 0,
  ix_e 43 (.aload_n (0)) 1 0 0 0 0 0,
  ix_e 44 (.getfield (22)) 3 10 2 2 0 0,
  ix_e 47 (.invokevirtual (68)) 3 83 1 0 4 0,
  ix_e 50 (.aload (5)) 2 5 0 0 0 0,
  ix_e 52 (.iload_n (1)) 1 1 0 0 0 0,
  ix_e 53 (.iload_n (2)) 1 2 0 0 0 0,
  ix_e 54 (.ifCond .eq (7)) 3 61 0 0 0 0,
  ix_e 57 (.iconst (1)) 1 0 0 0 0 1,
  ix_e 58 (.goto (4)) 3 62 0 0 0 0,
  ix_e 61 (.iconst (0)) 1 0 0 0 0 0,
  ix_e 62 (.iload_n (3)) 1 3 0 0 0 0,
  ix_e 63 (.iload (4)) 2 4 0 0 0 0,
  ix_e 65 (.invokevirtual (81)) 3 116 5 1 6 0,
  ix_e 68 .ireturn 1 0 0 0 0 0]
/-- VotedBank.set (III)Z -/
def ix_t4 : List ix_E := [ix_e 0 (.iload_n (1)) 1 1 0 0 0 0,
  ix_e 1 (.iconst (2)) 1 0 0 0 0 2,
  ix_e 2 (.if_icmp .gt (18)) 3 20 0 0 0 0,
  ix_e 5 (.aload_n (0)) 1 0 0 0 0 0,
  ix_e 6 (.getfield (12)) 3 10 0 2 0 0,
  ix_e 9 (.getfield (58)) 3 9 0 2 0 0,
  ix_e 12 (.iload_n (1)) 1 1 0 0 0 0,
  ix_e 13 (.iload_n (3)) 1 3 0 0 0 0,
  ix_e 14 (.invokevirtual (85)) 3 117 3 1 6 0,
  ix_e 17 (.goto (16)) 3 33 0 0 0 0,
  ix_e 20 (.aload_n (0)) 1 0 0 0 0 0,
  ix_e 21 (.getfield (12)) 3 10 0 2 0 0,
  ix_e 24 (.getfield (58)) 3 9 0 2 0 0,
  ix_e 27 (.iload_n (1)) 1 1 0 0 0 0,
  ix_e 28 (.iload_n (2)) 1 2 0 0 0 0,
  ix_e 29 (.iload_n (3)) 1 3 0 0 0 0,
  ix_e 30 (.invokevirtual (89)) 3 118 4 1 6 0,
  ix_e 33 (.istore (4)) 2 4 0 0 0 0,
  ix_e 35 (.iload (4)) 2 4 0 0 0 0,
  ix_e 37 (.ifCond .eq (10)) 3 47 0 0 0 0,
  ix_e 40 (.aload_n (0)) 1 0 0 0 0 0,
  ix_e 41 (.getfield (22)) 3 10 2 2 0 0,
  ix_e 44 (.invokevirtual (68)) 3 83 1 0 4 0,
  ix_e 47 (.iload (4)) 2 4 0 0 0 0,
  ix_e 49 .ireturn 1 1 0 0 0 0]
/-- VotedBank.cross (I)I -/
def ix_t5 : List ix_E := [ix_e 0 (.aload_n (0)) 1 0 0 0 0 0,
  ix_e 1 (.getfield (12)) 3 10 0 2 0 0,
  ix_e 4 (.getfield (58)) 3 9 0 2 0 0,
  ix_e 7 (.iload_n (1)) 1 1 0 0 0 0,
  ix_e 8 (.invokevirtual (93)) 3 119 2 1 6 0,
  ix_e 11 (.ifCond .ne (5)) 3 16 0 0 0 0,
  ix_e 14 (.iconst (-1)) 1 0 0 0 0 (-1),
  ix_e 15 .ireturn 1 0 0 0 0 0,
  ix_e 16 (.aload_n (0)) 1 0 0 0 0 0,
  ix_e 17 (.getfield (22)) 3 10 2 2 0 0,
  ix_e 20 (.aload_n (0)) 1 0 0 0 0 0,
  ix_e 21 (.getfield (12)) 3 10 0 2 0 0,
  ix_e 24 (.invokevirtual (96)) 3 84 2 0 4 0,
  ix_e 27 (.aload_n (0)) 1 0 0 0 0 0,
  ix_e 28 (.getfield (47)) 3 10 5 2 0 0,
  ix_e 31 (.iload_n (1)) 1 1 0 0 0 0,
  ix_e 32 (.invokevirtual (99)) 3 46 2 1 1 0,
  ix_c 35 .ireturn 1 [false, false] 0 0 0 0 0]
/-- VotedBank.stay (IZ)Z -/
def ix_t6 : List ix_E := [ix_e 0 (.aload_n (0)) 1 0 0 0 0 0,
  ix_e 1 (.getfield (12)) 3 10 0 2 0 0,
  ix_e 4 (.getfield (58)) 3 9 0 2 0 0,
  ix_e 7 (.astore_n (3)) 1 3 0 0 0 0,
  ix_e 8 (.aload_n (3)) 1 3 0 0 0 0,
  ix_e 9 (.iload_n (1)) 1 1 0 0 0 0,
  ix_e 10 (.invokevirtual (103)) 3 120 2 1 6 0,
  ix_e 13 (.ifCond .eq (12)) 3 25 0 0 0 0,
  ix_e 16 (.aload_n (3)) 1 3 0 0 0 0,
  ix_e 17 (.iload_n (1)) 1 1 0 0 0 0,
  ix_e 18 (.invokevirtual (106)) 3 121 2 1 6 0,
  ix_e 21 (.iload_n (2)) 1 2 0 0 0 0,
  ix_e 22 (.if_icmp .ne (5)) 3 27 0 0 0 0,
  ix_e 25 (.iconst (0)) 1 0 0 0 0 0,
  ix_e 26 .ireturn 1 1 0 0 0 0,
  ix_e 27 (.aload_n (0)) 1 0 0 0 0 0,
  ix_e 28 (.getfield (22)) 3 10 2 2 0 0,
  ix_e 31 (.aload_n (0)) 1 0 0 0 0 0,
  ix_e 32 (.getfield (12)) 3 10 0 2 0 0,
  ix_e 35 (.invokevirtual (96)) 3 84 2 0 4 0,
  ix_e 38 (.iload_n (2)) 1 2 0 0 0 0,
  ix_e 39 (.ifCond .eq (16)) 3 55 0 0 0 0,
  ix_e 42 (.aload_n (0)) 1 0 0 0 0 0,
  ix_e 43 (.getfield (12)) 3 10 0 2 0 0,
  ix_e 46 (.iconst (1)) 1 0 0 0 0 1,
  ix_e 47 (.iload_n (1)) 1 1 0 0 0 0,
  ix_e 48 .ishl 1 0 0 0 0 0,
  ix_e 49 (.invokevirtual (109)) 3 151 2 0 9 0,
  ix_e 52 (.goto (17)) 3 69 0 0 0 0,
  ix_e 55 (.aload_n (3)) 1 3 0 0 0 0,
  ix_e 56 .dup 1 0 0 0 0 0,
  ix_e 57 (.getfield (113)) 3 6 7 0 0 0,
  ix_e 60 (.iconst (1)) 1 0 0 0 0 1,
  ix_e 61 (.iload_n (1)) 1 1 0 0 0 0,
  ix_e 62 .ishl 1 0 0 0 0 0,
  ix_e 63 (.iconst (-1)) 1 0 0 0 0 (-1),
  ix_e 64 .ixor 1 0 0 0 0 0,
  ix_e 65 .iand 1 0 0 0 0 0,
  ix_e 66 (.putfield (113)) 3 6 7 0 0 0,
  ix_e 69 (.iconst (1)) 1 0 0 0 0 1,
  ix_e 70 .ireturn 1 1 0 0 0 0]
/-- VotedBank.log ()I -/
def ix_t7 : List ix_E := [ix_e 0 (.aload_n (0)) 1 0 0 0 0 0,
  ix_e 1 (.getfield (22)) 3 10 2 2 0 0,
  ix_e 4 (.aload_n (0)) 1 0 0 0 0 0,
  ix_e 5 (.getfield (12)) 3 10 0 2 0 0,
  ix_e 8 (.invokevirtual (96)) 3 84 2 0 4 0,
  ix_e 11 (.iconst (0)) 1 0 0 0 0 0,
  ix_e 12 (.istore_n (1)) 1 1 0 0 0 0,
  ix_e 13 (.iconst (0)) 1 0 0 0 0 0,
  ix_e 14 (.istore_n (2)) 1 2 0 0 0 0,
  ix_c 15 (.iload_n (2)) 1 [true, true, true, false] 2 0 0 0 0,
  ix_e 16 (.aload_n (0)) 1 0 0 0 0 0,
  ix_e 17 (.getfield (12)) 3 10 0 2 0 0,
  ix_e 20 (.getfield (116)) 3 9 2 2 0 0,
  ix_e 23 (.getfield (120)) 3 8 6 2 0 0,
  ix_e 26 (.iconst (2)) 1 0 0 0 0 2,
  ix_e 27 .iaload 1 0 0 0 0 0,
  ix_e 28 (.if_icmp .ge (68)) 3 96 0 0 0 0,
  ix_e 31 (.aload_n (0)) 1 0 0 0 0 0,
  ix_e 32 (.getfield (12)) 3 10 0 2 0 0,
  ix_e 35 (.getfield (116)) 3 9 2 2 0 0,
  ix_e 38 (.getfield (126)) 3 8 2 2 0 0,
  ix_e 41 (.iload_n (2)) 1 2 0 0 0 0,
  ix_e 42 .iaload 1 0 0 0 0 0,
  ix_e 43 (.aload_n (0)) 1 0 0 0 0 0,
  ix_e 44 (.getfield (12)) 3 10 0 2 0 0,
  ix_e 47 (.getfield (58)) 3 9 0 2 0 0,
  ix_e 50 (.invokevirtual (129)) 3 122 1 1 6 0,
  ix_e 53 .iand 1 0 0 0 0 0,
  ix_e 54 (.istore_n (3)) 1 3 0 0 0 0,
  ix_e 55 (.iload_n (3)) 1 3 0 0 0 0,
  ix_e 56 (.ifCond .eq (15)) 3 71 0 0 0 0,
  ix_e 59 (.aload_n (0)) 1 0 0 0 0 0,
  ix_e 60 (.getfield (47)) 3 10 5 2 0 0,
  ix_e 63 (.iload_n (3)) 1 3 0 0 0 0,
  ix_e 64 (.invokevirtual (99)) 3 46 2 1 1 0,
  ix_c 67 .pop 1 [true, true, true, false] 0 0 0 0 0,
  ix_e 68 (.iinc 1 (1)) 3 1 0 0 0 1,
  ix_e 71 (.aload_n (0)) 1 0 0 0 0 0,
  ix_e 72 (.getfield (12)) 3 10 0 2 0 0,
  ix_e 75 (.aload_n (0)) 1 0 0 0 0 0,
  ix_e 76 (.getfield (12)) 3 10 0 2 0 0,
  ix_e 79 (.getfield (116)) 3 9 2 2 0 0,
  ix_e 82 (.getfield (133)) 3 8 3 2 0 0,
  ix_e 85 (.iload_n (2)) 1 2 0 0 0 0,
  ix_e 86 .iaload 1 0 0 0 0 0,
  ix_e 87 (.invokevirtual (109)) 3 151 2 0 9 0,
  ix_e 90 (.iinc 2 (1)) 3 2 0 0 0 1,
  ix_e 93 (.goto (-78)) 3 15 0 0 0 0,
  ix_e 96 (.iload_n (1)) 1 1 0 0 0 0,
  ix_e 97 .ireturn 1 0 0 0 0 0]
/-- VotedBank.feed (IIIII)I -/
def ix_t8 : List ix_E := [ix_e 0 (.aload_n (0)) 1 0 0 0 0 0,
  ix_e 1 (.getfield (29)) 3 10 3 2 0 0,
  ix_e 4 (.invokevirtual (136)) 3 133 1 1 7 0,
  ix_e 7 (.ifCond .ne (5)) 3 12 0 0 0 0,
  ix_e 10 (.iconst (-1)) 1 0 0 0 0 (-1),
  ix_e 11 .ireturn 1 0 0 0 0 0,
  ix_e 12 (.aload_n (0)) 1 0 0 0 0 0,
  ix_e 13 (.getfield (29)) 3 10 3 2 0 0,
  ix_e 16 (.iload_n (1)) 1 1 0 0 0 0,
  ix_e 17 (.invokevirtual (140)) 3 134 2 0 7 0,
  ix_e 20 (.aload_n (0)) 1 0 0 0 0 0,
  ix_e 21 (.getfield (29)) 3 10 3 2 0 0,
  ix_e 24 (.iload_n (2)) 1 2 0 0 0 0,
  ix_e 25 (.invokevirtual (140)) 3 134 2 0 7 0,
  ix_e 28 (.aload_n (0)) 1 0 0 0 0 0,
  ix_e 29 (.getfield (29)) 3 10 3 2 0 0,
  ix_e 32 (.iload_n (3)) 1 3 0 0 0 0,
  ix_e 33 (.invokevirtual (140)) 3 134 2 0 7 0,
  ix_e 36 (.aload_n (0)) 1 0 0 0 0 0,
  ix_e 37 (.getfield (29)) 3 10 3 2 0 0,
  ix_e 40 (.iload (4)) 2 4 0 0 0 0,
  ix_e 42 (.invokevirtual (140)) 3 134 2 0 7 0,
  ix_e 45 (.aload_n (0)) 1 0 0 0 0 0,
  ix_e 46 (.getfield (29)) 3 10 3 2 0 0,
  ix_e 49 (.iload (5)) 2 5 0 0 0 0,
  ix_e 51 (.invokevirtual (140)) 3 134 2 0 7 0,
  ix_e 54 (.aload_n (0)) 1 0 0 0 0 0,
  ix_e 55 (.getfield (29)) 3 10 3 2 0 0,
  ix_e 58 (.getfield (143)) 3 7 1 0 0 0,
  ix_e 61 .ireturn 1 0 0 0 0 0]
/-- VotedBank.end (I)Z -/
def ix_t9 : List ix_E := [ix_e 0 (.iload_n (1)) 1 1 0 0 0 0,
  ix_e 1 (.ifCond .lt (14)) 3 15 0 0 0 0,
  ix_e 4 (.iload_n (1)) 1 1 0 0 0 0,
  ix_e 5 (.aload_n (0)) 1 0 0 0 0 0,
  ix_e 6 (.getfield (29)) 3 10 3 2 0 0,
  ix_e 9 (.getfield (143)) 3 7 1 0 0 0,
  ix_e 12 (.if_icmp .le (5)) 3 17 0 0 0 0,
  ix_e 15 (.iconst (0)) 1 0 0 0 0 0,
  ix_e 16 .ireturn 1 1 0 0 0 0,
  ix_e 17 (.aload_n (0)) 1 0 0 0 0 0,
  ix_e 18 (.getfield (29)) 3 10 3 2 0 0,
  ix_e 21 (.iload_n (1)) 1 1 0 0 0 0,
  ix_e 22 (.putfield (143)) 3 7 1 0 0 0,
  ix_e 25 (.iconst (1)) 1 0 0 0 0 1,
  ix_e 26 .ireturn 1 1 0 0 0 0]
/-- VotedBank.text (I)I -/
def ix_t10 : List ix_E := [ix_e 0 (.aload_n (0)) 1 0 0 0 0 0,
  ix_e 1 (.getfield (38)) 3 10 4 2 0 0,
  ix_e 4 (.iload_n (1)) 1 1 0 0 0 0,
  ix_e 5 (.aload_n (0)) 1 0 0 0 0 0,
  ix_e 6 (.getfield (12)) 3 10 0 2 0 0,
  ix_e 9 (.getfield (58)) 3 9 0 2 0 0,
  ix_e 12 (.invokevirtual (146)) 3 123 1 1 6 0,
  ix_e 15 (.invokevirtual (149)) 3 65 3 1 3 0,
  ix_e 18 (.istore_n (2)) 1 2 0 0 0 0,
  ix_e 19 (.aload_n (0)) 1 0 0 0 0 0,
  ix_e 20 (.getfield (29)) 3 10 3 2 0 0,
  ix_e 23 (.iconst (0)) 1 0 0 0 0 0,
  ix_e 24 (.putfield (143)) 3 7 1 0 0 0,
  ix_e 27 (.iload_n (2)) 1 2 0 0 0 0,
  ix_e 28 (.iconst (-1)) 1 0 0 0 0 (-1),
  ix_e 29 (.if_icmp .ne (5)) 3 34 0 0 0 0,
  ix_e 32 (.iconst (-1)) 1 0 0 0 0 (-1),
  ix_e 33 .ireturn 1 0 0 0 0 0,
  ix_e 34 (.aload_n (0)) 1 0 0 0 0 0,
  ix_e 35 (.getfield (12)) 3 10 0 2 0 0,
  ix_e 38 (.getfield (116)) 3 9 2 2 0 0,
  ix_e 41 (.iload_n (1)) 1 1 0 0 0 0,
  ix_e 42 (.aload_n (0)) 1 0 0 0 0 0,
  ix_e 43 (.getfield (38)) 3 10 4 2 0 0,
  ix_e 46 (.getfield (153)) 3 3 0 2 0 0,
  ix_e 49 (.invokevirtual (156)) 3 144 3 0 8 0,
  ix_e 52 (.iload_n (1)) 1 1 0 0 0 0,
  ix_e 53 (.iconst (1)) 1 0 0 0 0 1,
  ix_e 54 (.if_icmp .eq (8)) 3 62 0 0 0 0,
  ix_e 57 (.iload_n (1)) 1 1 0 0 0 0,
  ix_e 58 (.iconst (2)) 1 0 0 0 0 2,
  ix_e 59 (.if_icmp .ne (10)) 3 69 0 0 0 0,
  ix_e 62 (.aload_n (0)) 1 0 0 0 0 0,
  ix_e 63 (.getfield (22)) 3 10 2 2 0 0,
  ix_e 66 (.invokevirtual (68)) 3 83 1 0 4 0,
  ix_e 69 (.iload_n (2)) 1 2 0 0 0 0,
  ix_e 70 .ireturn 1 0 0 0 0 0]
/-- VotedBank.fault (I)I -/
def ix_t11 : List ix_E := [ix_e 0 (.iload_n (1)) 1 1 0 0 0 0,
  ix_e 1 (.ifCond .ne (13)) 3 14 0 0 0 0,
  ix_e 4 (.aload_n (0)) 1 0 0 0 0 0,
  ix_e 5 (.getfield (38)) 3 10 4 2 0 0,
  ix_e 8 (.getfield (160)) 3 3 1 0 0 0,
  ix_e 11 (.goto (19)) 3 30 0 0 0 0,
  ix_e 14 (.iload_n (1)) 1 1 0 0 0 0,
  ix_e 15 (.iconst (1)) 1 0 0 0 0 1,
  ix_e 16 (.if_icmp .ne (13)) 3 29 0 0 0 0,
  ix_e 19 (.aload_n (0)) 1 0 0 0 0 0,
  ix_e 20 (.getfield (38)) 3 10 4 2 0 0,
  ix_e 23 (.getfield (163)) 3 3 2 0 0 0,
  ix_e 26 (.goto (4)) 3 30 0 0 0 0,
  ix_e 29 (.iconst (-1)) 1 0 0 0 0 (-1),
  ix_e 30 .ireturn 1 0 0 0 0 0]
/-- VotedBank.of (II)I -/
def ix_t12 : List ix_E := [ix_e 0 (.aload_n (0)) 1 0 0 0 0 0,
  ix_e 1 (.getfield (12)) 3 10 0 2 0 0,
  ix_e 4 (.getfield (58)) 3 9 0 2 0 0,
  ix_e 7 (.astore_n (3)) 1 3 0 0 0 0,
  ix_e 8 (.aload_n (3)) 1 3 0 0 0 0,
  ix_e 9 (.iload_n (1)) 1 1 0 0 0 0,
  ix_e 10 (.invokevirtual (103)) 3 120 2 1 6 0,
  ix_e 13 (.ifCond .ne (5)) 3 18 0 0 0 0,
  ix_e 16 (.iconst (-1)) 1 0 0 0 0 (-1),
  ix_e 17 .ireturn 1 0 0 0 0 0,
  ix_e 18 (.iload_n (2)) 1 2 0 0 0 0,
  ix_e 19 (.tableswitch (70) (7) (9) #[25, 38, 54]) 25 0 0 0 0 0,
  ix_e 44 (.aload_n (0)) 1 0 0 0 0 0,
  ix_e 45 (.getfield (12)) 3 10 0 2 0 0,
  ix_e 48 (.getfield (116)) 3 9 2 2 0 0,
  ix_e 51 (.getfield (166)) 3 8 1 2 0 0,
  ix_e 54 (.iload_n (1)) 1 1 0 0 0 0,
  ix_e 55 .iaload 1 0 0 0 0 0,
  ix_e 56 .ireturn 1 0 0 0 0 0,
  ix_e 57 (.aload_n (0)) 1 0 0 0 0 0,
  ix_e 58 (.getfield (54)) 3 10 6 2 0 0,
  ix_e 61 (.iconst (2)) 1 0 0 0 0 2,
  ix_e 62 (.iload_n (1)) 1 1 0 0 0 0,
  ix_e 63 (.aload_n (3)) 1 3 0 0 0 0,
  ix_e 64 (.getfield (171)) 3 6 10 2 0 0,
  ix_e 67 (.iload_n (1)) 1 1 0 0 0 0,
  ix_e 68 .iaload 1 0 0 0 0 0,
  ix_e 69 (.invokevirtual (174)) 3 87 4 1 5 0,
  ix_e 72 .ireturn 1 0 0 0 0 0,
  ix_e 73 (.aload_n (0)) 1 0 0 0 0 0,
  ix_e 74 (.getfield (54)) 3 10 6 2 0 0,
  ix_e 77 (.iconst (1)) 1 0 0 0 0 1,
  ix_e 78 (.iload_n (1)) 1 1 0 0 0 0,
  ix_e 79 (.aload_n (3)) 1 3 0 0 0 0,
  ix_e 80 (.getfield (171)) 3 6 10 2 0 0,
  ix_e 83 (.iload_n (1)) 1 1 0 0 0 0,
  ix_e 84 .iaload 1 0 0 0 0 0,
  ix_e 85 (.invokevirtual (174)) 3 87 4 1 5 0,
  ix_e 88 .ireturn 1 0 0 0 0 0,
  ix_e 89 (.aload_n (3)) 1 3 0 0 0 0,
  ix_e 90 (.iload_n (1)) 1 1 0 0 0 0,
  ix_e 91 (.iload_n (2)) 1 2 0 0 0 0,
  ix_e 92 (.invokevirtual (178)) 3 124 3 1 6 0,
  ix_e 95 .ireturn 1 0 0 0 0 0]
/-- VotedBank.sway (II)I -/
def ix_t13 : List ix_E := [ix_e 0 (.aload_n (0)) 1 0 0 0 0 0,
  ix_e 1 (.getfield (12)) 3 10 0 2 0 0,
  ix_e 4 (.getfield (58)) 3 9 0 2 0 0,
  ix_e 7 (.astore_n (3)) 1 3 0 0 0 0,
  ix_e 8 (.aload_n (3)) 1 3 0 0 0 0,
  ix_e 9 (.iload_n (1)) 1 1 0 0 0 0,
  ix_e 10 (.invokevirtual (103)) 3 120 2 1 6 0,
  ix_e 13 (.ifCond .eq (11)) 3 24 0 0 0 0,
  ix_e 16 (.aload_n (3)) 1 3 0 0 0 0,
  ix_e 17 (.iload_n (2)) 1 2 0 0 0 0,
  ix_e 18 (.invokevirtual (103)) 3 120 2 1 6 0,
  ix_e 21 (.ifCond .ne (5)) 3 26 0 0 0 0,
  ix_e 24 (.iconst (-1)) 1 0 0 0 0 (-1),
  ix_e 25 .ireturn 1 0 0 0 0 0,
  ix_e 26 (.aload_n (0)) 1 0 0 0 0 0,
  ix_e 27 (.getfield (54)) 3 10 6 2 0 0,
  ix_e 30 (.iconst (0)) 1 0 0 0 0 0,
  ix_e 31 (.iload_n (1)) 1 1 0 0 0 0,
  ix_e 32 (.aload_n (3)) 1 3 0 0 0 0,
  ix_e 33 (.getfield (171)) 3 6 10 2 0 0,
  ix_e 36 (.iload_n (2)) 1 2 0 0 0 0,
  ix_e 37 .iaload 1 0 0 0 0 0,
  ix_e 38 (.invokevirtual (174)) 3 87 4 1 5 0,
  ix_e 41 .ireturn 1 0 0 0 0 0]
/-- VotedBank.season (II)I -/
def ix_t14 : List ix_E := [ix_e 0 (.aload_n (0)) 1 0 0 0 0 0,
  ix_e 1 (.getfield (12)) 3 10 0 2 0 0,
  ix_e 4 (.getfield (116)) 3 9 2 2 0 0,
  ix_e 7 (.astore_n (3)) 1 3 0 0 0 0,
  ix_e 8 (.iload_n (1)) 1 1 0 0 0 0,
  ix_e 9 (.ifCond .lt (18)) 3 27 0 0 0 0,
  ix_e 12 (.iload_n (1)) 1 1 0 0 0 0,
  ix_e 13 (.bipush (6)) 2 0 0 0 0 6,
  ix_e 15 (.if_icmp .ge (12)) 3 27 0 0 0 0,
  ix_e 18 (.aload_n (3)) 1 3 0 0 0 0,
  ix_e 19 (.getfield (181)) 3 8 4 2 0 0,
  ix_e 22 (.iload_n (1)) 1 1 0 0 0 0,
  ix_e 23 .iaload 1 0 0 0 0 0,
  ix_e 24 (.ifCond .ne (5)) 3 29 0 0 0 0,
  ix_e 27 (.iconst (-1)) 1 0 0 0 0 (-1),
  ix_e 28 .ireturn 1 0 0 0 0 0,
  ix_e 29 (.iload_n (2)) 1 2 0 0 0 0,
  ix_e 30 (.ifCond .ne (12)) 3 42 0 0 0 0,
  ix_e 33 (.aload_n (3)) 1 3 0 0 0 0,
  ix_e 34 (.getfield (181)) 3 8 4 2 0 0,
  ix_e 37 (.iload_n (1)) 1 1 0 0 0 0,
  ix_e 38 .iaload 1 0 0 0 0 0,
  ix_e 39 (.goto (18)) 3 57 0 0 0 0,
  ix_e 42 (.iload_n (2)) 1 2 0 0 0 0,
  ix_e 43 (.iconst (1)) 1 0 0 0 0 1,
  ix_e 44 (.if_icmp .ne (12)) 3 56 0 0 0 0,
  ix_e 47 (.aload_n (3)) 1 3 0 0 0 0,
  ix_e 48 (.getfield (184)) 3 8 5 2 0 0,
  ix_e 51 (.iload_n (1)) 1 1 0 0 0 0,
  ix_e 52 .iaload 1 0 0 0 0 0,
  ix_e 53 (.goto (4)) 3 57 0 0 0 0,
  ix_e 56 (.iconst (-1)) 1 0 0 0 0 (-1),
  ix_e 57 .ireturn 1 0 0 0 0 0]
/-- VotedBank.book (II)I -/
def ix_t15 : List ix_E := [ix_e 0 (.aload_n (0)) 1 0 0 0 0 0,
  ix_e 1 (.getfield (12)) 3 10 0 2 0 0,
  ix_e 4 (.getfield (187)) 3 9 1 2 0 0,
  ix_e 7 (.iload_n (1)) 1 1 0 0 0 0,
  ix_e 8 (.iload_n (2)) 1 2 0 0 0 0,
  ix_e 9 (.invokevirtual (191)) 3 41 3 1 0 0,
  ix_e 12 .ireturn 1 0 0 0 0 0]
/-- VotedBank.would (II)I -/
def ix_t16 : List ix_E := [ix_e 0 (.aload_n (0)) 1 0 0 0 0 0,
  ix_e 1 (.getfield (12)) 3 10 0 2 0 0,
  ix_e 4 (.getfield (58)) 3 9 0 2 0 0,
  ix_e 7 (.iload_n (1)) 1 1 0 0 0 0,
  ix_e 8 (.invokevirtual (93)) 3 119 2 1 6 0,
  ix_e 11 (.ifCond .eq (12)) 3 23 0 0 0 0,
  ix_e 14 (.iload_n (2)) 1 2 0 0 0 0,
  ix_e 15 (.ifCond .lt (8)) 3 23 0 0 0 0,
  ix_e 18 (.iload_n (2)) 1 2 0 0 0 0,
  ix_e 19 (.iconst (2)) 1 0 0 0 0 2,
  ix_e 20 (.if_icmp .le (5)) 3 25 0 0 0 0,
  ix_e 23 (.iconst (-1)) 1 0 0 0 0 (-1),
  ix_e 24 .ireturn 1 0 0 0 0 0,
  ix_e 25 (.aload_n (0)) 1 0 0 0 0 0,
  ix_e 26 (.getfield (47)) 3 10 5 2 0 0,
  ix_e 29 (.iload_n (1)) 1 1 0 0 0 0,
  ix_e 30 (.invokevirtual (196)) 3 47 2 1 1 0,
  ix_c 33 (.istore_n (3)) 1 [true, false, true, false] 3 0 0 0 0,
  ix_e 34 (.iload_n (2)) 1 2 0 0 0 0,
  ix_e 35 (.ifCond .ne (5)) 3 40 0 0 0 0,
  ix_e 38 (.iload_n (3)) 1 3 0 0 0 0,
  ix_e 39 .ireturn 1 0 0 0 0 0,
  ix_e 40 (.iload_n (2)) 1 2 0 0 0 0,
  ix_e 41 (.iconst (1)) 1 0 0 0 0 1,
  ix_e 42 (.if_icmp .ne (15)) 3 57 0 0 0 0,
  ix_e 45 (.aload_n (0)) 1 0 0 0 0 0,
  ix_e 46 (.getfield (47)) 3 10 5 2 0 0,
  ix_e 49 (.getfield (199)) 3 1 0 2 0 0,
  ix_e 52 (.iload_n (3)) 1 3 0 0 0 0,
  ix_e 53 .iaload 1 0 0 0 0 0,
  ix_e 54 (.goto (10)) 3 64 0 0 0 0,
  ix_e 57 (.aload_n (0)) 1 0 0 0 0 0,
  ix_e 58 (.getfield (47)) 3 10 5 2 0 0,
  ix_e 61 (.getfield (202)) 3 1 1 0 0 0,
  ix_e 64 .ireturn 1 0 0 0 0 0]
/-- VotedBank.makes (II)I -/
def ix_t17 : List ix_E := [ix_e 0 (.iload_n (1)) 1 1 0 0 0 0,
  ix_e 1 (.invokestatic (205)) 3 35 1 1 0 0,
  ix_e 4 (.ifCond .eq (12)) 3 16 0 0 0 0,
  ix_e 7 (.iload_n (2)) 1 2 0 0 0 0,
  ix_e 8 (.ifCond .lt (8)) 3 16 0 0 0 0,
  ix_e 11 (.iload_n (2)) 1 2 0 0 0 0,
  ix_e 12 (.iconst (1)) 1 0 0 0 0 1,
  ix_e 13 (.if_icmp .le (5)) 3 18 0 0 0 0,
  ix_e 16 (.iconst (-1)) 1 0 0 0 0 (-1),
  ix_e 17 .ireturn 1 0 0 0 0 0,
  ix_e 18 (.aload_n (0)) 1 0 0 0 0 0,
  ix_e 19 (.getfield (54)) 3 10 6 2 0 0,
  ix_e 22 (.invokevirtual (208)) 3 88 1 0 5 0,
  ix_e 25 (.aload_n (0)) 1 0 0 0 0 0,
  ix_e 26 (.getfield (54)) 3 10 6 2 0 0,
  ix_e 29 (.iload_n (1)) 1 1 0 0 0 0,
  ix_e 30 (.invokevirtual (211)) 3 89 2 1 5 0,
  ix_e 33 (.istore_n (3)) 1 3 0 0 0 0,
  ix_e 34 (.iload_n (3)) 1 3 0 0 0 0,
  ix_e 35 (.iconst (-1)) 1 0 0 0 0 (-1),
  ix_e 36 (.if_icmp .ne (5)) 3 41 0 0 0 0,
  ix_e 39 (.iconst (-1)) 1 0 0 0 0 (-1),
  ix_e 40 .ireturn 1 0 0 0 0 0,
  ix_e 41 (.iload_n (2)) 1 2 0 0 0 0,
  ix_e 42 (.ifCond .ne (7)) 3 49 0 0 0 0,
  ix_e 45 (.iconst (1)) 1 0 0 0 0 1,
  ix_e 46 (.goto (6)) 3 52 0 0 0 0,
  ix_e 49 (.iconst (1)) 1 0 0 0 0 1,
  ix_e 50 (.iload_n (3)) 1 3 0 0 0 0,
  ix_e 51 .ishl 1 0 0 0 0 0,
  ix_e 52 .ireturn 1 0 0 0 0 0]
/-- VotedBank.pivots (I)I -/
def ix_t18 : List ix_E := [ix_e 0 (.aload_n (0)) 1 0 0 0 0 0,
  ix_e 1 (.getfield (12)) 3 10 0 2 0 0,
  ix_e 4 (.getfield (58)) 3 9 0 2 0 0,
  ix_e 7 (.iload_n (1)) 1 1 0 0 0 0,
  ix_e 8 (.invokevirtual (103)) 3 120 2 1 6 0,
  ix_e 11 (.ifCond .eq (17)) 3 28 0 0 0 0,
  ix_e 14 (.aload_n (0)) 1 0 0 0 0 0,
  ix_e 15 (.getfield (12)) 3 10 0 2 0 0,
  ix_e 18 (.getfield (58)) 3 9 0 2 0 0,
  ix_e 21 (.iload_n (1)) 1 1 0 0 0 0,
  ix_e 22 (.invokevirtual (106)) 3 121 2 1 6 0,
  ix_e 25 (.ifCond .eq (5)) 3 30 0 0 0 0,
  ix_e 28 (.iconst (-1)) 1 0 0 0 0 (-1),
  ix_e 29 .ireturn 1 0 0 0 0 0,
  ix_e 30 (.aload_n (0)) 1 0 0 0 0 0,
  ix_e 31 (.getfield (54)) 3 10 6 2 0 0,
  ix_e 34 (.invokevirtual (208)) 3 88 1 0 5 0,
  ix_e 37 (.aload_n (0)) 1 0 0 0 0 0,
  ix_e 38 (.getfield (54)) 3 10 6 2 0 0,
  ix_e 41 (.iload_n (1)) 1 1 0 0 0 0,
  ix_e 42 (.invokevirtual (214)) 3 90 2 1 5 0,
  ix_e 45 .ireturn 1 0 0 0 0 0]
/-- VotedBank.beats (II)I -/
def ix_t19 : List ix_E := [ix_e 0 (.iload_n (1)) 1 1 0 0 0 0,
  ix_e 1 (.invokestatic (205)) 3 35 1 1 0 0,
  ix_e 4 (.ifCond .eq (15)) 3 19 0 0 0 0,
  ix_e 7 (.iload_n (2)) 1 2 0 0 0 0,
  ix_e 8 (.invokestatic (205)) 3 35 1 1 0 0,
  ix_e 11 (.ifCond .eq (8)) 3 19 0 0 0 0,
  ix_e 14 (.iload_n (1)) 1 1 0 0 0 0,
  ix_e 15 (.iload_n (2)) 1 2 0 0 0 0,
  ix_e 16 (.if_icmp .ne (7)) 3 23 0 0 0 0,
  ix_e 19 (.sipush (-1000)) 3 0 0 0 0 (-1000),
  ix_e 22 .ireturn 1 0 0 0 0 0,
  ix_e 23 (.aload_n (0)) 1 0 0 0 0 0,
  ix_e 24 (.getfield (54)) 3 10 6 2 0 0,
  ix_e 27 (.invokevirtual (208)) 3 88 1 0 5 0,
  ix_e 30 (.aload_n (0)) 1 0 0 0 0 0,
  ix_e 31 (.getfield (54)) 3 10 6 2 0 0,
  ix_e 34 (.invokevirtual (217)) 3 91 1 0 5 0,
  ix_e 37 (.aload_n (0)) 1 0 0 0 0 0,
  ix_e 38 (.getfield (54)) 3 10 6 2 0 0,
  ix_e 41 (.iload_n (1)) 1 1 0 0 0 0,
  ix_e 42 (.iload_n (2)) 1 2 0 0 0 0,
  ix_e 43 (.invokevirtual (220)) 3 92 3 1 5 0,
  ix_e 46 .ireturn 1 0 0 0 0 0]
/-- VotedBank.wins (I)I -/
def ix_t20 : List ix_E := [ix_e 0 (.aload_n (0)) 1 0 0 0 0 0,
  ix_e 1 (.getfield (54)) 3 10 6 2 0 0,
  ix_e 4 (.invokevirtual (208)) 3 88 1 0 5 0,
  ix_e 7 (.iload_n (1)) 1 1 0 0 0 0,
  ix_e 8 (.iconst (1)) 1 0 0 0 0 1,
  ix_e 9 (.if_icmp .ne (11)) 3 20 0 0 0 0,
  ix_e 12 (.aload_n (0)) 1 0 0 0 0 0,
  ix_e 13 (.getfield (54)) 3 10 6 2 0 0,
  ix_e 16 (.invokevirtual (223)) 3 93 1 1 5 0,
  ix_e 19 .ireturn 1 0 0 0 0 0,
  ix_e 20 (.iload_n (1)) 1 1 0 0 0 0,
  ix_e 21 (.bipush (10)) 2 0 0 0 0 10,
  ix_e 23 (.if_icmp .le (25)) 3 48 0 0 0 0,
  ix_e 26 (.iload_n (1)) 1 1 0 0 0 0,
  ix_e 27 (.bipush (10)) 2 0 0 0 0 10,
  ix_e 29 .isub 1 0 0 0 0 0,
  ix_e 30 (.invokestatic (205)) 3 35 1 1 0 0,
  ix_e 33 (.ifCond .eq (15)) 3 48 0 0 0 0,
  ix_e 36 (.aload_n (0)) 1 0 0 0 0 0,
  ix_e 37 (.getfield (54)) 3 10 6 2 0 0,
  ix_e 40 (.iload_n (1)) 1 1 0 0 0 0,
  ix_e 41 (.bipush (10)) 2 0 0 0 0 10,
  ix_e 43 .isub 1 0 0 0 0 0,
  ix_e 44 (.invokevirtual (226)) 3 94 2 1 5 0,
  ix_e 47 .ireturn 1 0 0 0 0 0,
  ix_e 48 (.aload_n (0)) 1 0 0 0 0 0,
  ix_e 49 (.getfield (54)) 3 10 6 2 0 0,
  ix_e 52 (.invokevirtual (217)) 3 91 1 0 5 0,
  ix_e 55 (.iload_n (1)) 1 1 0 0 0 0,
  ix_e 56 (.ifCond .ne (11)) 3 67 0 0 0 0,
  ix_e 59 (.aload_n (0)) 1 0 0 0 0 0,
  ix_e 60 (.getfield (54)) 3 10 6 2 0 0,
  ix_e 63 (.invokevirtual (229)) 3 95 1 1 5 0,
  ix_e 66 .ireturn 1 0 0 0 0 0,
  ix_e 67 (.iload_n (1)) 1 1 0 0 0 0,
  ix_e 68 (.bipush (20)) 2 0 0 0 0 20,
  ix_e 70 (.if_icmp .le (27)) 3 97 0 0 0 0,
  ix_e 73 (.iload_n (1)) 1 1 0 0 0 0,
  ix_e 74 (.bipush (20)) 2 0 0 0 0 20,
  ix_e 76 .isub 1 0 0 0 0 0,
  ix_e 77 (.invokestatic (205)) 3 35 1 1 0 0,
  ix_e 80 (.ifCond .eq (17)) 3 97 0 0 0 0,
  ix_e 83 (.aload_n (0)) 1 0 0 0 0 0,
  ix_e 84 (.getfield (54)) 3 10 6 2 0 0,
  ix_e 87 (.iload_n (1)) 1 1 0 0 0 0,
  ix_e 88 (.bipush (20)) 2 0 0 0 0 20,
  ix_e 90 .isub 1 0 0 0 0 0,
  ix_e 91 (.invokevirtual (232)) 3 96 2 1 5 0,
  ix_e 94 (.goto (4)) 3 98 0 0 0 0,
  ix_e 97 (.iconst (-1)) 1 0 0 0 0 (-1),
  ix_e 98 .ireturn 1 0 0 0 0 0]
/-- VotedBank.boats (II)I -/
def ix_t21 : List ix_E := [ix_e 0 (.iload_n (1)) 1 1 0 0 0 0,
  ix_e 1 (.iconst (1)) 1 0 0 0 0 1,
  ix_e 2 (.if_icmp .lt (9)) 3 11 0 0 0 0,
  ix_e 5 (.iload_n (1)) 1 1 0 0 0 0,
  ix_e 6 (.bipush (12)) 2 0 0 0 0 12,
  ix_e 8 (.if_icmp .le (5)) 3 13 0 0 0 0,
  ix_e 11 (.iconst (-1)) 1 0 0 0 0 (-1),
  ix_e 12 .ireturn 1 0 0 0 0 0,
  ix_e 13 (.iload_n (2)) 1 2 0 0 0 0,
  ix_e 14 (.ifCond .ne (14)) 3 28 0 0 0 0,
  ix_e 17 (.aload_n (0)) 1 0 0 0 0 0,
  ix_e 18 (.getfield (54)) 3 10 6 2 0 0,
  ix_e 21 (.iload_n (1)) 1 1 0 0 0 0,
  ix_e 22 (.invokevirtual (235)) 3 97 2 1 5 0,
  ix_e 25 (.goto (20)) 3 45 0 0 0 0,
  ix_e 28 (.iload_n (2)) 1 2 0 0 0 0,
  ix_e 29 (.iconst (1)) 1 0 0 0 0 1,
  ix_e 30 (.if_icmp .ne (14)) 3 44 0 0 0 0,
  ix_e 33 (.aload_n (0)) 1 0 0 0 0 0,
  ix_e 34 (.getfield (54)) 3 10 6 2 0 0,
  ix_e 37 (.iload_n (1)) 1 1 0 0 0 0,
  ix_e 38 (.invokevirtual (238)) 3 98 2 1 5 0,
  ix_e 41 (.goto (4)) 3 45 0 0 0 0,
  ix_e 44 (.iconst (-1)) 1 0 0 0 0 (-1),
  ix_e 45 .ireturn 1 0 0 0 0 0]
/-- VotedBank.reaches (I)I -/
def ix_t22 : List ix_E := [ix_e 0 (.aload_n (0)) 1 0 0 0 0 0,
  ix_e 1 (.getfield (12)) 3 10 0 2 0 0,
  ix_e 4 (.getfield (58)) 3 9 0 2 0 0,
  ix_e 7 (.iload_n (1)) 1 1 0 0 0 0,
  ix_e 8 (.invokevirtual (103)) 3 120 2 1 6 0,
  ix_e 11 (.ifCond .eq (17)) 3 28 0 0 0 0,
  ix_e 14 (.aload_n (0)) 1 0 0 0 0 0,
  ix_e 15 (.getfield (12)) 3 10 0 2 0 0,
  ix_e 18 (.getfield (116)) 3 9 2 2 0 0,
  ix_e 21 (.iload_n (1)) 1 1 0 0 0 0,
  ix_e 22 (.invokevirtual (241)) 3 145 2 1 8 0,
  ix_e 25 (.goto (4)) 3 29 0 0 0 0,
  ix_e 28 (.iconst (-1)) 1 0 0 0 0 (-1),
  ix_e 29 .ireturn 1 0 0 0 0 0]
/-- VotedBank.alike (II)I -/
def ix_t23 : List ix_E := [ix_e 0 (.aload_n (0)) 1 0 0 0 0 0,
  ix_e 1 (.getfield (12)) 3 10 0 2 0 0,
  ix_e 4 (.getfield (58)) 3 9 0 2 0 0,
  ix_e 7 (.astore_n (3)) 1 3 0 0 0 0,
  ix_e 8 (.aload_n (3)) 1 3 0 0 0 0,
  ix_e 9 (.iload_n (1)) 1 1 0 0 0 0,
  ix_e 10 (.invokevirtual (103)) 3 120 2 1 6 0,
  ix_e 13 (.ifCond .ne (5)) 3 18 0 0 0 0,
  ix_e 16 (.iconst (-1)) 1 0 0 0 0 (-1),
  ix_e 17 .ireturn 1 0 0 0 0 0,
  ix_e 18 (.iload_n (2)) 1 2 0 0 0 0,
  ix_e 19 (.iconst (-1)) 1 0 0 0 0 (-1),
  ix_e 20 (.if_icmp .ne (9)) 3 29 0 0 0 0,
  ix_e 23 (.aload_n (3)) 1 3 0 0 0 0,
  ix_e 24 (.iload_n (1)) 1 1 0 0 0 0,
  ix_e 25 (.invokevirtual (244)) 3 125 2 1 6 0,
  ix_e 28 .ireturn 1 0 0 0 0 0,
  ix_e 29 (.aload_n (3)) 1 3 0 0 0 0,
  ix_e 30 (.iload_n (2)) 1 2 0 0 0 0,
  ix_e 31 (.invokevirtual (103)) 3 120 2 1 6 0,
  ix_e 34 (.ifCond .eq (21)) 3 55 0 0 0 0,
  ix_e 37 (.aload_n (3)) 1 3 0 0 0 0,
  ix_e 38 (.getfield (247)) 3 6 8 2 0 0,
  ix_e 41 (.iload_n (1)) 1 1 0 0 0 0,
  ix_e 42 .iaload 1 0 0 0 0 0,
  ix_e 43 (.aload_n (3)) 1 3 0 0 0 0,
  ix_e 44 (.getfield (247)) 3 6 8 2 0 0,
  ix_e 47 (.iload_n (2)) 1 2 0 0 0 0,
  ix_e 48 .iaload 1 0 0 0 0 0,
  ix_e 49 (.invokestatic (250)) 3 36 2 1 0 0,
  ix_e 52 (.goto (4)) 3 56 0 0 0 0,
  ix_e 55 (.iconst (-1)) 1 0 0 0 0 (-1),
  ix_e 56 .ireturn 1 0 0 0 0 0]
/-- VotedBank.middle (I)I -/
def ix_t24 : List ix_E := [ix_e 0 (.iload_n (1)) 1 1 0 0 0 0,
  ix_e 1 (.ifCond .lt (8)) 3 9 0 0 0 0,
  ix_e 4 (.iload_n (1)) 1 1 0 0 0 0,
  ix_e 5 (.iconst (1)) 1 0 0 0 0 1,
  ix_e 6 (.if_icmp .le (5)) 3 11 0 0 0 0,
  ix_e 9 (.iconst (-1)) 1 0 0 0 0 (-1),
  ix_e 10 .ireturn 1 0 0 0 0 0,
  ix_e 11 (.aload_n (0)) 1 0 0 0 0 0,
  ix_e 12 (.getfield (54)) 3 10 6 2 0 0,
  ix_e 15 (.invokevirtual (253)) 3 99 1 0 5 0,
  ix_e 18 (.aload_n (0)) 1 0 0 0 0 0,
  ix_e 19 (.getfield (54)) 3 10 6 2 0 0,
  ix_e 22 (.iload_n (1)) 1 1 0 0 0 0,
  ix_e 23 (.invokevirtual (256)) 3 100 2 1 5 0,
  ix_e 26 .ireturn 1 0 0 0 0 0]
/-- VotedBank.seen (I)I -/
def ix_t25 : List ix_E := [ix_e 0 (.aload_n (0)) 1 0 0 0 0 0,
  ix_e 1 (.getfield (12)) 3 10 0 2 0 0,
  ix_e 4 (.iload_n (1)) 1 1 0 0 0 0,
  ix_e 5 (.invokevirtual (259)) 3 152 2 1 9 0,
  ix_e 8 .ireturn 1 0 0 0 0 0]
/-- VotedBank.began (I)I -/
def ix_t26 : List ix_E := [ix_e 0 (.iload_n (1)) 1 1 0 0 0 0,
  ix_e 1 (.ifCond .lt (8)) 3 9 0 0 0 0,
  ix_e 4 (.iload_n (1)) 1 1 0 0 0 0,
  ix_e 5 (.iconst (1)) 1 0 0 0 0 1,
  ix_e 6 (.if_icmp .le (5)) 3 11 0 0 0 0,
  ix_e 9 (.iconst (-1)) 1 0 0 0 0 (-1),
  ix_e 10 .ireturn 1 0 0 0 0 0,
  ix_e 11 (.aload_n (0)) 1 0 0 0 0 0,
  ix_e 12 (.getfield (12)) 3 10 0 2 0 0,
  ix_e 15 (.iload_n (1)) 1 1 0 0 0 0,
  ix_e 16 (.invokevirtual (262)) 3 153 2 1 9 0,
  ix_e 19 .ireturn 1 0 0 0 0 0]
/-- VotedBank.bribe (II)Z -/
def ix_t27 : List ix_E := [ix_e 0 (.iload_n (1)) 1 1 0 0 0 0,
  ix_e 1 (.ifCond .lt (19)) 3 20 0 0 0 0,
  ix_e 4 (.iload_n (1)) 1 1 0 0 0 0,
  ix_e 5 (.bipush (12)) 2 0 0 0 0 12,
  ix_e 7 (.if_icmp .ge (13)) 3 20 0 0 0 0,
  ix_e 10 (.iload_n (2)) 1 2 0 0 0 0,
  ix_e 11 (.ifCond .lt (9)) 3 20 0 0 0 0,
  ix_e 14 (.iload_n (2)) 1 2 0 0 0 0,
  ix_e 15 (.bipush (99)) 2 0 0 0 0 99,
  ix_e 17 (.if_icmp .le (5)) 3 22 0 0 0 0,
  ix_e 20 (.iconst (0)) 1 0 0 0 0 0,
  ix_e 21 .ireturn 1 1 0 0 0 0,
  ix_e 22 (.aload_n (0)) 1 0 0 0 0 0,
  ix_e 23 (.getfield (12)) 3 10 0 2 0 0,
  ix_e 26 (.getfield (265)) 3 9 3 2 0 0,
  ix_e 29 (.iload_n (1)) 1 1 0 0 0 0,
  ix_e 30 (.iload_n (2)) 1 2 0 0 0 0,
  ix_e 31 .iastore 1 0 0 0 0 0,
  ix_e 32 (.iconst (1)) 1 0 0 0 0 1,
  ix_e 33 .ireturn 1 1 0 0 0 0]
/-- VotedBank.costs (II)I -/
def ix_t28 : List ix_E := [ix_e 0 (.iload_n (1)) 1 1 0 0 0 0,
  ix_e 1 (.invokestatic (205)) 3 35 1 1 0 0,
  ix_e 4 (.ifCond .eq (12)) 3 16 0 0 0 0,
  ix_e 7 (.iload_n (2)) 1 2 0 0 0 0,
  ix_e 8 (.ifCond .lt (8)) 3 16 0 0 0 0,
  ix_e 11 (.iload_n (2)) 1 2 0 0 0 0,
  ix_e 12 (.iconst (1)) 1 0 0 0 0 1,
  ix_e 13 (.if_icmp .le (5)) 3 18 0 0 0 0,
  ix_e 16 (.iconst (-1)) 1 0 0 0 0 (-1),
  ix_e 17 .ireturn 1 0 0 0 0 0,
  ix_e 18 (.aload_n (0)) 1 0 0 0 0 0,
  ix_e 19 (.getfield (54)) 3 10 6 2 0 0,
  ix_e 22 (.invokevirtual (208)) 3 88 1 0 5 0,
  ix_e 25 (.aload_n (0)) 1 0 0 0 0 0,
  ix_e 26 (.getfield (54)) 3 10 6 2 0 0,
  ix_e 29 (.iload_n (1)) 1 1 0 0 0 0,
  ix_e 30 (.invokevirtual (268)) 3 101 2 0 5 0,
  ix_e 33 (.iload_n (2)) 1 2 0 0 0 0,
  ix_e 34 (.ifCond .ne (13)) 3 47 0 0 0 0,
  ix_e 37 (.aload_n (0)) 1 0 0 0 0 0,
  ix_e 38 (.getfield (54)) 3 10 6 2 0 0,
  ix_e 41 (.getfield (271)) 3 5 5 0 0 0,
  ix_e 44 (.goto (10)) 3 54 0 0 0 0,
  ix_e 47 (.aload_n (0)) 1 0 0 0 0 0,
  ix_e 48 (.getfield (54)) 3 10 6 2 0 0,
  ix_e 51 (.getfield (274)) 3 5 6 0 0 0,
  ix_e 54 .ireturn 1 0 0 0 0 0]
/-- VotedBank.game (I)I -/
def ix_t29 : List ix_E := [ix_e 0 (.iload_n (1)) 1 1 0 0 0 0,
  ix_e 1 (.ifCond .lt (8)) 3 9 0 0 0 0,
  ix_e 4 (.iload_n (1)) 1 1 0 0 0 0,
  ix_e 5 (.iconst (1)) 1 0 0 0 0 1,
  ix_e 6 (.if_icmp .le (5)) 3 11 0 0 0 0,
  ix_e 9 (.iconst (-1)) 1 0 0 0 0 (-1),
  ix_e 10 .ireturn 1 0 0 0 0 0,
  ix_e 11 (.aload_n (0)) 1 0 0 0 0 0,
  ix_e 12 (.getfield (54)) 3 10 6 2 0 0,
  ix_e 15 (.invokevirtual (208)) 3 88 1 0 5 0,
  ix_e 18 (.aload_n (0)) 1 0 0 0 0 0,
  ix_e 19 (.getfield (54)) 3 10 6 2 0 0,
  ix_e 22 (.iload_n (1)) 1 1 0 0 0 0,
  ix_e 23 (.invokevirtual (277)) 3 102 2 1 5 0,
  ix_e 26 .ireturn 1 0 0 0 0 0]
/-- VotedBank.undo ()Z -/
def ix_t30 : List ix_E := [ix_e 0 (.aload_n (0)) 1 0 0 0 0 0,
  ix_e 1 (.getfield (22)) 3 10 2 2 0 0,
  ix_e 4 (.aload_n (0)) 1 0 0 0 0 0,
  ix_e 5 (.getfield (12)) 3 10 0 2 0 0,
  ix_e 8 (.invokevirtual (280)) 3 85 2 1 4 0,
  ix_e 11 .ireturn 1 1 0 0 0 0]
/-- VotedBank.image (Z)Z -/
def ix_t31 : List ix_E := [ix_e 0 (.iload_n (1)) 1 1 0 0 0 0,
  ix_e 1 (.ifCond .eq (22)) 3 23 0 0 0 0,
  ix_e 4 (.aload_n (0)) 1 0 0 0 0 0,
  ix_e 5 (.getfield (16)) 3 10 1 2 0 0,
  ix_e 8 (.aload_n (0)) 1 0 0 0 0 0,
  ix_e 9 (.getfield (12)) 3 10 0 2 0 0,
  ix_e 12 (.invokevirtual (284)) 3 154 2 0 9 0,
  ix_e 15 (.aload_n (0)) 1 0 0 0 0 0,
  ix_e 16 (.iconst (1)) 1 0 0 0 0 1,
  ix_e 17 (.putfield (287)) 3 10 7 1 0 0,
  ix_e 20 (.goto (28)) 3 48 0 0 0 0,
  ix_e 23 (.aload_n (0)) 1 0 0 0 0 0,
  ix_e 24 (.getfield (287)) 3 10 7 1 0 0,
  ix_e 27 (.ifCond .eq (21)) 3 48 0 0 0 0,
  ix_e 30 (.aload_n (0)) 1 0 0 0 0 0,
  ix_e 31 (.getfield (12)) 3 10 0 2 0 0,
  ix_e 34 (.aload_n (0)) 1 0 0 0 0 0,
  ix_e 35 (.getfield (16)) 3 10 1 2 0 0,
  ix_e 38 (.invokevirtual (284)) 3 154 2 0 9 0,
  ix_e 41 (.aload_n (0)) 1 0 0 0 0 0,
  ix_e 42 (.getfield (22)) 3 10 2 2 0 0,
  ix_e 45 (.invokevirtual (68)) 3 83 1 0 4 0,
  ix_e 48 (.aload_n (0)) 1 0 0 0 0 0,
  ix_e 49 (.getfield (287)) 3 10 7 1 0 0,
  ix_e 52 .ireturn 1 1 0 0 0 0]
/-- VotedBank.look (I)I -/
def ix_t32 : List ix_E := [ix_e 0 (.aload_n (0)) 1 0 0 0 0 0,
  ix_e 1 (.getfield (12)) 3 10 0 2 0 0,
  ix_e 4 (.getfield (58)) 3 9 0 2 0 0,
  ix_e 7 (.astore_n (2)) 1 2 0 0 0 0,
  ix_e 8 (.iload_n (1)) 1 1 0 0 0 0,
  ix_e 9 (.tableswitch (194) (0) (14) #[75, 80, 85, 90, 95, 100, 105, 110, 121, 126, 139, 152, 165, 178, 186]) 75 0 0 0 0 0,
  ix_e 84 (.aload_n (2)) 1 2 0 0 0 0,
  ix_e 85 (.getfield (78)) 3 6 6 0 0 0,
  ix_e 88 .ireturn 1 0 0 0 0 0,
  ix_e 89 (.aload_n (2)) 1 2 0 0 0 0,
  ix_e 90 (.getfield (291)) 3 6 1 0 0 0,
  ix_e 93 .ireturn 1 0 0 0 0 0,
  ix_e 94 (.aload_n (2)) 1 2 0 0 0 0,
  ix_e 95 (.getfield (294)) 3 6 2 0 0 0,
  ix_e 98 .ireturn 1 0 0 0 0 0,
  ix_e 99 (.aload_n (2)) 1 2 0 0 0 0,
  ix_e 100 (.getfield (297)) 3 6 3 0 0 0,
  ix_e 103 .ireturn 1 0 0 0 0 0,
  ix_e 104 (.aload_n (2)) 1 2 0 0 0 0,
  ix_e 105 (.getfield (300)) 3 6 4 0 0 0,
  ix_e 108 .ireturn 1 0 0 0 0 0,
  ix_e 109 (.aload_n (2)) 1 2 0 0 0 0,
  ix_e 110 (.getfield (303)) 3 6 5 0 0 0,
  ix_e 113 .ireturn 1 0 0 0 0 0,
  ix_e 114 (.aload_n (2)) 1 2 0 0 0 0,
  ix_e 115 (.getfield (113)) 3 6 7 0 0 0,
  ix_e 118 .ireturn 1 0 0 0 0 0,
  ix_e 119 (.aload_n (0)) 1 0 0 0 0 0,
  ix_e 120 (.getfield (12)) 3 10 0 2 0 0,
  ix_e 123 (.getfield (187)) 3 9 1 2 0 0,
  ix_e 126 (.getfield (306)) 3 0 1 0 0 0,
  ix_e 129 .ireturn 1 0 0 0 0 0,
  ix_e 130 (.aload_n (2)) 1 2 0 0 0 0,
  ix_e 131 (.getfield (62)) 3 6 0 0 0 0,
  ix_e 134 .ireturn 1 0 0 0 0 0,
  ix_e 135 (.aload_n (0)) 1 0 0 0 0 0,
  ix_e 136 (.getfield (12)) 3 10 0 2 0 0,
  ix_e 139 (.getfield (116)) 3 9 2 2 0 0,
  ix_e 142 (.getfield (120)) 3 8 6 2 0 0,
  ix_e 145 (.iconst (0)) 1 0 0 0 0 0,
  ix_e 146 .iaload 1 0 0 0 0 0,
  ix_e 147 .ireturn 1 0 0 0 0 0,
  ix_e 148 (.aload_n (0)) 1 0 0 0 0 0,
  ix_e 149 (.getfield (12)) 3 10 0 2 0 0,
  ix_e 152 (.getfield (116)) 3 9 2 2 0 0,
  ix_e 155 (.getfield (120)) 3 8 6 2 0 0,
  ix_e 158 (.iconst (1)) 1 0 0 0 0 1,
  ix_e 159 .iaload 1 0 0 0 0 0,
  ix_e 160 .ireturn 1 0 0 0 0 0,
  ix_e 161 (.aload_n (0)) 1 0 0 0 0 0,
  ix_e 162 (.getfield (12)) 3 10 0 2 0 0,
  ix_e 165 (.getfield (116)) 3 9 2 2 0 0,
  ix_e 168 (.getfield (120)) 3 8 6 2 0 0,
  ix_e 171 (.iconst (2)) 1 0 0 0 0 2,
  ix_e 172 .iaload 1 0 0 0 0 0,
  ix_e 173 .ireturn 1 0 0 0 0 0,
  ix_e 174 (.aload_n (0)) 1 0 0 0 0 0,
  ix_e 175 (.getfield (12)) 3 10 0 2 0 0,
  ix_e 178 (.getfield (116)) 3 9 2 2 0 0,
  ix_e 181 (.getfield (120)) 3 8 6 2 0 0,
  ix_e 184 (.iconst (3)) 1 0 0 0 0 3,
  ix_e 185 .iaload 1 0 0 0 0 0,
  ix_e 186 .ireturn 1 0 0 0 0 0,
  ix_e 187 (.aload_n (0)) 1 0 0 0 0 0,
  ix_e 188 (.getfield (12)) 3 10 0 2 0 0,
  ix_e 191 (.getfield (307)) 3 9 5 0 0 0,
  ix_e 194 .ireturn 1 0 0 0 0 0,
  ix_e 195 (.aload_n (0)) 1 0 0 0 0 0,
  ix_e 196 (.getfield (22)) 3 10 2 2 0 0,
  ix_e 199 (.getfield (310)) 3 4 3 0 0 0,
  ix_e 202 .ireturn 1 0 0 0 0 0,
  ix_e 203 (.iconst (-1)) 1 0 0 0 0 (-1),
  ix_e 204 .ireturn 1 0 0 0 0 0]
/-- VotedBank.isRank (I)Z -/
def ix_t33 : List ix_E := [ix_e 0 (.iload_n (0)) 1 0 0 0 0 0,
  ix_e 1 (.sipush (12345)) 3 0 0 0 0 12345,
  ix_e 4 (.if_icmp .lt (10)) 3 14 0 0 0 0,
  ix_e 7 (.iload_n (0)) 1 0 0 0 0 0,
  ix_e 8 (.ldc_w (311)) 3 0 0 0 0 54321,
  ix_e 11 (.if_icmp .le (5)) 3 16 0 0 0 0,
  ix_e 14 (.iconst (0)) 1 0 0 0 0 0,
  ix_e 15 .ireturn 1 1 0 0 0 0,
  ix_e 16 (.iconst (0)) 1 0 0 0 0 0,
  ix_e 17 (.istore_n (1)) 1 1 0 0 0 0,
  ix_e 18 (.iload_n (0)) 1 0 0 0 0 0,
  ix_e 19 (.istore_n (2)) 1 2 0 0 0 0,
  ix_e 20 (.iconst (0)) 1 0 0 0 0 0,
  ix_e 21 (.istore_n (3)) 1 3 0 0 0 0,
  ix_c 22 (.iload_n (3)) 1 [false, true, true, true] 3 0 0 0 0,
  ix_e 23 (.iconst (5)) 1 0 0 0 0 5,
  ix_e 24 (.if_icmp .ge (23)) 3 47 0 0 0 0,
  ix_e 27 (.iload_n (1)) 1 1 0 0 0 0,
  ix_e 28 (.iconst (1)) 1 0 0 0 0 1,
  ix_e 29 (.iload_n (2)) 1 2 0 0 0 0,
  ix_e 30 (.bipush (10)) 2 0 0 0 0 10,
  ix_e 32 .irem 1 0 0 0 0 0,
  ix_e 33 .ishl 1 0 0 0 0 0,
  ix_e 34 .ior 1 0 0 0 0 0,
  ix_e 35 (.istore_n (1)) 1 1 0 0 0 0,
  ix_e 36 (.iload_n (2)) 1 2 0 0 0 0,
  ix_e 37 (.bipush (10)) 2 0 0 0 0 10,
  ix_e 39 .idiv 1 0 0 0 0 0,
  ix_e 40 (.istore_n (2)) 1 2 0 0 0 0,
  ix_e 41 (.iinc 3 (1)) 3 3 0 0 0 1,
  ix_e 44 (.goto (-22)) 3 22 0 0 0 0,
  ix_e 47 (.iload_n (1)) 1 1 0 0 0 0,
  ix_e 48 (.bipush (62)) 2 0 0 0 0 62,
  ix_e 50 (.if_icmp .ne (7)) 3 57 0 0 0 0,
  ix_e 53 (.iconst (1)) 1 0 0 0 0 1,
  ix_e 54 (.goto (4)) 3 58 0 0 0 0,
  ix_e 57 (.iconst (0)) 1 0 0 0 0 0,
  ix_e 58 .ireturn 1 1 0 0 0 0]
/-- VotedBank.isDigit (I)Z -/
def ix_t34 : List ix_E := [ix_e 0 (.iload_n (0)) 1 0 0 0 0 0,
  ix_e 1 (.ifCond .lt (13)) 3 14 0 0 0 0,
  ix_e 4 (.iload_n (0)) 1 0 0 0 0 0,
  ix_e 5 (.bipush (9)) 2 0 0 0 0 9,
  ix_e 7 (.if_icmp .gt (7)) 3 14 0 0 0 0,
  ix_e 10 (.iconst (1)) 1 0 0 0 0 1,
  ix_e 11 (.goto (4)) 3 15 0 0 0 0,
  ix_e 14 (.iconst (0)) 1 0 0 0 0 0,
  ix_e 15 .ireturn 1 1 0 0 0 0]
/-- VotedBank.isLand (I)Z -/
def ix_t35 : List ix_E := [ix_e 0 (.iload_n (0)) 1 0 0 0 0 0,
  ix_e 1 (.iconst (1)) 1 0 0 0 0 1,
  ix_e 2 (.if_icmp .lt (13)) 3 15 0 0 0 0,
  ix_e 5 (.iload_n (0)) 1 0 0 0 0 0,
  ix_e 6 (.bipush (6)) 2 0 0 0 0 6,
  ix_e 8 (.if_icmp .ge (7)) 3 15 0 0 0 0,
  ix_e 11 (.iconst (1)) 1 0 0 0 0 1,
  ix_e 12 (.goto (4)) 3 16 0 0 0 0,
  ix_e 15 (.iconst (0)) 1 0 0 0 0 0,
  ix_e 16 .ireturn 1 1 0 0 0 0]
/-- VotedBank.otherwise (II)I -/
def ix_t36 : List ix_E := [ix_e 0 (.iconst (0)) 1 0 0 0 0 0,
  ix_e 1 (.istore_n (2)) 1 2 0 0 0 0,
  ix_e 2 (.iconst (1)) 1 0 0 0 0 1,
  ix_e 3 (.istore_n (3)) 1 3 0 0 0 0,
  ix_c 4 (.iload_n (3)) 1 [true, true, true, true, false] 3 0 0 0 0,
  ix_e 5 (.bipush (6)) 2 0 0 0 0 6,
  ix_e 7 (.if_icmp .ge (47)) 3 54 0 0 0 0,
  ix_e 10 (.iload_n (3)) 1 3 0 0 0 0,
  ix_e 11 (.iconst (1)) 1 0 0 0 0 1,
  ix_e 12 .iadd 1 0 0 0 0 0,
  ix_e 13 (.istore (4)) 2 4 0 0 0 0,
  ix_c 15 (.iload (4)) 2 [true, true, true, true, true] 4 0 0 0 0,
  ix_e 17 (.bipush (6)) 2 0 0 0 0 6,
  ix_e 19 (.if_icmp .ge (29)) 3 48 0 0 0 0,
  ix_e 22 (.iload_n (0)) 1 0 0 0 0 0,
  ix_e 23 (.iload_n (3)) 1 3 0 0 0 0,
  ix_e 24 (.iload (4)) 2 4 0 0 0 0,
  ix_e 26 (.invokestatic (312)) 3 37 3 1 0 0,
  ix_e 29 (.iload_n (1)) 1 1 0 0 0 0,
  ix_e 30 (.iload_n (3)) 1 3 0 0 0 0,
  ix_e 31 (.iload (4)) 2 4 0 0 0 0,
  ix_e 33 (.invokestatic (312)) 3 37 3 1 0 0,
  ix_e 36 (.if_icmp .eq (6)) 3 42 0 0 0 0,
  ix_e 39 (.iinc 2 (1)) 3 2 0 0 0 1,
  ix_e 42 (.iinc 4 (1)) 3 4 0 0 0 1,
  ix_e 45 (.goto (-30)) 3 15 0 0 0 0,
  ix_e 48 (.iinc 3 (1)) 3 3 0 0 0 1,
  ix_e 51 (.goto (-47)) 3 4 0 0 0 0,
  ix_e 54 (.iload_n (2)) 1 2 0 0 0 0,
  ix_e 55 .ireturn 1 0 0 0 0 0]
/-- VotedBank.isAhead (III)Z -/
def ix_t37 : List ix_E := [ix_e 0 (.sipush (10000)) 3 0 0 0 0 10000,
  ix_e 3 (.istore_n (3)) 1 3 0 0 0 0,
  ix_c 4 (.iload_n (3)) 1 [true, true, true, true, false] 3 0 0 0 0,
  ix_e 5 (.iconst (1)) 1 0 0 0 0 1,
  ix_e 6 (.if_icmp .lt (43)) 3 49 0 0 0 0,
  ix_e 9 (.iload_n (0)) 1 0 0 0 0 0,
  ix_e 10 (.iload_n (3)) 1 3 0 0 0 0,
  ix_e 11 .idiv 1 0 0 0 0 0,
  ix_e 12 (.bipush (10)) 2 0 0 0 0 10,
  ix_e 14 .irem 1 0 0 0 0 0,
  ix_e 15 (.istore (4)) 2 4 0 0 0 0,
  ix_e 17 (.iload (4)) 2 4 0 0 0 0,
  ix_e 19 (.iload_n (1)) 1 1 0 0 0 0,
  ix_e 20 (.if_icmp .eq (9)) 3 29 0 0 0 0,
  ix_e 23 (.iload (4)) 2 4 0 0 0 0,
  ix_e 25 (.iload_n (2)) 1 2 0 0 0 0,
  ix_e 26 (.if_icmp .ne (15)) 3 41 0 0 0 0,
  ix_e 29 (.iload (4)) 2 4 0 0 0 0,
  ix_e 31 (.iload_n (1)) 1 1 0 0 0 0,
  ix_e 32 (.if_icmp .ne (7)) 3 39 0 0 0 0,
  ix_e 35 (.iconst (1)) 1 0 0 0 0 1,
  ix_e 36 (.goto (4)) 3 40 0 0 0 0,
  ix_e 39 (.iconst (0)) 1 0 0 0 0 0,
  ix_e 40 .ireturn 1 1 0 0 0 0,
  ix_e 41 (.iload_n (3)) 1 3 0 0 0 0,
  ix_e 42 (.bipush (10)) 2 0 0 0 0 10,
  ix_e 44 .idiv 1 0 0 0 0 0,
  ix_e 45 (.istore_n (3)) 1 3 0 0 0 0,
  ix_e 46 (.goto (-42)) 3 4 0 0 0 0,
  ix_e 49 (.iconst (0)) 1 0 0 0 0 0,
  ix_e 50 .ireturn 1 1 0 0 0 0]
/-- VotedBank.firstOf (I)I -/
def ix_t38 : List ix_E := [ix_e 0 (.iload_n (0)) 1 0 0 0 0 0,
  ix_e 1 (.sipush (10000)) 3 0 0 0 0 10000,
  ix_e 4 .idiv 1 0 0 0 0 0,
  ix_e 5 .ireturn 1 0 0 0 0 0]
/-- VotedBank.winnerOf ([I)I -/
def ix_t39 : List ix_E := [ix_e 0 (.iconst (0)) 1 0 0 0 0 0,
  ix_e 1 (.istore_n (1)) 1 1 0 0 0 0,
  ix_e 2 (.iconst (0)) 1 0 0 0 0 0,
  ix_e 3 (.istore_n (2)) 1 2 0 0 0 0,
  ix_e 4 (.iconst (1)) 1 0 0 0 0 1,
  ix_e 5 (.istore_n (3)) 1 3 0 0 0 0,
  ix_c 6 (.iload_n (3)) 1 [true, true, true, true] 3 0 0 0 0,
  ix_e 7 (.bipush (6)) 2 0 0 0 0 6,
  ix_e 9 (.if_icmp .ge (34)) 3 43 0 0 0 0,
  ix_e 12 (.aload_n (0)) 1 0 0 0 0 0,
  ix_e 13 (.iload_n (3)) 1 3 0 0 0 0,
  ix_e 14 .iaload 1 0 0 0 0 0,
  ix_e 15 (.iload_n (2)) 1 2 0 0 0 0,
  ix_e 16 (.if_icmp .le (12)) 3 28 0 0 0 0,
  ix_e 19 (.aload_n (0)) 1 0 0 0 0 0,
  ix_e 20 (.iload_n (3)) 1 3 0 0 0 0,
  ix_e 21 .iaload 1 0 0 0 0 0,
  ix_e 22 (.istore_n (2)) 1 2 0 0 0 0,
  ix_e 23 (.iload_n (3)) 1 3 0 0 0 0,
  ix_e 24 (.istore_n (1)) 1 1 0 0 0 0,
  ix_e 25 (.goto (12)) 3 37 0 0 0 0,
  ix_e 28 (.aload_n (0)) 1 0 0 0 0 0,
  ix_e 29 (.iload_n (3)) 1 3 0 0 0 0,
  ix_e 30 .iaload 1 0 0 0 0 0,
  ix_e 31 (.iload_n (2)) 1 2 0 0 0 0,
  ix_e 32 (.if_icmp .ne (5)) 3 37 0 0 0 0,
  ix_e 35 (.iconst (0)) 1 0 0 0 0 0,
  ix_e 36 (.istore_n (1)) 1 1 0 0 0 0,
  ix_e 37 (.iinc 3 (1)) 3 3 0 0 0 1,
  ix_e 40 (.goto (-34)) 3 6 0 0 0 0,
  ix_e 43 (.iload_n (1)) 1 1 0 0 0 0,
  ix_e 44 .ireturn 1 0 0 0 0 0]
/-- VotedBank.raised (II)I -/
def ix_t40 : List ix_E := [ix_e 0 (.iload_n (1)) 1 1 0 0 0 0,
  ix_e 1 (.istore_n (2)) 1 2 0 0 0 0,
  ix_e 2 (.sipush (10000)) 3 0 0 0 0 10000,
  ix_e 5 (.istore_n (3)) 1 3 0 0 0 0,
  ix_c 6 (.iload_n (3)) 1 [true, true, true, true, false] 3 0 0 0 0,
  ix_e 7 (.iconst (1)) 1 0 0 0 0 1,
  ix_e 8 (.if_icmp .lt (33)) 3 41 0 0 0 0,
  ix_e 11 (.iload_n (0)) 1 0 0 0 0 0,
  ix_e 12 (.iload_n (3)) 1 3 0 0 0 0,
  ix_e 13 .idiv 1 0 0 0 0 0,
  ix_e 14 (.bipush (10)) 2 0 0 0 0 10,
  ix_e 16 .irem 1 0 0 0 0 0,
  ix_e 17 (.istore (4)) 2 4 0 0 0 0,
  ix_e 19 (.iload (4)) 2 4 0 0 0 0,
  ix_e 21 (.iload_n (1)) 1 1 0 0 0 0,
  ix_e 22 (.if_icmp .eq (11)) 3 33 0 0 0 0,
  ix_e 25 (.iload_n (2)) 1 2 0 0 0 0,
  ix_e 26 (.bipush (10)) 2 0 0 0 0 10,
  ix_e 28 .imul 1 0 0 0 0 0,
  ix_e 29 (.iload (4)) 2 4 0 0 0 0,
  ix_e 31 .iadd 1 0 0 0 0 0,
  ix_e 32 (.istore_n (2)) 1 2 0 0 0 0,
  ix_e 33 (.iload_n (3)) 1 3 0 0 0 0,
  ix_e 34 (.bipush (10)) 2 0 0 0 0 10,
  ix_e 36 .idiv 1 0 0 0 0 0,
  ix_e 37 (.istore_n (3)) 1 3 0 0 0 0,
  ix_e 38 (.goto (-32)) 3 6 0 0 0 0,
  ix_e 41 (.iload_n (2)) 1 2 0 0 0 0,
  ix_e 42 .ireturn 1 0 0 0 0 0]
/-- VotedBank$Book.entry (II)I -/
def ix_t41 : List ix_E := [ix_e 0 (.iload_n (1)) 1 1 0 0 0 0,
  ix_e 1 (.ifCond .lt (20)) 3 21 0 0 0 0,
  ix_e 4 (.iload_n (1)) 1 1 0 0 0 0,
  ix_e 5 (.aload_n (0)) 1 0 0 0 0 0,
  ix_e 6 (.getfield (15)) 3 0 1 0 0 0,
  ix_e 9 (.if_icmp .ge (12)) 3 21 0 0 0 0,
  ix_e 12 (.iload_n (2)) 1 2 0 0 0 0,
  ix_e 13 (.ifCond .lt (8)) 3 21 0 0 0 0,
  ix_e 16 (.iload_n (2)) 1 2 0 0 0 0,
  ix_e 17 (.iconst (4)) 1 0 0 0 0 4,
  ix_e 18 (.if_icmp .lt (6)) 3 24 0 0 0 0,
  ix_e 21 (.bipush (-2)) 2 0 0 0 0 (-2),
  ix_e 23 .ireturn 1 0 0 0 0 0,
  ix_e 24 (.aload_n (0)) 1 0 0 0 0 0,
  ix_e 25 (.getfield (11)) 3 0 0 2 0 0,
  ix_e 28 (.iload_n (1)) 1 1 0 0 0 0,
  ix_e 29 (.iconst (4)) 1 0 0 0 0 4,
  ix_e 30 .imul 1 0 0 0 0 0,
  ix_e 31 (.iload_n (2)) 1 2 0 0 0 0,
  ix_e 32 .iadd 1 0 0 0 0 0,
  ix_e 33 .iaload 1 0 0 0 0 0,
  ix_e 34 .ireturn 1 0 0 0 0 0]
/-- VotedBank$Book.<init> ()V -/
def ix_t42 : List ix_E := [ix_e 0 (.aload_n (0)) 1 0 0 0 0 0,
  ix_e 1 (.invokespecial (3)) 3 0 0 2 0 0,
  ix_e 4 (.aload_n (0)) 1 0 0 0 0 0,
  ix_e 5 (.sipush (600)) 3 0 0 0 0 600,
  ix_e 8 (.newarray .int) 2 0 0 0 0 0,
  ix_e 10 (.putfield (11)) 3 0 0 2 0 0,
  ix_e 13 .return_ 1 0 0 0 0 0]
/-- VotedBank$Book.write (IIII)V -/
def ix_t43 : List ix_E := [ix_e 0 (.aload_n (0)) 1 0 0 0 0 0,
  ix_e 1 (.getfield (15)) 3 0 1 0 0 0,
  ix_e 4 (.sipush (150)) 3 0 0 0 0 150,
  ix_e 7 (.if_icmp .lt (4)) 3 11 0 0 0 0,
  ix_e 10 .return_ 1 0 0 0 0 0,
  ix_e 11 (.aload_n (0)) 1 0 0 0 0 0,
  ix_e 12 (.getfield (15)) 3 0 1 0 0 0,
  ix_e 15 (.iconst (4)) 1 0 0 0 0 4,
  ix_e 16 .imul 1 0 0 0 0 0,
  ix_e 17 (.istore (5)) 2 5 0 0 0 0,
  ix_e 19 (.aload_n (0)) 1 0 0 0 0 0,
  ix_e 20 (.getfield (11)) 3 0 0 2 0 0,
  ix_e 23 (.iload (5)) 2 5 0 0 0 0,
  ix_e 25 (.iload_n (1)) 1 1 0 0 0 0,
  ix_e 26 .iastore 1 0 0 0 0 0,
  ix_e 27 (.aload_n (0)) 1 0 0 0 0 0,
  ix_e 28 (.getfield (11)) 3 0 0 2 0 0,
  ix_e 31 (.iload (5)) 2 5 0 0 0 0,
  ix_e 33 (.iconst (1)) 1 0 0 0 0 1,
  ix_e 34 .iadd 1 0 0 0 0 0,
  ix_e 35 (.iload_n (2)) 1 2 0 0 0 0,
  ix_e 36 .iastore 1 0 0 0 0 0,
  ix_e 37 (.aload_n (0)) 1 0 0 0 0 0,
  ix_e 38 (.getfield (11)) 3 0 0 2 0 0,
  ix_e 41 (.iload (5)) 2 5 0 0 0 0,
  ix_e 43 (.iconst (2)) 1 0 0 0 0 2,
  ix_e 44 .iadd 1 0 0 0 0 0,
  ix_e 45 (.iload_n (3)) 1 3 0 0 0 0,
  ix_e 46 .iastore 1 0 0 0 0 0,
  ix_e 47 (.aload_n (0)) 1 0 0 0 0 0,
  ix_e 48 (.getfield (11)) 3 0 0 2 0 0,
  ix_e 51 (.iload (5)) 2 5 0 0 0 0,
  ix_e 53 (.iconst (3)) 1 0 0 0 0 3,
  ix_e 54 .iadd 1 0 0 0 0 0,
  ix_e 55 (.iload (4)) 2 4 0 0 0 0,
  ix_e 57 .iastore 1 0 0 0 0 0,
  ix_e 58 (.aload_n (0)) 1 0 0 0 0 0,
  ix_e 59 .dup 1 0 0 0 0 0,
  ix_e 60 (.getfield (15)) 3 0 1 0 0 0,
  ix_e 63 (.iconst (1)) 1 0 0 0 0 1,
  ix_e 64 .iadd 1 0 0 0 0 0,
  ix_e 65 (.putfield (15)) 3 0 1 0 0 0,
  ix_e 68 .return_ 1 0 0 0 0 0]
/-- VotedBank$Book.copyFrom (LVotedBank$Book;)V -/
def ix_t44 : List ix_E := [ix_e 0 (.aload_n (0)) 1 0 0 0 0 0,
  ix_e 1 (.aload_n (1)) 1 1 0 0 0 0,
  ix_e 2 (.getfield (15)) 3 0 1 0 0 0,
  ix_e 5 (.putfield (15)) 3 0 1 0 0 0,
  ix_e 8 (.aload_n (1)) 1 1 0 0 0 0,
  ix_e 9 (.getfield (11)) 3 0 0 2 0 0,
  ix_e 12 (.iconst (0)) 1 0 0 0 0 0,
  ix_e 13 (.aload_n (0)) 1 0 0 0 0 0,
  ix_e 14 (.getfield (11)) 3 0 0 2 0 0,
  ix_e 17 (.iconst (0)) 1 0 0 0 0 0,
  ix_e 18 (.sipush (600)) 3 0 0 0 0 600,
  ix_e 21 (.invokestatic (19)) 3 0 0 2 0 0,
  ix_e 24 .return_ 1 0 0 0 0 0]
/-- VotedBank$Crossing.<init> (LVotedBank$World;)V -/
def ix_t45 : List ix_E := [ix_e 0 (.aload_n (0)) 1 0 0 0 0 0,
  ix_e 1 (.invokespecial (3)) 3 0 0 2 0 0,
  ix_e 4 (.aload_n (0)) 1 0 0 0 0 0,
  ix_e 5 (.bipush (6)) 2 0 0 0 0 6,
  ix_e 7 (.newarray .int) 2 0 0 0 0 0,
  ix_e 9 (.putfield (9)) 3 1 0 2 0 0,
  ix_e 12 (.aload_n (0)) 1 0 0 0 0 0,
  ix_e 13 (.new (15)) 3 6 0 0 0 0,
  ix_e 16 .dup 1 0 0 0 0 0,
  ix_e 17 (.invokespecial (17)) 3 126 1 0 6 1,
  ix_e 20 (.putfield (18)) 3 1 4 2 0 0,
  ix_e 23 (.aload_n (0)) 1 0 0 0 0 0,
  ix_e 24 (.aload_n (1)) 1 1 0 0 0 0,
  ix_e 25 (.putfield (22)) 3 1 2 2 0 0,
  ix_e 28 (.aload_n (0)) 1 0 0 0 0 0,
  ix_e 29 (.aload_n (1)) 1 1 0 0 0 0,
  ix_e 30 (.getfield (26)) 3 9 2 2 0 0,
  ix_e 33 (.getfield (32)) 3 8 0 2 0 0,
  ix_e 36 (.putfield (38)) 3 1 3 2 0 0,
  ix_e 39 (.aload_n (0)) 1 0 0 0 0 0,
  ix_e 40 (.aload_n (1)) 1 1 0 0 0 0,
  ix_e 41 (.getfield (39)) 3 9 0 2 0 0,
  ix_e 44 (.putfield (42)) 3 1 5 2 0 0,
  ix_e 47 .return_ 1 0 0 0 0 0]
/-- VotedBank$Crossing.sail (I)I -/
def ix_t46 : List ix_E := [ix_e 0 (.aload_n (0)) 1 0 0 0 0 0,
  ix_e 1 (.aload_n (0)) 1 0 0 0 0 0,
  ix_e 2 (.getfield (22)) 3 1 2 2 0 0,
  ix_e 5 (.getfield (39)) 3 9 0 2 0 0,
  ix_e 8 (.putfield (42)) 3 1 5 2 0 0,
  ix_e 11 (.aload_n (0)) 1 0 0 0 0 0,
  ix_e 12 (.iconst (0)) 1 0 0 0 0 0,
  ix_e 13 (.putfield (47)) 3 1 6 1 0 0,
  ix_e 16 (.aload_n (0)) 1 0 0 0 0 0,
  ix_e 17 (.iload_n (1)) 1 1 0 0 0 0,
  ix_e 18 (.invokevirtual (51)) 3 48 2 1 1 0,
  ix_e 21 (.istore_n (2)) 1 2 0 0 0 0,
  ix_e 22 (.aload_n (0)) 1 0 0 0 0 0,
  ix_e 23 (.getfield (42)) 3 1 5 2 0 0,
  ix_e 26 (.getfield (55)) 3 6 5 0 0 0,
  ix_e 29 (.istore_n (3)) 1 3 0 0 0 0,
  ix_e 30 (.aload_n (0)) 1 0 0 0 0 0,
  ix_e 31 (.getfield (42)) 3 1 5 2 0 0,
  ix_e 34 (.iload_n (2)) 1 2 0 0 0 0,
  ix_e 35 (.invokevirtual (59)) 3 128 2 0 6 0,
  ix_e 38 (.aload_n (0)) 1 0 0 0 0 0,
  ix_e 39 (.getfield (42)) 3 1 5 2 0 0,
  ix_e 42 .dup 1 0 0 0 0 0,
  ix_e 43 (.getfield (55)) 3 6 5 0 0 0,
  ix_e 46 (.iconst (1)) 1 0 0 0 0 1,
  ix_e 47 .iadd 1 0 0 0 0 0,
  ix_e 48 (.putfield (55)) 3 6 5 0 0 0,
  ix_e 51 (.aload_n (0)) 1 0 0 0 0 0,
  ix_e 52 (.getfield (42)) 3 1 5 2 0 0,
  ix_e 55 (.aload_n (0)) 1 0 0 0 0 0,
  ix_e 56 (.getfield (42)) 3 1 5 2 0 0,
  ix_e 59 (.getfield (63)) 3 6 4 0 0 0,
  ix_e 62 (.iconst (3)) 1 0 0 0 0 3,
  ix_e 63 .iadd 1 0 0 0 0 0,
  ix_e 64 (.aload_n (0)) 1 0 0 0 0 0,
  ix_e 65 (.getfield (42)) 3 1 5 2 0 0,
  ix_e 68 (.getfield (66)) 3 6 3 0 0 0,
  ix_e 71 .iadd 1 0 0 0 0 0,
  ix_e 72 (.ldc (69)) 2 0 0 0 0 99999,
  ix_e 74 (.invokestatic (70)) 3 285 2 1 0 0,
  ix_e 77 (.putfield (63)) 3 6 4 0 0 0,
  ix_e 80 (.aload_n (0)) 1 0 0 0 0 0,
  ix_e 81 (.getfield (22)) 3 1 2 2 0 0,
  ix_e 84 (.getfield (76)) 3 9 1 2 0 0,
  ix_e 87 (.iload_n (3)) 1 3 0 0 0 0,
  ix_e 88 (.iconst (2)) 1 0 0 0 0 2,
  ix_e 89 (.iconst (-1)) 1 0 0 0 0 (-1),
  ix_e 90 (.iload_n (2)) 1 2 0 0 0 0,
  ix_e 91 (.invokevirtual (82)) 3 43 5 0 0 0,
  ix_e 94 (.aload_n (0)) 1 0 0 0 0 0,
  ix_e 95 (.getfield (22)) 3 1 2 2 0 0,
  ix_e 98 (.getfield (26)) 3 9 2 2 0 0,
  ix_e 101 (.aload_n (0)) 1 0 0 0 0 0,
  ix_e 102 (.getfield (42)) 3 1 5 2 0 0,
  ix_e 105 (.getfield (86)) 3 6 1 0 0 0,
  ix_e 108 (.aload_n (0)) 1 0 0 0 0 0,
  ix_e 109 (.getfield (42)) 3 1 5 2 0 0,
  ix_e 112 (.getfield (89)) 3 6 2 0 0 0,
  ix_e 115 (.invokevirtual (92)) 3 147 3 1 8 0,
  ix_e 118 (.ifCond .eq (56)) 3 174 0 0 0 0,
  ix_e 121 (.aload_n (0)) 1 0 0 0 0 0,
  ix_e 122 (.getfield (42)) 3 1 5 2 0 0,
  ix_e 125 (.aload_n (0)) 1 0 0 0 0 0,
  ix_e 126 (.getfield (22)) 3 1 2 2 0 0,
  ix_e 129 (.getfield (26)) 3 9 2 2 0 0,
  ix_e 132 (.getfield (96)) 3 8 5 2 0 0,
  ix_e 135 (.aload_n (0)) 1 0 0 0 0 0,
  ix_e 136 (.getfield (42)) 3 1 5 2 0 0,
  ix_e 139 (.getfield (86)) 3 6 1 0 0 0,
  ix_e 142 .iaload 1 0 0 0 0 0,
  ix_e 143 (.putfield (86)) 3 6 1 0 0 0,
  ix_e 146 (.aload_n (0)) 1 0 0 0 0 0,
  ix_e 147 (.getfield (42)) 3 1 5 2 0 0,
  ix_e 150 (.iconst (0)) 1 0 0 0 0 0,
  ix_e 151 (.putfield (89)) 3 6 2 0 0 0,
  ix_e 154 (.aload_n (0)) 1 0 0 0 0 0,
  ix_e 155 (.getfield (22)) 3 1 2 2 0 0,
  ix_e 158 (.getfield (76)) 3 9 1 2 0 0,
  ix_e 161 (.iload_n (3)) 1 3 0 0 0 0,
  ix_e 162 (.iconst (3)) 1 0 0 0 0 3,
  ix_e 163 (.iconst (-1)) 1 0 0 0 0 (-1),
  ix_e 164 (.aload_n (0)) 1 0 0 0 0 0,
  ix_e 165 (.getfield (42)) 3 1 5 2 0 0,
  ix_e 168 (.getfield (86)) 3 6 1 0 0 0,
  ix_e 171 (.invokevirtual (82)) 3 43 5 0 0 0,
  ix_e 174 (.aload_n (0)) 1 0 0 0 0 0,
  ix_e 175 (.getfield (42)) 3 1 5 2 0 0,
  ix_e 178 (.getfield (86)) 3 6 1 0 0 0,
  ix_e 181 .ireturn 1 0 0 0 0 0]
/-- VotedBank$Crossing.imagine (I)I -/
def ix_t47 : List ix_E := [ix_e 0 (.aload_n (0)) 1 0 0 0 0 0,
  ix_e 1 (.getfield (18)) 3 1 4 2 0 0,
  ix_e 4 (.aload_n (0)) 1 0 0 0 0 0,
  ix_e 5 (.getfield (22)) 3 1 2 2 0 0,
  ix_e 8 (.getfield (39)) 3 9 0 2 0 0,
  ix_e 11 (.invokevirtual (43)) 3 127 2 0 6 0,
  ix_e 14 (.aload_n (0)) 1 0 0 0 0 0,
  ix_e 15 (.aload_n (0)) 1 0 0 0 0 0,
  ix_e 16 (.getfield (18)) 3 1 4 2 0 0,
  ix_e 19 (.putfield (42)) 3 1 5 2 0 0,
  ix_e 22 (.aload_n (0)) 1 0 0 0 0 0,
  ix_e 23 (.iconst (1)) 1 0 0 0 0 1,
  ix_e 24 (.putfield (47)) 3 1 6 1 0 0,
  ix_e 27 (.aload_n (0)) 1 0 0 0 0 0,
  ix_e 28 (.iload_n (1)) 1 1 0 0 0 0,
  ix_e 29 (.invokevirtual (51)) 3 48 2 1 1 0,
  ix_e 32 .ireturn 1 0 0 0 0 0]
/-- VotedBank$Crossing.vote (I)I -/
def ix_t48 : List ix_E := [ix_e 0 (.aload_n (0)) 1 0 0 0 0 0,
  ix_e 1 (.iload_n (1)) 1 1 0 0 0 0,
  ix_e 2 (.putfield (99)) 3 1 7 0 0 0,
  ix_e 5 (.aload_n (0)) 1 0 0 0 0 0,
  ix_e 6 (.iconst (0)) 1 0 0 0 0 0,
  ix_e 7 (.putfield (102)) 3 1 1 0 0 0,
  ix_e 10 (.iconst (3)) 1 0 0 0 0 3,
  ix_e 11 (.aload_n (0)) 1 0 0 0 0 0,
  ix_e 12 (.getfield (42)) 3 1 5 2 0 0,
  ix_e 15 (.getfield (66)) 3 6 3 0 0 0,
  ix_e 18 .iadd 1 0 0 0 0 0,
  ix_e 19 (.istore_n (2)) 1 2 0 0 0 0,
  ix_e 20 (.iconst (0)) 1 0 0 0 0 0,
  ix_e 21 (.istore_n (3)) 1 3 0 0 0 0,
  ix_c 22 (.iload_n (3)) 1 [true, false, true, true, false, false] 3 0 0 0 0,
  ix_e 23 (.iload_n (2)) 1 2 0 0 0 0,
  ix_e 24 (.if_icmp .ge (46)) 3 70 0 0 0 0,
  ix_e 27 (.iconst (0)) 1 0 0 0 0 0,
  ix_e 28 (.istore (4)) 2 4 0 0 0 0,
  ix_c 30 (.iload (4)) 2 [true, false, true, true, true, false] 4 0 0 0 0,
  ix_e 32 (.aload_n (0)) 1 0 0 0 0 0,
  ix_e 33 (.getfield (42)) 3 1 5 2 0 0,
  ix_e 36 (.getfield (105)) 3 6 6 0 0 0,
  ix_e 39 (.if_icmp .ge (25)) 3 64 0 0 0 0,
  ix_e 42 (.aload_n (0)) 1 0 0 0 0 0,
  ix_e 43 (.iload (4)) 2 4 0 0 0 0,
  ix_e 45 (.invokevirtual (108)) 3 49 2 1 1 0,
  ix_e 48 (.ifCond .eq (10)) 3 58 0 0 0 0,
  ix_e 51 (.aload_n (0)) 1 0 0 0 0 0,
  ix_e 52 (.iload (4)) 2 4 0 0 0 0,
  ix_e 54 (.iload_n (3)) 1 3 0 0 0 0,
  ix_e 55 (.invokevirtual (112)) 3 50 3 0 1 0,
  ix_e 58 (.iinc 4 (1)) 3 4 0 0 0 1,
  ix_e 61 (.goto (-31)) 3 30 0 0 0 0,
  ix_e 64 (.iinc 3 (1)) 3 3 0 0 0 1,
  ix_e 67 (.goto (-45)) 3 22 0 0 0 0,
  ix_e 70 (.iconst (0)) 1 0 0 0 0 0,
  ix_e 71 (.istore_n (3)) 1 3 0 0 0 0,
  ix_e 72 (.iconst (0)) 1 0 0 0 0 0,
  ix_e 73 (.istore (4)) 2 4 0 0 0 0,
  ix_c 75 (.iload (4)) 2 [true, false, true, true, true, false] 4 0 0 0 0,
  ix_e 77 (.aload_n (0)) 1 0 0 0 0 0,
  ix_e 78 (.getfield (42)) 3 1 5 2 0 0,
  ix_e 81 (.getfield (105)) 3 6 6 0 0 0,
  ix_e 84 (.if_icmp .ge (35)) 3 119 0 0 0 0,
  ix_e 87 (.aload_n (0)) 1 0 0 0 0 0,
  ix_e 88 (.iload (4)) 2 4 0 0 0 0,
  ix_e 90 (.invokevirtual (108)) 3 49 2 1 1 0,
  ix_e 93 (.ifCond .eq (20)) 3 113 0 0 0 0,
  ix_e 96 (.aload_n (0)) 1 0 0 0 0 0,
  ix_e 97 (.iload (4)) 2 4 0 0 0 0,
  ix_e 99 (.iload_n (2)) 1 2 0 0 0 0,
  ix_e 100 (.invokevirtual (116)) 3 51 3 1 1 0,
  ix_e 103 (.ifCond .eq (10)) 3 113 0 0 0 0,
  ix_e 106 (.iload_n (3)) 1 3 0 0 0 0,
  ix_e 107 (.iconst (1)) 1 0 0 0 0 1,
  ix_e 108 (.iload (4)) 2 4 0 0 0 0,
  ix_e 110 .ishl 1 0 0 0 0 0,
  ix_e 111 .ior 1 0 0 0 0 0,
  ix_e 112 (.istore_n (3)) 1 3 0 0 0 0,
  ix_e 113 (.iinc 4 (1)) 3 4 0 0 0 1,
  ix_e 116 (.goto (-41)) 3 75 0 0 0 0,
  ix_e 119 (.aload_n (0)) 1 0 0 0 0 0,
  ix_e 120 (.getfield (9)) 3 1 0 2 0 0,
  ix_e 123 (.iconst (0)) 1 0 0 0 0 0,
  ix_e 124 (.invokestatic (119)) 3 284 2 0 0 0,
  ix_e 127 (.iconst (0)) 1 0 0 0 0 0,
  ix_e 128 (.istore (4)) 2 4 0 0 0 0,
  ix_c 130 (.iload (4)) 2 [true, false, true, true, true, false] 4 0 0 0 0,
  ix_e 132 (.aload_n (0)) 1 0 0 0 0 0,
  ix_e 133 (.getfield (42)) 3 1 5 2 0 0,
  ix_e 136 (.getfield (105)) 3 6 6 0 0 0,
  ix_e 139 (.if_icmp .ge (81)) 3 220 0 0 0 0,
  ix_e 142 (.aload_n (0)) 1 0 0 0 0 0,
  ix_e 143 (.iload (4)) 2 4 0 0 0 0,
  ix_e 145 (.invokevirtual (108)) 3 49 2 1 1 0,
  ix_e 148 (.ifCond .eq (66)) 3 214 0 0 0 0,
  ix_e 151 (.iload_n (3)) 1 3 0 0 0 0,
  ix_e 152 (.iload (4)) 2 4 0 0 0 0,
  ix_e 154 .ishr 1 0 0 0 0 0,
  ix_e 155 (.iconst (1)) 1 0 0 0 0 1,
  ix_e 156 .iand 1 0 0 0 0 0,
  ix_e 157 (.ifCond .ne (57)) 3 214 0 0 0 0,
  ix_e 160 (.aload_n (0)) 1 0 0 0 0 0,
  ix_e 161 (.getfield (42)) 3 1 5 2 0 0,
  ix_e 164 (.getfield (125)) 3 6 8 2 0 0,
  ix_e 167 (.iload (4)) 2 4 0 0 0 0,
  ix_e 169 .iaload 1 0 0 0 0 0,
  ix_e 170 (.invokestatic (128)) 3 38 1 1 0 1,
  ix_e 173 (.istore (5)) 2 5 0 0 0 0,
  ix_e 175 (.aload_n (0)) 1 0 0 0 0 0,
  ix_e 176 (.getfield (9)) 3 1 0 2 0 0,
  ix_e 179 (.iload (5)) 2 5 0 0 0 0,
  ix_e 181 .dup2 1 0 0 0 0 0,
  ix_e 182 .iaload 1 0 0 0 0 0,
  ix_e 183 (.aload_n (0)) 1 0 0 0 0 0,
  ix_e 184 (.getfield (38)) 3 1 3 2 0 0,
  ix_e 187 (.iconst (2)) 1 0 0 0 0 2,
  ix_e 188 (.aload_n (0)) 1 0 0 0 0 0,
  ix_e 189 (.getfield (42)) 3 1 5 2 0 0,
  ix_e 192 (.iload (4)) 2 4 0 0 0 0,
  ix_e 194 (.aload_n (0)) 1 0 0 0 0 0,
  ix_e 195 (.getfield (42)) 3 1 5 2 0 0,
  ix_e 198 (.getfield (133)) 3 6 10 2 0 0,
  ix_e 201 (.iload (4)) 2 4 0 0 0 0,
  ix_e 203 .iaload 1 0 0 0 0 0,
  ix_e 204 (.iload_n (2)) 1 2 0 0 0 0,
  ix_e 205 (.aload_n (0)) 1 0 0 0 0 0,
  ix_e 206 (.getfield (99)) 3 1 7 0 0 0,
  ix_e 209 (.invokevirtual (136)) 3 54 7 1 2 0,
  ix_e 212 .iadd 1 0 0 0 0 0,
  ix_e 213 .iastore 1 0 0 0 0 0,
  ix_e 214 (.iinc 4 (1)) 3 4 0 0 0 1,
  ix_e 217 (.goto (-87)) 3 130 0 0 0 0,
  ix_e 220 (.aload_n (0)) 1 0 0 0 0 0,
  ix_e 221 (.getfield (9)) 3 1 0 2 0 0,
  ix_e 224 (.invokestatic (140)) 3 39 1 1 0 1,
  ix_e 227 .ireturn 1 0 0 0 0 0]
/-- VotedBank$Crossing.isAboard (I)Z -/
def ix_t49 : List ix_E := [ix_e 0 (.aload_n (0)) 1 0 0 0 0 0,
  ix_e 1 (.getfield (99)) 3 1 7 0 0 0,
  ix_e 4 (.iload_n (1)) 1 1 0 0 0 0,
  ix_e 5 .ishr 1 0 0 0 0 0,
  ix_e 6 (.iconst (1)) 1 0 0 0 0 1,
  ix_e 7 .iand 1 0 0 0 0 0,
  ix_e 8 (.iconst (1)) 1 0 0 0 0 1,
  ix_e 9 (.if_icmp .ne (7)) 3 16 0 0 0 0,
  ix_e 12 (.iconst (1)) 1 0 0 0 0 1,
  ix_e 13 (.goto (4)) 3 17 0 0 0 0,
  ix_e 16 (.iconst (0)) 1 0 0 0 0 0,
  ix_e 17 .ireturn 1 1 0 0 0 0]
/-- VotedBank$Crossing.listen (II)V -/
def ix_t50 : List ix_E := [ix_e 0 (.aload_n (0)) 1 0 0 0 0 0,
  ix_e 1 (.getfield (42)) 3 1 5 2 0 0,
  ix_e 4 (.iload_n (1)) 1 1 0 0 0 0,
  ix_e 5 (.aload_n (0)) 1 0 0 0 0 0,
  ix_e 6 (.getfield (22)) 3 1 2 2 0 0,
  ix_e 9 (.getfield (26)) 3 9 2 2 0 0,
  ix_e 12 (.getfield (147)) 3 8 1 2 0 0,
  ix_e 15 (.iload_n (1)) 1 1 0 0 0 0,
  ix_e 16 .iaload 1 0 0 0 0 0,
  ix_e 17 (.aload_n (0)) 1 0 0 0 0 0,
  ix_e 18 (.getfield (99)) 3 1 7 0 0 0,
  ix_e 21 .iand 1 0 0 0 0 0,
  ix_e 22 (.invokevirtual (150)) 3 129 3 1 6 0,
  ix_e 25 (.istore_n (3)) 1 3 0 0 0 0,
  ix_e 26 (.iload_n (3)) 1 3 0 0 0 0,
  ix_e 27 (.iconst (-1)) 1 0 0 0 0 (-1),
  ix_e 28 (.if_icmp .ne (4)) 3 32 0 0 0 0,
  ix_e 31 .return_ 1 0 0 0 0 0,
  ix_e 32 (.aload_n (0)) 1 0 0 0 0 0,
  ix_e 33 (.getfield (38)) 3 1 3 2 0 0,
  ix_e 36 (.iconst (0)) 1 0 0 0 0 0,
  ix_e 37 (.aload_n (0)) 1 0 0 0 0 0,
  ix_e 38 (.getfield (42)) 3 1 5 2 0 0,
  ix_e 41 (.iload_n (1)) 1 1 0 0 0 0,
  ix_e 42 (.aload_n (0)) 1 0 0 0 0 0,
  ix_e 43 (.getfield (42)) 3 1 5 2 0 0,
  ix_e 46 (.getfield (133)) 3 6 10 2 0 0,
  ix_e 49 (.iload_n (3)) 1 3 0 0 0 0,
  ix_e 50 .iaload 1 0 0 0 0 0,
  ix_e 51 (.iload_n (2)) 1 2 0 0 0 0,
  ix_e 52 (.aload_n (0)) 1 0 0 0 0 0,
  ix_e 53 (.getfield (99)) 3 1 7 0 0 0,
  ix_e 56 (.invokevirtual (136)) 3 54 7 1 2 0,
  ix_e 59 (.istore (4)) 2 4 0 0 0 0,
  ix_e 61 (.aload_n (0)) 1 0 0 0 0 0,
  ix_e 62 (.iload (4)) 2 4 0 0 0 0,
  ix_e 64 (.invokevirtual (153)) 3 52 2 1 1 0,
  ix_e 67 (.ifCond .ne (4)) 3 71 0 0 0 0,
  ix_e 70 .return_ 1 0 0 0 0 0,
  ix_e 71 (.aload_n (0)) 1 0 0 0 0 0,
  ix_e 72 (.getfield (42)) 3 1 5 2 0 0,
  ix_e 75 (.getfield (125)) 3 6 8 2 0 0,
  ix_e 78 (.iload_n (3)) 1 3 0 0 0 0,
  ix_e 79 .iaload 1 0 0 0 0 0,
  ix_e 80 (.invokestatic (128)) 3 38 1 1 0 1,
  ix_e 83 (.istore (5)) 2 5 0 0 0 0,
  ix_e 85 (.aload_n (0)) 1 0 0 0 0 0,
  ix_e 86 (.getfield (42)) 3 1 5 2 0 0,
  ix_e 89 (.getfield (125)) 3 6 8 2 0 0,
  ix_e 92 (.iload_n (1)) 1 1 0 0 0 0,
  ix_e 93 (.aload_n (0)) 1 0 0 0 0 0,
  ix_e 94 (.getfield (42)) 3 1 5 2 0 0,
  ix_e 97 (.getfield (125)) 3 6 8 2 0 0,
  ix_e 100 (.iload_n (1)) 1 1 0 0 0 0,
  ix_e 101 .iaload 1 0 0 0 0 0,
  ix_e 102 (.iload (5)) 2 5 0 0 0 0,
  ix_e 104 (.invokestatic (156)) 3 40 2 1 0 1,
  ix_e 107 .iastore 1 0 0 0 0 0,
  ix_e 108 (.aload_n (0)) 1 0 0 0 0 0,
  ix_e 109 (.getfield (42)) 3 1 5 2 0 0,
  ix_e 112 (.getfield (159)) 3 6 13 2 0 0,
  ix_e 115 (.iload_n (1)) 1 1 0 0 0 0,
  ix_e 116 .dup2 1 0 0 0 0 0,
  ix_e 117 .iaload 1 0 0 0 0 0,
  ix_e 118 (.iconst (1)) 1 0 0 0 0 1,
  ix_e 119 .iadd 1 0 0 0 0 0,
  ix_e 120 .iastore 1 0 0 0 0 0,
  ix_e 121 (.aload_n (0)) 1 0 0 0 0 0,
  ix_e 122 .dup 1 0 0 0 0 0,
  ix_e 123 (.getfield (102)) 3 1 1 0 0 0,
  ix_e 126 (.iconst (1)) 1 0 0 0 0 1,
  ix_e 127 .iadd 1 0 0 0 0 0,
  ix_e 128 (.putfield (102)) 3 1 1 0 0 0,
  ix_e 131 (.aload_n (0)) 1 0 0 0 0 0,
  ix_e 132 (.getfield (47)) 3 1 6 1 0 0,
  ix_e 135 (.ifCond .ne (24)) 3 159 0 0 0 0,
  ix_e 138 (.aload_n (0)) 1 0 0 0 0 0,
  ix_e 139 (.getfield (22)) 3 1 2 2 0 0,
  ix_e 142 (.getfield (76)) 3 9 1 2 0 0,
  ix_e 145 (.aload_n (0)) 1 0 0 0 0 0,
  ix_e 146 (.getfield (42)) 3 1 5 2 0 0,
  ix_e 149 (.getfield (55)) 3 6 5 0 0 0,
  ix_e 152 (.iconst (0)) 1 0 0 0 0 0,
  ix_e 153 (.iload_n (1)) 1 1 0 0 0 0,
  ix_e 154 (.iload (5)) 2 5 0 0 0 0,
  ix_e 156 (.invokevirtual (82)) 3 43 5 0 0 0,
  ix_e 159 .return_ 1 0 0 0 0 0]
/-- VotedBank$Crossing.abstains (II)Z -/
def ix_t51 : List ix_E := [ix_e 0 (.aload_n (0)) 1 0 0 0 0 0,
  ix_e 1 (.getfield (38)) 3 1 3 2 0 0,
  ix_e 4 (.iconst (1)) 1 0 0 0 0 1,
  ix_e 5 (.aload_n (0)) 1 0 0 0 0 0,
  ix_e 6 (.getfield (42)) 3 1 5 2 0 0,
  ix_e 9 (.iload_n (1)) 1 1 0 0 0 0,
  ix_e 10 (.aload_n (0)) 1 0 0 0 0 0,
  ix_e 11 (.getfield (42)) 3 1 5 2 0 0,
  ix_e 14 (.getfield (133)) 3 6 10 2 0 0,
  ix_e 17 (.iload_n (1)) 1 1 0 0 0 0,
  ix_e 18 .iaload 1 0 0 0 0 0,
  ix_e 19 (.iload_n (2)) 1 2 0 0 0 0,
  ix_e 20 (.aload_n (0)) 1 0 0 0 0 0,
  ix_e 21 (.getfield (99)) 3 1 7 0 0 0,
  ix_e 24 (.invokevirtual (136)) 3 54 7 1 2 0,
  ix_e 27 (.istore_n (3)) 1 3 0 0 0 0,
  ix_e 28 (.iload_n (3)) 1 3 0 0 0 0,
  ix_e 29 (.ifCond .eq (11)) 3 40 0 0 0 0,
  ix_e 32 (.aload_n (0)) 1 0 0 0 0 0,
  ix_e 33 (.iload_n (3)) 1 3 0 0 0 0,
  ix_e 34 (.invokevirtual (153)) 3 52 2 1 1 0,
  ix_e 37 (.ifCond .ne (5)) 3 42 0 0 0 0,
  ix_e 40 (.iconst (0)) 1 0 0 0 0 0,
  ix_e 41 .ireturn 1 1 0 0 0 0,
  ix_e 42 (.aload_n (0)) 1 0 0 0 0 0,
  ix_e 43 (.getfield (42)) 3 1 5 2 0 0,
  ix_e 46 (.getfield (162)) 3 6 12 2 0 0,
  ix_e 49 (.iload_n (1)) 1 1 0 0 0 0,
  ix_e 50 .dup2 1 0 0 0 0 0,
  ix_e 51 .iaload 1 0 0 0 0 0,
  ix_e 52 (.iconst (1)) 1 0 0 0 0 1,
  ix_e 53 .iadd 1 0 0 0 0 0,
  ix_e 54 .iastore 1 0 0 0 0 0,
  ix_e 55 (.aload_n (0)) 1 0 0 0 0 0,
  ix_e 56 (.getfield (47)) 3 1 6 1 0 0,
  ix_e 59 (.ifCond .ne (31)) 3 90 0 0 0 0,
  ix_e 62 (.aload_n (0)) 1 0 0 0 0 0,
  ix_e 63 (.getfield (22)) 3 1 2 2 0 0,
  ix_e 66 (.getfield (76)) 3 9 1 2 0 0,
  ix_e 69 (.aload_n (0)) 1 0 0 0 0 0,
  ix_e 70 (.getfield (42)) 3 1 5 2 0 0,
  ix_e 73 (.getfield (55)) 3 6 5 0 0 0,
  ix_e 76 (.iconst (1)) 1 0 0 0 0 1,
  ix_e 77 (.iload_n (1)) 1 1 0 0 0 0,
  ix_e 78 (.aload_n (0)) 1 0 0 0 0 0,
  ix_e 79 (.getfield (42)) 3 1 5 2 0 0,
  ix_e 82 (.getfield (162)) 3 6 12 2 0 0,
  ix_e 85 (.iload_n (1)) 1 1 0 0 0 0,
  ix_e 86 .iaload 1 0 0 0 0 0,
  ix_e 87 (.invokevirtual (82)) 3 43 5 0 0 0,
  ix_e 90 (.iconst (1)) 1 0 0 0 0 1,
  ix_e 91 .ireturn 1 1 0 0 0 0]
/-- VotedBank$Crossing.comesTrue (I)Z -/
def ix_t52 : List ix_E := [ix_e 0 (.aload_n (0)) 1 0 0 0 0 0,
  ix_e 1 (.getfield (47)) 3 1 6 1 0 0,
  ix_e 4 (.ifCond .eq (18)) 3 22 0 0 0 0,
  ix_e 7 (.iload_n (1)) 1 1 0 0 0 0,
  ix_e 8 (.sipush (500)) 3 0 0 0 0 500,
  ix_e 11 (.if_icmp .lt (7)) 3 18 0 0 0 0,
  ix_e 14 (.iconst (1)) 1 0 0 0 0 1,
  ix_e 15 (.goto (26)) 3 41 0 0 0 0,
  ix_e 18 (.iconst (0)) 1 0 0 0 0 0,
  ix_e 19 (.goto (22)) 3 41 0 0 0 0,
  ix_e 22 (.aload_n (0)) 1 0 0 0 0 0,
  ix_e 23 (.getfield (42)) 3 1 5 2 0 0,
  ix_e 26 (.sipush (1000)) 3 0 0 0 0 1000,
  ix_e 29 (.invokevirtual (144)) 3 131 2 1 6 0,
  ix_e 32 (.iload_n (1)) 1 1 0 0 0 0,
  ix_e 33 (.if_icmp .ge (7)) 3 40 0 0 0 0,
  ix_e 36 (.iconst (1)) 1 0 0 0 0 1,
  ix_e 37 (.goto (4)) 3 41 0 0 0 0,
  ix_e 40 (.iconst (0)) 1 0 0 0 0 0,
  ix_e 41 .ireturn 1 1 0 0 0 0]
/-- VotedBank$Law.copyFrom (LVotedBank$Law;)V -/
def ix_t53 : List ix_E := [ix_e 0 (.aload_n (0)) 1 0 0 0 0 0,
  ix_e 1 (.aload_n (1)) 1 1 0 0 0 0,
  ix_e 2 (.getfield (35)) 3 2 8 0 0 0,
  ix_e 5 (.putfield (35)) 3 2 8 0 0 0,
  ix_e 8 (.aload_n (0)) 1 0 0 0 0 0,
  ix_e 9 (.aload_n (1)) 1 1 0 0 0 0,
  ix_e 10 (.getfield (39)) 3 2 7 0 0 0,
  ix_e 13 (.putfield (39)) 3 2 7 0 0 0,
  ix_e 16 (.aload_n (1)) 1 1 0 0 0 0,
  ix_e 17 (.getfield (11)) 3 2 0 2 0 0,
  ix_e 20 (.iconst (0)) 1 0 0 0 0 0,
  ix_e 21 (.aload_n (0)) 1 0 0 0 0 0,
  ix_e 22 (.getfield (11)) 3 2 0 2 0 0,
  ix_e 25 (.iconst (0)) 1 0 0 0 0 0,
  ix_e 26 (.sipush (400)) 3 0 0 0 0 400,
  ix_e 29 (.invokestatic (42)) 3 0 0 2 0 0,
  ix_e 32 (.aload_n (1)) 1 1 0 0 0 0,
  ix_e 33 (.getfield (17)) 3 2 1 2 0 0,
  ix_e 36 (.iconst (0)) 1 0 0 0 0 0,
  ix_e 37 (.aload_n (0)) 1 0 0 0 0 0,
  ix_e 38 (.getfield (17)) 3 2 1 2 0 0,
  ix_e 41 (.iconst (0)) 1 0 0 0 0 0,
  ix_e 42 (.bipush (16)) 2 0 0 0 0 16,
  ix_e 44 (.invokestatic (42)) 3 0 0 2 0 0,
  ix_e 47 (.aload_n (1)) 1 1 0 0 0 0,
  ix_e 48 (.getfield (20)) 3 2 2 2 0 0,
  ix_e 51 (.iconst (0)) 1 0 0 0 0 0,
  ix_e 52 (.aload_n (0)) 1 0 0 0 0 0,
  ix_e 53 (.getfield (20)) 3 2 2 2 0 0,
  ix_e 56 (.iconst (0)) 1 0 0 0 0 0,
  ix_e 57 (.bipush (16)) 2 0 0 0 0 16,
  ix_e 59 (.invokestatic (42)) 3 0 0 2 0 0,
  ix_e 62 (.aload_n (1)) 1 1 0 0 0 0,
  ix_e 63 (.getfield (23)) 3 2 3 2 0 0,
  ix_e 66 (.iconst (0)) 1 0 0 0 0 0,
  ix_e 67 (.aload_n (0)) 1 0 0 0 0 0,
  ix_e 68 (.getfield (23)) 3 2 3 2 0 0,
  ix_e 71 (.iconst (0)) 1 0 0 0 0 0,
  ix_e 72 (.bipush (16)) 2 0 0 0 0 16,
  ix_e 74 (.invokestatic (42)) 3 0 0 2 0 0,
  ix_e 77 (.aload_n (1)) 1 1 0 0 0 0,
  ix_e 78 (.getfield (26)) 3 2 4 2 0 0,
  ix_e 81 (.iconst (0)) 1 0 0 0 0 0,
  ix_e 82 (.aload_n (0)) 1 0 0 0 0 0,
  ix_e 83 (.getfield (26)) 3 2 4 2 0 0,
  ix_e 86 (.iconst (0)) 1 0 0 0 0 0,
  ix_e 87 (.bipush (16)) 2 0 0 0 0 16,
  ix_e 89 (.invokestatic (42)) 3 0 0 2 0 0,
  ix_e 92 .return_ 1 0 0 0 0 0]
/-- VotedBank$Law.tells (ILVotedBank$River;IIII)I -/
def ix_t54 : List ix_E := [ix_e 0 (.aload_n (0)) 1 0 0 0 0 0,
  ix_e 1 (.aload_n (2)) 1 2 0 0 0 0,
  ix_e 2 (.iload_n (3)) 1 3 0 0 0 0,
  ix_e 3 (.iload (4)) 2 4 0 0 0 0,
  ix_e 5 (.iload (5)) 2 5 0 0 0 0,
  ix_e 7 (.iload (6)) 2 6 0 0 0 0,
  ix_e 9 (.invokevirtual (48)) 3 58 6 0 2 0,
  ix_e 12 (.aload_n (0)) 1 0 0 0 0 0,
  ix_e 13 (.iload_n (1)) 1 1 0 0 0 0,
  ix_e 14 (.invokevirtual (52)) 3 59 2 1 2 0,
  ix_e 17 (.istore (7)) 2 7 0 0 0 0,
  ix_e 19 (.iconst (0)) 1 0 0 0 0 0,
  ix_e 20 (.istore (8)) 2 8 0 0 0 0,
  ix_c 22 (.iload (8)) 2 [true, true, false, false, false, false, false, true, true] 8 0 0 0 0,
  ix_e 24 (.aload_n (0)) 1 0 0 0 0 0,
  ix_e 25 (.getfield (39)) 3 2 7 0 0 0,
  ix_e 28 (.if_icmp .ge (81)) 3 109 0 0 0 0,
  ix_e 31 (.aload_n (0)) 1 0 0 0 0 0,
  ix_e 32 (.getfield (17)) 3 2 1 2 0 0,
  ix_e 35 (.iload (8)) 2 8 0 0 0 0,
  ix_e 37 .iaload 1 0 0 0 0 0,
  ix_e 38 (.iload_n (1)) 1 1 0 0 0 0,
  ix_e 39 (.if_icmp .ne (64)) 3 103 0 0 0 0,
  ix_e 42 (.aload_n (0)) 1 0 0 0 0 0,
  ix_e 43 (.getfield (23)) 3 2 3 2 0 0,
  ix_e 46 (.iload (8)) 2 8 0 0 0 0,
  ix_e 48 .iaload 1 0 0 0 0 0,
  ix_e 49 (.aload_n (0)) 1 0 0 0 0 0,
  ix_e 50 (.getfield (26)) 3 2 4 2 0 0,
  ix_e 53 (.iload (8)) 2 8 0 0 0 0,
  ix_e 55 .iaload 1 0 0 0 0 0,
  ix_e 56 (.if_icmp .eq (24)) 3 80 0 0 0 0,
  ix_e 59 (.aload_n (0)) 1 0 0 0 0 0,
  ix_e 60 (.aload_n (0)) 1 0 0 0 0 0,
  ix_e 61 (.getfield (23)) 3 2 3 2 0 0,
  ix_e 64 (.iload (8)) 2 8 0 0 0 0,
  ix_e 66 .iaload 1 0 0 0 0 0,
  ix_e 67 (.aload_n (0)) 1 0 0 0 0 0,
  ix_e 68 (.getfield (26)) 3 2 4 2 0 0,
  ix_e 71 (.iload (8)) 2 8 0 0 0 0,
  ix_e 73 .iaload 1 0 0 0 0 0,
  ix_e 74 (.invokevirtual (56)) 3 60 3 1 2 0,
  ix_e 77 (.ifCond .eq (26)) 3 103 0 0 0 0,
  ix_e 80 (.aload_n (0)) 1 0 0 0 0 0,
  ix_e 81 (.aload_n (0)) 1 0 0 0 0 0,
  ix_e 82 (.getfield (20)) 3 2 2 2 0 0,
  ix_e 85 (.iload (8)) 2 8 0 0 0 0,
  ix_e 87 .iaload 1 0 0 0 0 0,
  ix_e 88 (.aload_n (0)) 1 0 0 0 0 0,
  ix_e 89 (.getfield (23)) 3 2 3 2 0 0,
  ix_e 92 (.iload (8)) 2 8 0 0 0 0,
  ix_e 94 .iaload 1 0 0 0 0 0,
  ix_e 95 (.invokevirtual (56)) 3 60 3 1 2 0,
  ix_e 98 (.istore (7)) 2 7 0 0 0 0,
  ix_e 100 (.goto (9)) 3 109 0 0 0 0,
  ix_e 103 (.iinc 8 (1)) 3 8 0 0 0 1,
  ix_e 106 (.goto (-84)) 3 22 0 0 0 0,
  ix_e 109 (.iconst (0)) 1 0 0 0 0 0,
  ix_e 110 (.iload (7)) 2 7 0 0 0 0,
  ix_e 112 (.iload_n (1)) 1 1 0 0 0 0,
  ix_e 113 (.iconst (2)) 1 0 0 0 0 2,
  ix_e 114 (.if_icmp .ne (8)) 3 122 0 0 0 0,
  ix_e 117 (.bipush (9)) 2 0 0 0 0 9,
  ix_e 119 (.goto (6)) 3 125 0 0 0 0,
  ix_e 122 (.sipush (1000)) 3 0 0 0 0 1000,
  ix_e 125 (.invokestatic (60)) 3 285 2 1 0 0,
  ix_e 128 (.invokestatic (65)) 3 289 2 1 0 0,
  ix_e 131 .ireturn 1 0 0 0 0 0]
/-- VotedBank$Law.<init> ()V -/
def ix_t55 : List ix_E := [ix_e 0 (.aload_n (0)) 1 0 0 0 0 0,
  ix_e 1 (.invokespecial (3)) 3 0 0 2 0 0,
  ix_e 4 (.aload_n (0)) 1 0 0 0 0 0,
  ix_e 5 (.sipush (400)) 3 0 0 0 0 400,
  ix_e 8 (.newarray .int) 2 0 0 0 0 0,
  ix_e 10 (.putfield (11)) 3 2 0 2 0 0,
  ix_e 13 (.aload_n (0)) 1 0 0 0 0 0,
  ix_e 14 (.bipush (16)) 2 0 0 0 0 16,
  ix_e 16 (.newarray .int) 2 0 0 0 0 0,
  ix_e 18 (.putfield (17)) 3 2 1 2 0 0,
  ix_e 21 (.aload_n (0)) 1 0 0 0 0 0,
  ix_e 22 (.bipush (16)) 2 0 0 0 0 16,
  ix_e 24 (.newarray .int) 2 0 0 0 0 0,
  ix_e 26 (.putfield (20)) 3 2 2 2 0 0,
  ix_e 29 (.aload_n (0)) 1 0 0 0 0 0,
  ix_e 30 (.bipush (16)) 2 0 0 0 0 16,
  ix_e 32 (.newarray .int) 2 0 0 0 0 0,
  ix_e 34 (.putfield (23)) 3 2 3 2 0 0,
  ix_e 37 (.aload_n (0)) 1 0 0 0 0 0,
  ix_e 38 (.bipush (16)) 2 0 0 0 0 16,
  ix_e 40 (.newarray .int) 2 0 0 0 0 0,
  ix_e 42 (.putfield (26)) 3 2 4 2 0 0,
  ix_e 45 (.aload_n (0)) 1 0 0 0 0 0,
  ix_e 46 (.bipush (32)) 2 0 0 0 0 32,
  ix_e 48 (.newarray .int) 2 0 0 0 0 0,
  ix_e 50 (.putfield (29)) 3 2 5 2 0 0,
  ix_e 53 (.aload_n (0)) 1 0 0 0 0 0,
  ix_e 54 (.bipush (18)) 2 0 0 0 0 18,
  ix_e 56 (.newarray .int) 2 0 0 0 0 0,
  ix_e 58 (.putfield (32)) 3 2 6 2 0 0,
  ix_e 61 .return_ 1 0 0 0 0 0]
/-- VotedBank$Law.clear ()V -/
def ix_t56 : List ix_E := [ix_e 0 (.aload_n (0)) 1 0 0 0 0 0,
  ix_e 1 (.iconst (0)) 1 0 0 0 0 0,
  ix_e 2 (.putfield (35)) 3 2 8 0 0 0,
  ix_e 5 (.aload_n (0)) 1 0 0 0 0 0,
  ix_e 6 (.iconst (0)) 1 0 0 0 0 0,
  ix_e 7 (.putfield (39)) 3 2 7 0 0 0,
  ix_e 10 .return_ 1 0 0 0 0 0]
/-- VotedBank$Law.addLine (III)V -/
def ix_t57 : List ix_E := [ix_e 0 (.aload_n (0)) 1 0 0 0 0 0,
  ix_e 1 (.getfield (39)) 3 2 7 0 0 0,
  ix_e 4 (.bipush (16)) 2 0 0 0 0 16,
  ix_e 6 (.if_icmp .ge (56)) 3 62 0 0 0 0,
  ix_e 9 (.aload_n (0)) 1 0 0 0 0 0,
  ix_e 10 (.getfield (17)) 3 2 1 2 0 0,
  ix_e 13 (.aload_n (0)) 1 0 0 0 0 0,
  ix_e 14 (.getfield (39)) 3 2 7 0 0 0,
  ix_e 17 (.iload_n (1)) 1 1 0 0 0 0,
  ix_e 18 .iastore 1 0 0 0 0 0,
  ix_e 19 (.aload_n (0)) 1 0 0 0 0 0,
  ix_e 20 (.getfield (20)) 3 2 2 2 0 0,
  ix_e 23 (.aload_n (0)) 1 0 0 0 0 0,
  ix_e 24 (.getfield (39)) 3 2 7 0 0 0,
  ix_e 27 (.iload_n (2)) 1 2 0 0 0 0,
  ix_e 28 .iastore 1 0 0 0 0 0,
  ix_e 29 (.aload_n (0)) 1 0 0 0 0 0,
  ix_e 30 (.getfield (23)) 3 2 3 2 0 0,
  ix_e 33 (.aload_n (0)) 1 0 0 0 0 0,
  ix_e 34 (.getfield (39)) 3 2 7 0 0 0,
  ix_e 37 (.iload_n (3)) 1 3 0 0 0 0,
  ix_e 38 .iastore 1 0 0 0 0 0,
  ix_e 39 (.aload_n (0)) 1 0 0 0 0 0,
  ix_e 40 (.getfield (26)) 3 2 4 2 0 0,
  ix_e 43 (.aload_n (0)) 1 0 0 0 0 0,
  ix_e 44 (.getfield (39)) 3 2 7 0 0 0,
  ix_e 47 (.aload_n (0)) 1 0 0 0 0 0,
  ix_e 48 (.getfield (35)) 3 2 8 0 0 0,
  ix_e 51 .iastore 1 0 0 0 0 0,
  ix_e 52 (.aload_n (0)) 1 0 0 0 0 0,
  ix_e 53 .dup 1 0 0 0 0 0,
  ix_e 54 (.getfield (39)) 3 2 7 0 0 0,
  ix_e 57 (.iconst (1)) 1 0 0 0 0 1,
  ix_e 58 .iadd 1 0 0 0 0 0,
  ix_e 59 (.putfield (39)) 3 2 7 0 0 0,
  ix_e 62 .return_ 1 0 0 0 0 0]
/-- VotedBank$Law.learn (LVotedBank$River;IIII)V -/
def ix_t58 : List ix_E := [ix_e 0 (.aload_n (0)) 1 0 0 0 0 0,
  ix_e 1 (.getfield (32)) 3 2 6 2 0 0,
  ix_e 4 (.bipush (7)) 2 0 0 0 0 7,
  ix_e 6 (.aload_n (1)) 1 1 0 0 0 0,
  ix_e 7 (.getfield (68)) 3 6 9 2 0 0,
  ix_e 10 (.iload_n (2)) 1 2 0 0 0 0,
  ix_e 11 .iaload 1 0 0 0 0 0,
  ix_e 12 .iastore 1 0 0 0 0 0,
  ix_e 13 (.aload_n (0)) 1 0 0 0 0 0,
  ix_e 14 (.getfield (32)) 3 2 6 2 0 0,
  ix_e 17 (.bipush (8)) 2 0 0 0 0 8,
  ix_e 19 (.iload_n (3)) 1 3 0 0 0 0,
  ix_e 20 .iastore 1 0 0 0 0 0,
  ix_e 21 (.aload_n (0)) 1 0 0 0 0 0,
  ix_e 22 (.getfield (32)) 3 2 6 2 0 0,
  ix_e 25 (.bipush (9)) 2 0 0 0 0 9,
  ix_e 27 (.aload_n (1)) 1 1 0 0 0 0,
  ix_e 28 (.getfield (73)) 3 6 11 2 0 0,
  ix_e 31 (.iload_n (2)) 1 2 0 0 0 0,
  ix_e 32 .iaload 1 0 0 0 0 0,
  ix_e 33 .iastore 1 0 0 0 0 0,
  ix_e 34 (.aload_n (0)) 1 0 0 0 0 0,
  ix_e 35 (.getfield (32)) 3 2 6 2 0 0,
  ix_e 38 (.bipush (10)) 2 0 0 0 0 10,
  ix_e 40 (.aload_n (1)) 1 1 0 0 0 0,
  ix_e 41 (.getfield (76)) 3 6 12 2 0 0,
  ix_e 44 (.iload_n (2)) 1 2 0 0 0 0,
  ix_e 45 .iaload 1 0 0 0 0 0,
  ix_e 46 .iastore 1 0 0 0 0 0,
  ix_e 47 (.aload_n (0)) 1 0 0 0 0 0,
  ix_e 48 (.getfield (32)) 3 2 6 2 0 0,
  ix_e 51 (.bipush (11)) 2 0 0 0 0 11,
  ix_e 53 (.aload_n (1)) 1 1 0 0 0 0,
  ix_e 54 (.getfield (79)) 3 6 13 2 0 0,
  ix_e 57 (.iload_n (2)) 1 2 0 0 0 0,
  ix_e 58 .iaload 1 0 0 0 0 0,
  ix_e 59 .iastore 1 0 0 0 0 0,
  ix_e 60 (.aload_n (0)) 1 0 0 0 0 0,
  ix_e 61 (.getfield (32)) 3 2 6 2 0 0,
  ix_e 64 (.bipush (12)) 2 0 0 0 0 12,
  ix_e 66 (.aload_n (1)) 1 1 0 0 0 0,
  ix_e 67 (.getfield (82)) 3 6 1 0 0 0,
  ix_e 70 .iastore 1 0 0 0 0 0,
  ix_e 71 (.aload_n (0)) 1 0 0 0 0 0,
  ix_e 72 (.getfield (32)) 3 2 6 2 0 0,
  ix_e 75 (.bipush (13)) 2 0 0 0 0 13,
  ix_e 77 (.aload_n (1)) 1 1 0 0 0 0,
  ix_e 78 (.getfield (85)) 3 6 2 0 0 0,
  ix_e 81 .iastore 1 0 0 0 0 0,
  ix_e 82 (.aload_n (0)) 1 0 0 0 0 0,
  ix_e 83 (.getfield (32)) 3 2 6 2 0 0,
  ix_e 86 (.bipush (14)) 2 0 0 0 0 14,
  ix_e 88 (.aload_n (1)) 1 1 0 0 0 0,
  ix_e 89 (.getfield (88)) 3 6 3 0 0 0,
  ix_e 92 .iastore 1 0 0 0 0 0,
  ix_e 93 (.aload_n (0)) 1 0 0 0 0 0,
  ix_e 94 (.getfield (32)) 3 2 6 2 0 0,
  ix_e 97 (.bipush (15)) 2 0 0 0 0 15,
  ix_e 99 (.iload (4)) 2 4 0 0 0 0,
  ix_e 101 .iastore 1 0 0 0 0 0,
  ix_e 102 (.aload_n (0)) 1 0 0 0 0 0,
  ix_e 103 (.getfield (32)) 3 2 6 2 0 0,
  ix_e 106 (.bipush (16)) 2 0 0 0 0 16,
  ix_e 108 (.iload (5)) 2 5 0 0 0 0,
  ix_e 110 (.invokestatic (91)) 3 286 1 1 0 0,
  ix_e 113 .iastore 1 0 0 0 0 0,
  ix_e 114 (.aload_n (0)) 1 0 0 0 0 0,
  ix_e 115 (.getfield (32)) 3 2 6 2 0 0,
  ix_e 118 (.bipush (17)) 2 0 0 0 0 17,
  ix_e 120 (.aload_n (1)) 1 1 0 0 0 0,
  ix_e 121 (.iload_n (2)) 1 2 0 0 0 0,
  ix_e 122 (.iload (5)) 2 5 0 0 0 0,
  ix_e 124 (.invokevirtual (96)) 3 130 3 1 6 0,
  ix_e 127 .iastore 1 0 0 0 0 0,
  ix_e 128 .return_ 1 0 0 0 0 0]
/-- VotedBank$Law.untold (I)I -/
def ix_t59 : List ix_E := [ix_e 0 (.iload_n (1)) 1 1 0 0 0 0,
  ix_e 1 (.lookupswitch (53) #[(0, 27), (1, 42)]) 27 0 0 0 0 0,
  ix_e 28 (.sipush (300)) 3 0 0 0 0 300,
  ix_e 31 (.bipush (30)) 2 0 0 0 0 30,
  ix_e 33 (.aload_n (0)) 1 0 0 0 0 0,
  ix_e 34 (.getfield (32)) 3 2 6 2 0 0,
  ix_e 37 (.bipush (9)) 2 0 0 0 0 9,
  ix_e 39 .iaload 1 0 0 0 0 0,
  ix_e 40 .imul 1 0 0 0 0 0,
  ix_e 41 .isub 1 0 0 0 0 0,
  ix_e 42 .ireturn 1 0 0 0 0 0,
  ix_e 43 (.bipush (20)) 2 0 0 0 0 20,
  ix_e 45 (.aload_n (0)) 1 0 0 0 0 0,
  ix_e 46 (.getfield (32)) 3 2 6 2 0 0,
  ix_e 49 (.bipush (10)) 2 0 0 0 0 10,
  ix_e 51 .iaload 1 0 0 0 0 0,
  ix_e 52 .imul 1 0 0 0 0 0,
  ix_e 53 .ireturn 1 0 0 0 0 0,
  ix_e 54 (.iconst (2)) 1 0 0 0 0 2,
  ix_e 55 (.aload_n (0)) 1 0 0 0 0 0,
  ix_e 56 (.getfield (32)) 3 2 6 2 0 0,
  ix_e 59 (.bipush (7)) 2 0 0 0 0 7,
  ix_e 61 .iaload 1 0 0 0 0 0,
  ix_e 62 .isub 1 0 0 0 0 0,
  ix_e 63 .ireturn 1 0 0 0 0 0]
/-- VotedBank$Law.result (II)I -/
def ix_t60 : List ix_E := [ix_e 0 (.iconst (0)) 1 0 0 0 0 0,
  ix_e 1 (.istore_n (3)) 1 3 0 0 0 0,
  ix_e 2 (.aload_n (0)) 1 0 0 0 0 0,
  ix_e 3 (.getfield (29)) 3 2 5 2 0 0,
  ix_e 6 (.iconst (0)) 1 0 0 0 0 0,
  ix_e 7 (.iconst (0)) 1 0 0 0 0 0,
  ix_e 8 .iastore 1 0 0 0 0 0,
  ix_e 9 (.iload_n (1)) 1 1 0 0 0 0,
  ix_e 10 (.istore (4)) 2 4 0 0 0 0,
  ix_c 12 (.iload (4)) 2 [true, false, true, true, true, false] 4 0 0 0 0,
  ix_e 14 (.iload_n (2)) 1 2 0 0 0 0,
  ix_e 15 (.if_icmp .ge (142)) 3 157 0 0 0 0,
  ix_e 18 (.aload_n (0)) 1 0 0 0 0 0,
  ix_e 19 (.getfield (11)) 3 2 0 2 0 0,
  ix_e 22 (.iload (4)) 2 4 0 0 0 0,
  ix_e 24 .iaload 1 0 0 0 0 0,
  ix_e 25 (.bipush (63)) 2 0 0 0 0 63,
  ix_e 27 .iand 1 0 0 0 0 0,
  ix_e 28 (.istore (5)) 2 5 0 0 0 0,
  ix_e 30 (.iload (5)) 2 5 0 0 0 0,
  ix_e 32 (.bipush (6)) 2 0 0 0 0 6,
  ix_e 34 (.if_icmp .ne (29)) 3 63 0 0 0 0,
  ix_e 37 (.iload_n (3)) 1 3 0 0 0 0,
  ix_e 38 (.iconst (1)) 1 0 0 0 0 1,
  ix_e 39 (.if_icmp .lt (24)) 3 63 0 0 0 0,
  ix_e 42 (.aload_n (0)) 1 0 0 0 0 0,
  ix_e 43 (.getfield (29)) 3 2 5 2 0 0,
  ix_e 46 (.iload_n (3)) 1 3 0 0 0 0,
  ix_e 47 (.iconst (1)) 1 0 0 0 0 1,
  ix_e 48 .isub 1 0 0 0 0 0,
  ix_e 49 (.iconst (1)) 1 0 0 0 0 1,
  ix_e 50 (.aload_n (0)) 1 0 0 0 0 0,
  ix_e 51 (.getfield (29)) 3 2 5 2 0 0,
  ix_e 54 (.iload_n (3)) 1 3 0 0 0 0,
  ix_e 55 (.iconst (1)) 1 0 0 0 0 1,
  ix_e 56 .isub 1 0 0 0 0 0,
  ix_e 57 .iaload 1 0 0 0 0 0,
  ix_e 58 .isub 1 0 0 0 0 0,
  ix_e 59 .iastore 1 0 0 0 0 0,
  ix_e 60 (.goto (91)) 3 151 0 0 0 0,
  ix_e 63 (.iload (5)) 2 5 0 0 0 0,
  ix_e 65 (.invokestatic (99)) 3 62 1 1 0 0,
  ix_e 68 (.ifCond .eq (41)) 3 109 0 0 0 0,
  ix_e 71 (.iload_n (3)) 1 3 0 0 0 0,
  ix_e 72 (.iconst (2)) 1 0 0 0 0 2,
  ix_e 73 (.if_icmp .lt (36)) 3 109 0 0 0 0,
  ix_e 76 (.iinc 3 (-1)) 3 3 0 1 0 1,
  ix_e 79 (.aload_n (0)) 1 0 0 0 0 0,
  ix_e 80 (.getfield (29)) 3 2 5 2 0 0,
  ix_e 83 (.iload_n (3)) 1 3 0 0 0 0,
  ix_e 84 (.iconst (1)) 1 0 0 0 0 1,
  ix_e 85 .isub 1 0 0 0 0 0,
  ix_e 86 (.iload (5)) 2 5 0 0 0 0,
  ix_e 88 (.aload_n (0)) 1 0 0 0 0 0,
  ix_e 89 (.getfield (29)) 3 2 5 2 0 0,
  ix_e 92 (.iload_n (3)) 1 3 0 0 0 0,
  ix_e 93 (.iconst (1)) 1 0 0 0 0 1,
  ix_e 94 .isub 1 0 0 0 0 0,
  ix_e 95 .iaload 1 0 0 0 0 0,
  ix_e 96 (.aload_n (0)) 1 0 0 0 0 0,
  ix_e 97 (.getfield (29)) 3 2 5 2 0 0,
  ix_e 100 (.iload_n (3)) 1 3 0 0 0 0,
  ix_e 101 .iaload 1 0 0 0 0 0,
  ix_e 102 (.invokestatic (103)) 3 63 3 1 0 0,
  ix_e 105 .iastore 1 0 0 0 0 0,
  ix_e 106 (.goto (45)) 3 151 0 0 0 0,
  ix_e 109 (.iload_n (3)) 1 3 0 0 0 0,
  ix_e 110 (.bipush (32)) 2 0 0 0 0 32,
  ix_e 112 (.if_icmp .ge (39)) 3 151 0 0 0 0,
  ix_e 115 (.aload_n (0)) 1 0 0 0 0 0,
  ix_e 116 (.getfield (29)) 3 2 5 2 0 0,
  ix_e 119 (.iload_n (3)) 1 3 0 0 0 0,
  ix_e 120 (.iload (5)) 2 5 0 0 0 0,
  ix_e 122 (.bipush (17)) 2 0 0 0 0 17,
  ix_e 124 (.if_icmp .gt (13)) 3 137 0 0 0 0,
  ix_e 127 (.aload_n (0)) 1 0 0 0 0 0,
  ix_e 128 (.getfield (32)) 3 2 6 2 0 0,
  ix_e 131 (.iload (5)) 2 5 0 0 0 0,
  ix_e 133 .iaload 1 0 0 0 0 0,
  ix_e 134 (.goto (13)) 3 147 0 0 0 0,
  ix_e 137 (.aload_n (0)) 1 0 0 0 0 0,
  ix_e 138 (.getfield (11)) 3 2 0 2 0 0,
  ix_e 141 (.iload (4)) 2 4 0 0 0 0,
  ix_e 143 .iaload 1 0 0 0 0 0,
  ix_e 144 (.bipush (6)) 2 0 0 0 0 6,
  ix_e 146 .ishr 1 0 0 0 0 0,
  ix_e 147 .iastore 1 0 0 0 0 0,
  ix_e 148 (.iinc 3 (1)) 3 3 0 0 0 1,
  ix_e 151 (.iinc 4 (1)) 3 4 0 0 0 1,
  ix_e 154 (.goto (-142)) 3 12 0 0 0 0,
  ix_e 157 (.aload_n (0)) 1 0 0 0 0 0,
  ix_e 158 (.getfield (29)) 3 2 5 2 0 0,
  ix_e 161 (.iconst (0)) 1 0 0 0 0 0,
  ix_e 162 .iaload 1 0 0 0 0 0,
  ix_e 163 .ireturn 1 0 0 0 0 0]
/-- VotedBank$Law.add (II)V -/
def ix_t61 : List ix_E := [ix_e 0 (.aload_n (0)) 1 0 0 0 0 0,
  ix_e 1 (.getfield (35)) 3 2 8 0 0 0,
  ix_e 4 (.sipush (400)) 3 0 0 0 0 400,
  ix_e 7 (.if_icmp .ge (28)) 3 35 0 0 0 0,
  ix_e 10 (.aload_n (0)) 1 0 0 0 0 0,
  ix_e 11 (.getfield (11)) 3 2 0 2 0 0,
  ix_e 14 (.aload_n (0)) 1 0 0 0 0 0,
  ix_e 15 (.getfield (35)) 3 2 8 0 0 0,
  ix_e 18 (.iload_n (2)) 1 2 0 0 0 0,
  ix_e 19 (.bipush (6)) 2 0 0 0 0 6,
  ix_e 21 .ishl 1 0 0 0 0 0,
  ix_e 22 (.iload_n (1)) 1 1 0 0 0 0,
  ix_e 23 .ior 1 0 0 0 0 0,
  ix_e 24 .iastore 1 0 0 0 0 0,
  ix_e 25 (.aload_n (0)) 1 0 0 0 0 0,
  ix_e 26 .dup 1 0 0 0 0 0,
  ix_e 27 (.getfield (35)) 3 2 8 0 0 0,
  ix_e 30 (.iconst (1)) 1 0 0 0 0 1,
  ix_e 31 .iadd 1 0 0 0 0 0,
  ix_e 32 (.putfield (35)) 3 2 8 0 0 0,
  ix_e 35 .return_ 1 0 0 0 0 0]
/-- VotedBank$Law.isJoint (I)Z -/
def ix_t62 : List ix_E := [ix_e 0 (.iload_n (0)) 1 0 0 0 0 0,
  ix_e 1 (.iconst (4)) 1 0 0 0 0 4,
  ix_e 2 (.if_icmp .eq (14)) 3 16 0 0 0 0,
  ix_e 5 (.iload_n (0)) 1 0 0 0 0 0,
  ix_e 6 (.iconst (5)) 1 0 0 0 0 5,
  ix_e 7 (.if_icmp .eq (9)) 3 16 0 0 0 0,
  ix_e 10 (.iload_n (0)) 1 0 0 0 0 0,
  ix_e 11 (.bipush (33)) 2 0 0 0 0 33,
  ix_e 13 (.if_icmp .le (7)) 3 20 0 0 0 0,
  ix_e 16 (.iconst (1)) 1 0 0 0 0 1,
  ix_e 17 (.goto (4)) 3 21 0 0 0 0,
  ix_e 20 (.iconst (0)) 1 0 0 0 0 0,
  ix_e 21 .ireturn 1 1 0 0 0 0]
/-- VotedBank$Law.joined (III)I -/
def ix_t63 : List ix_E := [ix_e 0 (.iload_n (0)) 1 0 0 0 0 0,
  ix_e 1 (.lookupswitch (136) #[(4, 132), (42, 83), (43, 75), (45, 79), (47, 87), (60, 99), (61, 110), (62, 121)]) 75 0 0 0 0 0,
  ix_e 76 (.iload_n (1)) 1 1 0 0 0 0,
  ix_e 77 (.iload_n (2)) 1 2 0 0 0 0,
  ix_e 78 .iadd 1 0 0 0 0 0,
  ix_e 79 .ireturn 1 0 0 0 0 0,
  ix_e 80 (.iload_n (1)) 1 1 0 0 0 0,
  ix_e 81 (.iload_n (2)) 1 2 0 0 0 0,
  ix_e 82 .isub 1 0 0 0 0 0,
  ix_e 83 .ireturn 1 0 0 0 0 0,
  ix_e 84 (.iload_n (1)) 1 1 0 0 0 0,
  ix_e 85 (.iload_n (2)) 1 2 0 0 0 0,
  ix_e 86 .imul 1 0 0 0 0 0,
  ix_e 87 .ireturn 1 0 0 0 0 0,
  ix_e 88 (.iload_n (2)) 1 2 0 0 0 0,
  ix_e 89 (.ifCond .ne (7)) 3 96 0 0 0 0,
  ix_e 92 (.iconst (0)) 1 0 0 0 0 0,
  ix_e 93 (.goto (6)) 3 99 0 0 0 0,
  ix_e 96 (.iload_n (1)) 1 1 0 0 0 0,
  ix_e 97 (.iload_n (2)) 1 2 0 0 0 0,
  ix_e 98 .idiv 1 0 0 0 0 0,
  ix_e 99 .ireturn 1 0 0 0 0 0,
  ix_e 100 (.iload_n (1)) 1 1 0 0 0 0,
  ix_e 101 (.iload_n (2)) 1 2 0 0 0 0,
  ix_e 102 (.if_icmp .ge (7)) 3 109 0 0 0 0,
  ix_e 105 (.iconst (1)) 1 0 0 0 0 1,
  ix_e 106 (.goto (4)) 3 110 0 0 0 0,
  ix_e 109 (.iconst (0)) 1 0 0 0 0 0,
  ix_e 110 .ireturn 1 0 0 0 0 0,
  ix_e 111 (.iload_n (1)) 1 1 0 0 0 0,
  ix_e 112 (.iload_n (2)) 1 2 0 0 0 0,
  ix_e 113 (.if_icmp .ne (7)) 3 120 0 0 0 0,
  ix_e 116 (.iconst (1)) 1 0 0 0 0 1,
  ix_e 117 (.goto (4)) 3 121 0 0 0 0,
  ix_e 120 (.iconst (0)) 1 0 0 0 0 0,
  ix_e 121 .ireturn 1 0 0 0 0 0,
  ix_e 122 (.iload_n (1)) 1 1 0 0 0 0,
  ix_e 123 (.iload_n (2)) 1 2 0 0 0 0,
  ix_e 124 (.if_icmp .le (7)) 3 131 0 0 0 0,
  ix_e 127 (.iconst (1)) 1 0 0 0 0 1,
  ix_e 128 (.goto (4)) 3 132 0 0 0 0,
  ix_e 131 (.iconst (0)) 1 0 0 0 0 0,
  ix_e 132 .ireturn 1 0 0 0 0 0,
  ix_e 133 (.iload_n (1)) 1 1 0 0 0 0,
  ix_e 134 (.iload_n (2)) 1 2 0 0 0 0,
  ix_e 135 .ior 1 0 0 0 0 0,
  ix_e 136 .ireturn 1 0 0 0 0 0,
  ix_e 137 (.iload_n (1)) 1 1 0 0 0 0,
  ix_e 138 (.iload_n (2)) 1 2 0 0 0 0,
  ix_e 139 .iand 1 0 0 0 0 0,
  ix_e 140 .ireturn 1 0 0 0 0 0]
/-- VotedBank$Parser.<init> (LVotedBank$Tape;)V -/
def ix_t64 : List ix_E := [ix_e 0 (.aload_n (0)) 1 0 0 0 0 0,
  ix_e 1 (.invokespecial (3)) 3 0 0 2 0 0,
  ix_e 4 (.aload_n (0)) 1 0 0 0 0 0,
  ix_e 5 (.new (9)) 3 8 0 0 0 0,
  ix_e 8 .dup 1 0 0 0 0 0,
  ix_e 9 (.invokespecial (11)) 3 146 1 0 8 1,
  ix_e 12 (.putfield (12)) 3 3 0 2 0 0,
  ix_e 15 (.aload_n (0)) 1 0 0 0 0 0,
  ix_e 16 (.iconst (-1)) 1 0 0 0 0 (-1),
  ix_e 17 (.putfield (18)) 3 3 2 0 0 0,
  ix_e 20 (.aload_n (0)) 1 0 0 0 0 0,
  ix_e 21 (.aload_n (1)) 1 1 0 0 0 0,
  ix_e 22 (.putfield (22)) 3 3 3 2 0 0,
  ix_e 25 .return_ 1 0 0 0 0 0]
/-- VotedBank$Parser.read (II)I -/
def ix_t65 : List ix_E := [ix_e 0 (.aload_n (0)) 1 0 0 0 0 0,
  ix_e 1 (.iconst (0)) 1 0 0 0 0 0,
  ix_e 2 (.putfield (26)) 3 3 1 0 0 0,
  ix_e 5 (.aload_n (0)) 1 0 0 0 0 0,
  ix_e 6 (.iconst (-1)) 1 0 0 0 0 (-1),
  ix_e 7 (.putfield (18)) 3 3 2 0 0 0,
  ix_e 10 (.aload_n (0)) 1 0 0 0 0 0,
  ix_e 11 (.iload_n (2)) 1 2 0 0 0 0,
  ix_e 12 (.putfield (29)) 3 3 4 0 0 0,
  ix_e 15 (.iload_n (1)) 1 1 0 0 0 0,
  ix_e 16 (.ifCond .lt (8)) 3 24 0 0 0 0,
  ix_e 19 (.iload_n (1)) 1 1 0 0 0 0,
  ix_e 20 (.iconst (3)) 1 0 0 0 0 3,
  ix_e 21 (.if_icmp .le (5)) 3 26 0 0 0 0,
  ix_e 24 (.iconst (-1)) 1 0 0 0 0 (-1),
  ix_e 25 .ireturn 1 0 0 0 0 0,
  ix_e 26 (.aload_n (0)) 1 0 0 0 0 0,
  ix_e 27 (.getfield (12)) 3 3 0 2 0 0,
  ix_e 30 (.iload_n (1)) 1 1 0 0 0 0,
  ix_e 31 (.invokevirtual (32)) 3 148 2 0 8 0,
  ix_e 34 (.aload_n (0)) 1 0 0 0 0 0,
  ix_e 35 (.getfield (22)) 3 3 3 2 0 0,
  ix_e 38 (.iload_n (1)) 1 1 0 0 0 0,
  ix_e 39 (.invokestatic (36)) 3 66 1 1 0 0,
  ix_e 42 (.invokevirtual (40)) 3 135 2 0 7 0,
  ix_e 45 (.iconst (1)) 1 0 0 0 0 1,
  ix_e 46 (.istore_n (3)) 1 3 0 0 0 0,
  ix_e 47 (.iconst (0)) 1 0 0 0 0 0,
  ix_e 48 (.istore (4)) 2 4 0 0 0 0,
  ix_c 50 (.iload (4)) 2 [true, true, false, true, true] 4 0 0 0 0,
  ix_e 52 (.bipush (16)) 2 0 0 0 0 16,
  ix_e 54 (.if_icmp .gt (115)) 3 169 0 0 0 0,
  ix_e 57 (.iload_n (3)) 1 3 0 0 0 0,
  ix_e 58 (.ifCond .eq (111)) 3 169 0 0 0 0,
  ix_e 61 (.aload_n (0)) 1 0 0 0 0 0,
  ix_e 62 (.getfield (22)) 3 3 3 2 0 0,
  ix_e 65 (.getfield (46)) 3 7 7 0 0 0,
  ix_e 68 (.bipush (32)) 2 0 0 0 0 32,
  ix_e 70 (.if_icmp .eq (99)) 3 169 0 0 0 0,
  ix_e 73 (.aload_n (0)) 1 0 0 0 0 0,
  ix_e 74 (.iload_n (1)) 1 1 0 0 0 0,
  ix_e 75 (.invokevirtual (49)) 3 67 2 1 3 0,
  ix_e 78 (.ifCond .ne (12)) 3 90 0 0 0 0,
  ix_e 81 (.aload_n (0)) 1 0 0 0 0 0,
  ix_e 82 (.iconst (1)) 1 0 0 0 0 1,
  ix_e 83 (.invokevirtual (53)) 3 68 2 1 3 0,
  ix_e 86 (.istore_n (3)) 1 3 0 0 0 0,
  ix_e 87 (.goto (63)) 3 150 0 0 0 0,
  ix_e 90 (.iload (4)) 2 4 0 0 0 0,
  ix_e 92 (.bipush (16)) 2 0 0 0 0 16,
  ix_e 94 (.if_icmp .ne (12)) 3 106 0 0 0 0,
  ix_e 97 (.aload_n (0)) 1 0 0 0 0 0,
  ix_e 98 (.iconst (3)) 1 0 0 0 0 3,
  ix_e 99 (.invokevirtual (53)) 3 68 2 1 3 0,
  ix_e 102 (.istore_n (3)) 1 3 0 0 0 0,
  ix_e 103 (.goto (47)) 3 150 0 0 0 0,
  ix_e 106 (.iload_n (1)) 1 1 0 0 0 0,
  ix_e 107 (.ifCond .ne (11)) 3 118 0 0 0 0,
  ix_e 110 (.aload_n (0)) 1 0 0 0 0 0,
  ix_e 111 (.invokevirtual (56)) 3 69 1 1 3 0,
  ix_e 114 (.istore_n (3)) 1 3 0 0 0 0,
  ix_e 115 (.goto (35)) 3 150 0 0 0 0,
  ix_e 118 (.iload_n (1)) 1 1 0 0 0 0,
  ix_e 119 (.iconst (1)) 1 0 0 0 0 1,
  ix_e 120 (.if_icmp .ne (11)) 3 131 0 0 0 0,
  ix_e 123 (.aload_n (0)) 1 0 0 0 0 0,
  ix_e 124 (.invokevirtual (60)) 3 70 1 1 3 0,
  ix_e 127 (.istore_n (3)) 1 3 0 0 0 0,
  ix_e 128 (.goto (22)) 3 150 0 0 0 0,
  ix_e 131 (.iload_n (1)) 1 1 0 0 0 0,
  ix_e 132 (.iconst (2)) 1 0 0 0 0 2,
  ix_e 133 (.if_icmp .ne (12)) 3 145 0 0 0 0,
  ix_e 136 (.aload_n (0)) 1 0 0 0 0 0,
  ix_e 137 (.iload (4)) 2 4 0 0 0 0,
  ix_e 139 (.invokevirtual (63)) 3 71 2 1 3 0,
  ix_e 142 (.goto (7)) 3 149 0 0 0 0,
  ix_e 145 (.aload_n (0)) 1 0 0 0 0 0,
  ix_e 146 (.invokevirtual (66)) 3 72 1 1 3 0,
  ix_e 149 (.istore_n (3)) 1 3 0 0 0 0,
  ix_e 150 (.aload_n (0)) 1 0 0 0 0 0,
  ix_e 151 (.getfield (12)) 3 3 0 2 0 0,
  ix_e 154 (.getfield (69)) 3 8 6 2 0 0,
  ix_e 157 (.iload_n (1)) 1 1 0 0 0 0,
  ix_e 158 (.iload (4)) 2 4 0 0 0 0,
  ix_e 160 (.iconst (1)) 1 0 0 0 0 1,
  ix_e 161 .iadd 1 0 0 0 0 0,
  ix_e 162 .iastore 1 0 0 0 0 0,
  ix_e 163 (.iinc 4 (1)) 3 4 0 0 0 1,
  ix_e 166 (.goto (-116)) 3 50 0 0 0 0,
  ix_e 169 (.iload_n (3)) 1 3 0 0 0 0,
  ix_e 170 (.ifCond .eq (15)) 3 185 0 0 0 0,
  ix_e 173 (.aload_n (0)) 1 0 0 0 0 0,
  ix_e 174 (.getfield (12)) 3 3 0 2 0 0,
  ix_e 177 (.getfield (69)) 3 8 6 2 0 0,
  ix_e 180 (.iload_n (1)) 1 1 0 0 0 0,
  ix_e 181 .iaload 1 0 0 0 0 0,
  ix_e 182 (.goto (4)) 3 186 0 0 0 0,
  ix_e 185 (.iconst (-1)) 1 0 0 0 0 (-1),
  ix_e 186 .ireturn 1 0 0 0 0 0]
/-- VotedBank$Parser.wordsOf (I)Ljava/lang/String; -/
def ix_t66 : List ix_E := [ix_e 0 (.iload_n (0)) 1 0 0 0 0 0,
  ix_e 1 (.tableswitch (36) (0) (2) #[27, 30, 33]) 27 0 0 0 0 0,
  ix_e 28 (.ldc (75)) 2 1002 1 0 0 0,
  ix_e 30 .areturn 1 0 0 0 0 0,
  ix_e 31 (.ldc (77)) 2 1003 1 0 0 0,
  ix_e 33 .areturn 1 0 0 0 0 0,
  ix_e 34 (.ldc (79)) 2 1004 1 0 0 0,
  ix_e 36 .areturn 1 0 0 0 0 0,
  ix_e 37 (.ldc (81)) 2 1005 1 0 0 0,
  ix_e 39 .areturn 1 0 0 0 0 0]
/-- VotedBank$Parser.startsLine (I)Z -/
def ix_t67 : List ix_E := [ix_e 0 (.iload_n (1)) 1 1 0 0 0 0,
  ix_e 1 (.ifCond .ne (22)) 3 23 0 0 0 0,
  ix_e 4 (.aload_n (0)) 1 0 0 0 0 0,
  ix_e 5 (.getfield (22)) 3 3 3 2 0 0,
  ix_e 8 (.getfield (46)) 3 7 7 0 0 0,
  ix_e 11 (.iconst (2)) 1 0 0 0 0 2,
  ix_e 12 (.if_icmp .gt (7)) 3 19 0 0 0 0,
  ix_e 15 (.iconst (1)) 1 0 0 0 0 1,
  ix_e 16 (.goto (22)) 3 38 0 0 0 0,
  ix_e 19 (.iconst (0)) 1 0 0 0 0 0,
  ix_e 20 (.goto (18)) 3 38 0 0 0 0,
  ix_e 23 (.aload_n (0)) 1 0 0 0 0 0,
  ix_e 24 (.getfield (22)) 3 3 3 2 0 0,
  ix_e 27 (.getfield (46)) 3 7 7 0 0 0,
  ix_e 30 (.ifCond .ne (7)) 3 37 0 0 0 0,
  ix_e 33 (.iconst (1)) 1 0 0 0 0 1,
  ix_e 34 (.goto (4)) 3 38 0 0 0 0,
  ix_e 37 (.iconst (0)) 1 0 0 0 0 0,
  ix_e 38 .ireturn 1 1 0 0 0 0]
/-- VotedBank$Parser.blamed (I)Z -/
def ix_t68 : List ix_E := [ix_e 0 (.aload_n (0)) 1 0 0 0 0 0,
  ix_e 1 (.iload_n (1)) 1 1 0 0 0 0,
  ix_e 2 (.putfield (26)) 3 3 1 0 0 0,
  ix_e 5 (.aload_n (0)) 1 0 0 0 0 0,
  ix_e 6 (.aload_n (0)) 1 0 0 0 0 0,
  ix_e 7 (.getfield (22)) 3 3 3 2 0 0,
  ix_e 10 (.getfield (83)) 3 7 9 0 0 0,
  ix_e 13 (.putfield (18)) 3 3 2 0 0 0,
  ix_e 16 (.iconst (0)) 1 0 0 0 0 0,
  ix_e 17 .ireturn 1 1 0 0 0 0]
/-- VotedBank$Parser.readLaw ()Z -/
def ix_t69 : List ix_E := [ix_e 0 (.aload_n (0)) 1 0 0 0 0 0,
  ix_e 1 (.getfield (22)) 3 3 3 2 0 0,
  ix_e 4 (.getfield (46)) 3 7 7 0 0 0,
  ix_e 7 (.istore_n (1)) 1 1 0 0 0 0,
  ix_e 8 (.aload_n (0)) 1 0 0 0 0 0,
  ix_e 9 (.getfield (12)) 3 3 0 2 0 0,
  ix_e 12 (.getfield (121)) 3 8 0 2 0 0,
  ix_e 15 (.getfield (125)) 3 2 8 0 0 0,
  ix_e 18 (.istore_n (2)) 1 2 0 0 0 0,
  ix_e 19 (.aload_n (0)) 1 0 0 0 0 0,
  ix_e 20 (.getfield (22)) 3 3 3 2 0 0,
  ix_e 23 (.invokevirtual (86)) 3 142 1 0 7 0,
  ix_e 26 (.aload_n (0)) 1 0 0 0 0 0,
  ix_e 27 (.invokevirtual (128)) 3 73 1 1 3 0,
  ix_e 30 (.ifCond .ne (5)) 3 35 0 0 0 0,
  ix_e 33 (.iconst (0)) 1 0 0 0 0 0,
  ix_e 34 .ireturn 1 1 0 0 0 0,
  ix_e 35 (.aload_n (0)) 1 0 0 0 0 0,
  ix_e 36 (.getfield (12)) 3 3 0 2 0 0,
  ix_e 39 (.getfield (121)) 3 8 0 2 0 0,
  ix_e 42 (.getfield (125)) 3 2 8 0 0 0,
  ix_e 45 (.istore_n (3)) 1 3 0 0 0 0,
  ix_e 46 (.aload_n (0)) 1 0 0 0 0 0,
  ix_e 47 (.getfield (22)) 3 3 3 2 0 0,
  ix_e 50 (.getfield (46)) 3 7 7 0 0 0,
  ix_e 53 (.iconst (3)) 1 0 0 0 0 3,
  ix_e 54 (.if_icmp .ne (20)) 3 74 0 0 0 0,
  ix_e 57 (.aload_n (0)) 1 0 0 0 0 0,
  ix_e 58 (.getfield (22)) 3 3 3 2 0 0,
  ix_e 61 (.invokevirtual (86)) 3 142 1 0 7 0,
  ix_e 64 (.aload_n (0)) 1 0 0 0 0 0,
  ix_e 65 (.iconst (0)) 1 0 0 0 0 0,
  ix_e 66 (.invokevirtual (131)) 3 74 2 1 3 0,
  ix_e 69 (.ifCond .ne (5)) 3 74 0 0 0 0,
  ix_e 72 (.iconst (0)) 1 0 0 0 0 0,
  ix_e 73 .ireturn 1 1 0 0 0 0,
  ix_e 74 (.aload_n (0)) 1 0 0 0 0 0,
  ix_e 75 (.getfield (12)) 3 3 0 2 0 0,
  ix_e 78 (.getfield (121)) 3 8 0 2 0 0,
  ix_e 81 (.iload_n (1)) 1 1 0 0 0 0,
  ix_e 82 (.iload_n (2)) 1 2 0 0 0 0,
  ix_e 83 (.iload_n (3)) 1 3 0 0 0 0,
  ix_e 84 (.invokevirtual (134)) 3 57 4 0 2 0,
  ix_e 87 (.aload_n (0)) 1 0 0 0 0 0,
  ix_e 88 (.bipush (59)) 2 0 0 0 0 59,
  ix_e 90 (.invokevirtual (100)) 3 75 2 1 3 0,
  ix_e 93 .ireturn 1 1 0 0 0 0]
/-- VotedBank$Parser.readEar ()Z -/
def ix_t70 : List ix_E := [ix_e 0 (.aload_n (0)) 1 0 0 0 0 0,
  ix_e 1 (.getfield (22)) 3 3 3 2 0 0,
  ix_e 4 (.invokevirtual (86)) 3 142 1 0 7 0,
  ix_e 7 (.aload_n (0)) 1 0 0 0 0 0,
  ix_e 8 (.aload_n (0)) 1 0 0 0 0 0,
  ix_e 9 (.getfield (29)) 3 3 4 0 0 0,
  ix_e 12 (.invokevirtual (96)) 3 76 2 1 3 0,
  ix_e 15 (.istore_n (1)) 1 1 0 0 0 0,
  ix_e 16 (.iload_n (1)) 1 1 0 0 0 0,
  ix_e 17 (.iconst (-1)) 1 0 0 0 0 (-1),
  ix_e 18 (.if_icmp .eq (11)) 3 29 0 0 0 0,
  ix_e 21 (.aload_n (0)) 1 0 0 0 0 0,
  ix_e 22 (.iconst (1)) 1 0 0 0 0 1,
  ix_e 23 (.invokevirtual (100)) 3 75 2 1 3 0,
  ix_e 26 (.ifCond .ne (5)) 3 31 0 0 0 0,
  ix_e 29 (.iconst (0)) 1 0 0 0 0 0,
  ix_e 30 .ireturn 1 1 0 0 0 0,
  ix_e 31 (.aload_n (0)) 1 0 0 0 0 0,
  ix_e 32 (.aload_n (0)) 1 0 0 0 0 0,
  ix_e 33 (.getfield (29)) 3 3 4 0 0 0,
  ix_e 36 (.iconst (1)) 1 0 0 0 0 1,
  ix_e 37 (.iload_n (1)) 1 1 0 0 0 0,
  ix_e 38 .ishl 1 0 0 0 0 0,
  ix_e 39 (.iconst (-1)) 1 0 0 0 0 (-1),
  ix_e 40 .ixor 1 0 0 0 0 0,
  ix_e 41 .iand 1 0 0 0 0 0,
  ix_e 42 (.invokevirtual (96)) 3 76 2 1 3 0,
  ix_e 45 (.istore_n (2)) 1 2 0 0 0 0,
  ix_e 46 (.iload_n (2)) 1 2 0 0 0 0,
  ix_e 47 (.iconst (-1)) 1 0 0 0 0 (-1),
  ix_e 48 (.if_icmp .ne (5)) 3 53 0 0 0 0,
  ix_e 51 (.iconst (0)) 1 0 0 0 0 0,
  ix_e 52 .ireturn 1 1 0 0 0 0,
  ix_e 53 (.aload_n (0)) 1 0 0 0 0 0,
  ix_e 54 (.getfield (12)) 3 3 0 2 0 0,
  ix_e 57 (.getfield (103)) 3 8 1 2 0 0,
  ix_e 60 (.iload_n (1)) 1 1 0 0 0 0,
  ix_e 61 .dup2 1 0 0 0 0 0,
  ix_e 62 .iaload 1 0 0 0 0 0,
  ix_e 63 (.iconst (1)) 1 0 0 0 0 1,
  ix_e 64 (.iload_n (2)) 1 2 0 0 0 0,
  ix_e 65 .ishl 1 0 0 0 0 0,
  ix_e 66 .ior 1 0 0 0 0 0,
  ix_e 67 .iastore 1 0 0 0 0 0,
  ix_e 68 (.aload_n (0)) 1 0 0 0 0 0,
  ix_e 69 (.bipush (59)) 2 0 0 0 0 59,
  ix_e 71 (.invokevirtual (100)) 3 75 2 1 3 0,
  ix_e 74 .ireturn 1 1 0 0 0 0]
/-- VotedBank$Parser.readRow (I)Z -/
def ix_t71 : List ix_E := [ix_e 0 (.aload_n (0)) 1 0 0 0 0 0,
  ix_e 1 (.getfield (22)) 3 3 3 2 0 0,
  ix_e 4 (.invokevirtual (86)) 3 142 1 0 7 0,
  ix_e 7 (.aload_n (0)) 1 0 0 0 0 0,
  ix_e 8 (.aload_n (0)) 1 0 0 0 0 0,
  ix_e 9 (.getfield (29)) 3 3 4 0 0 0,
  ix_e 12 (.invokevirtual (106)) 3 77 2 1 3 0,
  ix_e 15 (.istore_n (2)) 1 2 0 0 0 0,
  ix_e 16 (.iload_n (2)) 1 2 0 0 0 0,
  ix_e 17 (.ifCond .ne (5)) 3 22 0 0 0 0,
  ix_e 20 (.iconst (0)) 1 0 0 0 0 0,
  ix_e 21 .ireturn 1 1 0 0 0 0,
  ix_e 22 (.iconst (0)) 1 0 0 0 0 0,
  ix_e 23 (.istore_n (3)) 1 3 0 0 0 0,
  ix_e 24 (.aload_n (0)) 1 0 0 0 0 0,
  ix_e 25 (.getfield (22)) 3 3 3 2 0 0,
  ix_e 28 (.getfield (46)) 3 7 7 0 0 0,
  ix_e 31 (.iconst (1)) 1 0 0 0 0 1,
  ix_e 32 (.if_icmp .ne (22)) 3 54 0 0 0 0,
  ix_e 35 (.aload_n (0)) 1 0 0 0 0 0,
  ix_e 36 (.getfield (22)) 3 3 3 2 0 0,
  ix_e 39 (.invokevirtual (86)) 3 142 1 0 7 0,
  ix_e 42 (.aload_n (0)) 1 0 0 0 0 0,
  ix_e 43 (.iload_n (2)) 1 2 0 0 0 0,
  ix_e 44 (.invokevirtual (106)) 3 77 2 1 3 0,
  ix_e 47 (.istore_n (3)) 1 3 0 0 0 0,
  ix_e 48 (.iload_n (3)) 1 3 0 0 0 0,
  ix_e 49 (.ifCond .ne (5)) 3 54 0 0 0 0,
  ix_e 52 (.iconst (0)) 1 0 0 0 0 0,
  ix_e 53 .ireturn 1 1 0 0 0 0,
  ix_e 54 (.iload_n (1)) 1 1 0 0 0 0,
  ix_e 55 (.bipush (16)) 2 0 0 0 0 16,
  ix_e 57 (.if_icmp .ge (23)) 3 80 0 0 0 0,
  ix_e 60 (.aload_n (0)) 1 0 0 0 0 0,
  ix_e 61 (.getfield (12)) 3 3 0 2 0 0,
  ix_e 64 (.getfield (109)) 3 8 2 2 0 0,
  ix_e 67 (.iload_n (1)) 1 1 0 0 0 0,
  ix_e 68 (.iload_n (2)) 1 2 0 0 0 0,
  ix_e 69 .iastore 1 0 0 0 0 0,
  ix_e 70 (.aload_n (0)) 1 0 0 0 0 0,
  ix_e 71 (.getfield (12)) 3 3 0 2 0 0,
  ix_e 74 (.getfield (112)) 3 8 3 2 0 0,
  ix_e 77 (.iload_n (1)) 1 1 0 0 0 0,
  ix_e 78 (.iload_n (3)) 1 3 0 0 0 0,
  ix_e 79 .iastore 1 0 0 0 0 0,
  ix_e 80 (.aload_n (0)) 1 0 0 0 0 0,
  ix_e 81 (.bipush (59)) 2 0 0 0 0 59,
  ix_e 83 (.invokevirtual (100)) 3 75 2 1 3 0,
  ix_e 86 .ireturn 1 1 0 0 0 0]
/-- VotedBank$Parser.readSeason ()Z -/
def ix_t72 : List ix_E := [ix_e 0 (.aload_n (0)) 1 0 0 0 0 0,
  ix_e 1 (.getfield (22)) 3 3 3 2 0 0,
  ix_e 4 (.invokevirtual (86)) 3 142 1 0 7 0,
  ix_e 7 (.aload_n (0)) 1 0 0 0 0 0,
  ix_e 8 (.iconst (0)) 1 0 0 0 0 0,
  ix_e 9 (.iconst (5)) 1 0 0 0 0 5,
  ix_e 10 (.invokevirtual (92)) 3 78 3 1 3 0,
  ix_e 13 (.istore_n (1)) 1 1 0 0 0 0,
  ix_e 14 (.iload_n (1)) 1 1 0 0 0 0,
  ix_e 15 (.iconst (-1)) 1 0 0 0 0 (-1),
  ix_e 16 (.if_icmp .eq (11)) 3 27 0 0 0 0,
  ix_e 19 (.aload_n (0)) 1 0 0 0 0 0,
  ix_e 20 (.iconst (1)) 1 0 0 0 0 1,
  ix_e 21 (.invokevirtual (100)) 3 75 2 1 3 0,
  ix_e 24 (.ifCond .ne (5)) 3 29 0 0 0 0,
  ix_e 27 (.iconst (0)) 1 0 0 0 0 0,
  ix_e 28 .ireturn 1 1 0 0 0 0,
  ix_e 29 (.aload_n (0)) 1 0 0 0 0 0,
  ix_e 30 (.iconst (1)) 1 0 0 0 0 1,
  ix_e 31 (.bipush (99)) 2 0 0 0 0 99,
  ix_e 33 (.invokevirtual (92)) 3 78 3 1 3 0,
  ix_e 36 (.istore_n (2)) 1 2 0 0 0 0,
  ix_e 37 (.iload_n (2)) 1 2 0 0 0 0,
  ix_e 38 (.iconst (-1)) 1 0 0 0 0 (-1),
  ix_e 39 (.if_icmp .eq (11)) 3 50 0 0 0 0,
  ix_e 42 (.aload_n (0)) 1 0 0 0 0 0,
  ix_e 43 (.iconst (2)) 1 0 0 0 0 2,
  ix_e 44 (.invokevirtual (100)) 3 75 2 1 3 0,
  ix_e 47 (.ifCond .ne (5)) 3 52 0 0 0 0,
  ix_e 50 (.iconst (0)) 1 0 0 0 0 0,
  ix_e 51 .ireturn 1 1 0 0 0 0,
  ix_e 52 (.aload_n (0)) 1 0 0 0 0 0,
  ix_e 53 (.iconst (0)) 1 0 0 0 0 0,
  ix_e 54 (.iconst (5)) 1 0 0 0 0 5,
  ix_e 55 (.invokevirtual (92)) 3 78 3 1 3 0,
  ix_e 58 (.istore_n (3)) 1 3 0 0 0 0,
  ix_e 59 (.iload_n (3)) 1 3 0 0 0 0,
  ix_e 60 (.iconst (-1)) 1 0 0 0 0 (-1),
  ix_e 61 (.if_icmp .ne (5)) 3 66 0 0 0 0,
  ix_e 64 (.iconst (0)) 1 0 0 0 0 0,
  ix_e 65 .ireturn 1 1 0 0 0 0,
  ix_e 66 (.aload_n (0)) 1 0 0 0 0 0,
  ix_e 67 (.getfield (12)) 3 3 0 2 0 0,
  ix_e 70 (.getfield (115)) 3 8 4 2 0 0,
  ix_e 73 (.iload_n (1)) 1 1 0 0 0 0,
  ix_e 74 .iaload 1 0 0 0 0 0,
  ix_e 75 (.ifCond .ne (23)) 3 98 0 0 0 0,
  ix_e 78 (.aload_n (0)) 1 0 0 0 0 0,
  ix_e 79 (.getfield (12)) 3 3 0 2 0 0,
  ix_e 82 (.getfield (115)) 3 8 4 2 0 0,
  ix_e 85 (.iload_n (1)) 1 1 0 0 0 0,
  ix_e 86 (.iload_n (2)) 1 2 0 0 0 0,
  ix_e 87 .iastore 1 0 0 0 0 0,
  ix_e 88 (.aload_n (0)) 1 0 0 0 0 0,
  ix_e 89 (.getfield (12)) 3 3 0 2 0 0,
  ix_e 92 (.getfield (118)) 3 8 5 2 0 0,
  ix_e 95 (.iload_n (1)) 1 1 0 0 0 0,
  ix_e 96 (.iload_n (3)) 1 3 0 0 0 0,
  ix_e 97 .iastore 1 0 0 0 0 0,
  ix_e 98 (.aload_n (0)) 1 0 0 0 0 0,
  ix_e 99 (.bipush (59)) 2 0 0 0 0 59,
  ix_e 101 (.invokevirtual (100)) 3 75 2 1 3 0,
  ix_e 104 .ireturn 1 1 0 0 0 0]
/-- VotedBank$Parser.readSum ()Z -/
def ix_t73 : List ix_E := [ix_e 0 (.bipush (32)) 2 0 0 0 0 32,
  ix_e 2 (.istore_n (1)) 1 1 0 0 0 0,
  ix_e 3 (.bipush (32)) 2 0 0 0 0 32,
  ix_e 5 (.istore_n (2)) 1 2 0 0 0 0,
  ix_e 6 (.iconst (0)) 1 0 0 0 0 0,
  ix_e 7 (.istore_n (3)) 1 3 0 0 0 0,
  ix_c 8 (.iload_n (3)) 1 [true, true, true, true] 3 0 0 0 0,
  ix_e 9 (.sipush (400)) 3 0 0 0 0 400,
  ix_e 12 (.if_icmp .ge (102)) 3 114 0 0 0 0,
  ix_e 15 (.aload_n (0)) 1 0 0 0 0 0,
  ix_e 16 (.iload_n (1)) 1 1 0 0 0 0,
  ix_e 17 (.invokevirtual (138)) 3 79 2 1 3 0,
  ix_e 20 (.ifCond .eq (94)) 3 114 0 0 0 0,
  ix_e 23 (.iload_n (1)) 1 1 0 0 0 0,
  ix_e 24 (.bipush (42)) 2 0 0 0 0 42,
  ix_e 26 (.if_icmp .eq (9)) 3 35 0 0 0 0,
  ix_e 29 (.iload_n (1)) 1 1 0 0 0 0,
  ix_e 30 (.bipush (47)) 2 0 0 0 0 47,
  ix_e 32 (.if_icmp .ne (15)) 3 47 0 0 0 0,
  ix_c 35 (.aload_n (0)) 1 [true, true, true, true] 0 0 0 0 0,
  ix_e 36 (.getfield (12)) 3 3 0 2 0 0,
  ix_e 39 (.getfield (121)) 3 8 0 2 0 0,
  ix_e 42 (.iload_n (1)) 1 1 0 0 0 0,
  ix_e 43 (.iconst (0)) 1 0 0 0 0 0,
  ix_e 44 (.invokevirtual (141)) 3 61 3 0 2 0,
  ix_c 47 (.aload_n (0)) 1 [true, false, true, true] 0 0 0 0 0,
  ix_e 48 (.getfield (22)) 3 3 3 2 0 0,
  ix_e 51 (.getfield (46)) 3 7 7 0 0 0,
  ix_e 54 (.istore_n (1)) 1 1 0 0 0 0,
  ix_e 55 (.iload_n (1)) 1 1 0 0 0 0,
  ix_e 56 (.bipush (42)) 2 0 0 0 0 42,
  ix_e 58 (.if_icmp .eq (43)) 3 101 0 0 0 0,
  ix_e 61 (.iload_n (1)) 1 1 0 0 0 0,
  ix_e 62 (.bipush (47)) 2 0 0 0 0 47,
  ix_e 64 (.if_icmp .eq (37)) 3 101 0 0 0 0,
  ix_e 67 (.iload_n (2)) 1 2 0 0 0 0,
  ix_e 68 (.bipush (32)) 2 0 0 0 0 32,
  ix_e 70 (.if_icmp .eq (15)) 3 85 0 0 0 0,
  ix_e 73 (.aload_n (0)) 1 0 0 0 0 0,
  ix_e 74 (.getfield (12)) 3 3 0 2 0 0,
  ix_e 77 (.getfield (121)) 3 8 0 2 0 0,
  ix_e 80 (.iload_n (2)) 1 2 0 0 0 0,
  ix_e 81 (.iconst (0)) 1 0 0 0 0 0,
  ix_e 82 (.invokevirtual (141)) 3 61 3 0 2 0,
  ix_c 85 (.iload_n (1)) 1 [true, true, false, true] 1 0 0 0 0,
  ix_e 86 (.bipush (43)) 2 0 0 0 0 43,
  ix_e 88 (.if_icmp .eq (11)) 3 99 0 0 0 0,
  ix_e 91 (.iload_n (1)) 1 1 0 0 0 0,
  ix_e 92 (.bipush (45)) 2 0 0 0 0 45,
  ix_e 94 (.if_icmp .eq (5)) 3 99 0 0 0 0,
  ix_e 97 (.iconst (1)) 1 0 0 0 0 1,
  ix_e 98 .ireturn 1 1 0 0 0 0,
  ix_c 99 (.iload_n (1)) 1 [true, true, false, true] 1 0 0 0 0,
  ix_e 100 (.istore_n (2)) 1 2 0 0 0 0,
  ix_c 101 (.aload_n (0)) 1 [true, true, true, true] 0 0 0 0 0,
  ix_e 102 (.getfield (22)) 3 3 3 2 0 0,
  ix_e 105 (.invokevirtual (86)) 3 142 1 0 7 0,
  ix_e 108 (.iinc 3 (1)) 3 3 0 0 0 1,
  ix_e 111 (.goto (-103)) 3 8 0 0 0 0,
  ix_c 114 (.iconst (0)) 1 [false, false, false, false] 0 0 0 0 0,
  ix_e 115 .ireturn 1 1 0 0 0 0]
/-- VotedBank$Parser.readConditions (I)Z -/
def ix_t74 : List ix_E := [ix_e 0 (.iconst (0)) 1 0 0 0 0 0,
  ix_e 1 (.istore_n (2)) 1 2 0 0 0 0,
  ix_e 2 (.iconst (0)) 1 0 0 0 0 0,
  ix_e 3 (.istore_n (3)) 1 3 0 0 0 0,
  ix_e 4 (.iconst (0)) 1 0 0 0 0 0,
  ix_e 5 (.istore (4)) 2 4 0 0 0 0,
  ix_c 7 (.iload (4)) 2 [true, true, true, true, true] 4 0 0 0 0,
  ix_e 9 (.sipush (400)) 3 0 0 0 0 400,
  ix_e 12 (.if_icmp .ge (120)) 3 132 0 0 0 0,
  ix_e 15 (.aload_n (0)) 1 0 0 0 0 0,
  ix_e 16 (.iload_n (1)) 1 1 0 0 0 0,
  ix_e 17 (.invokevirtual (145)) 3 80 2 1 3 0,
  ix_e 20 (.ifCond .ne (5)) 3 25 0 0 0 0,
  ix_e 23 (.iconst (0)) 1 0 0 0 0 0,
  ix_e 24 .ireturn 1 1 0 0 0 0,
  ix_e 25 (.iload_n (2)) 1 2 0 0 0 0,
  ix_e 26 (.ifCond .eq (15)) 3 41 0 0 0 0,
  ix_e 29 (.aload_n (0)) 1 0 0 0 0 0,
  ix_e 30 (.getfield (12)) 3 3 0 2 0 0,
  ix_e 33 (.getfield (121)) 3 8 0 2 0 0,
  ix_e 36 (.iconst (5)) 1 0 0 0 0 5,
  ix_e 37 (.iconst (0)) 1 0 0 0 0 0,
  ix_e 38 (.invokevirtual (141)) 3 61 3 0 2 0,
  ix_c 41 (.aload_n (0)) 1 [true, true, false, true, true] 0 0 0 0 0,
  ix_e 42 (.getfield (22)) 3 3 3 2 0 0,
  ix_e 45 (.getfield (46)) 3 7 7 0 0 0,
  ix_e 48 (.iconst (5)) 1 0 0 0 0 5,
  ix_e 49 (.if_icmp .ne (7)) 3 56 0 0 0 0,
  ix_e 52 (.iconst (1)) 1 0 0 0 0 1,
  ix_e 53 (.goto (4)) 3 57 0 0 0 0,
  ix_e 56 (.iconst (0)) 1 0 0 0 0 0,
  ix_e 57 (.istore_n (2)) 1 2 0 0 0 0,
  ix_e 58 (.iload_n (2)) 1 2 0 0 0 0,
  ix_e 59 (.ifCond .ne (36)) 3 95 0 0 0 0,
  ix_e 62 (.iload_n (3)) 1 3 0 0 0 0,
  ix_e 63 (.ifCond .eq (15)) 3 78 0 0 0 0,
  ix_e 66 (.aload_n (0)) 1 0 0 0 0 0,
  ix_e 67 (.getfield (12)) 3 3 0 2 0 0,
  ix_e 70 (.getfield (121)) 3 8 0 2 0 0,
  ix_e 73 (.iconst (4)) 1 0 0 0 0 4,
  ix_e 74 (.iconst (0)) 1 0 0 0 0 0,
  ix_e 75 (.invokevirtual (141)) 3 61 3 0 2 0,
  ix_c 78 (.aload_n (0)) 1 [true, true, true, false, true] 0 0 0 0 0,
  ix_e 79 (.getfield (22)) 3 3 3 2 0 0,
  ix_e 82 (.getfield (46)) 3 7 7 0 0 0,
  ix_e 85 (.iconst (4)) 1 0 0 0 0 4,
  ix_e 86 (.if_icmp .ne (7)) 3 93 0 0 0 0,
  ix_e 89 (.iconst (1)) 1 0 0 0 0 1,
  ix_e 90 (.goto (4)) 3 94 0 0 0 0,
  ix_e 93 (.iconst (0)) 1 0 0 0 0 0,
  ix_e 94 (.istore_n (3)) 1 3 0 0 0 0,
  ix_c 95 (.aload_n (0)) 1 [true, true, true, true, true] 0 0 0 0 0,
  ix_e 96 (.getfield (22)) 3 3 3 2 0 0,
  ix_e 99 (.getfield (46)) 3 7 7 0 0 0,
  ix_e 102 (.iconst (5)) 1 0 0 0 0 5,
  ix_e 103 (.if_icmp .eq (16)) 3 119 0 0 0 0,
  ix_e 106 (.aload_n (0)) 1 0 0 0 0 0,
  ix_e 107 (.getfield (22)) 3 3 3 2 0 0,
  ix_e 110 (.getfield (46)) 3 7 7 0 0 0,
  ix_e 113 (.iconst (4)) 1 0 0 0 0 4,
  ix_e 114 (.if_icmp .eq (5)) 3 119 0 0 0 0,
  ix_e 117 (.iconst (1)) 1 0 0 0 0 1,
  ix_e 118 .ireturn 1 1 0 0 0 0,
  ix_c 119 (.aload_n (0)) 1 [true, true, true, true, true] 0 0 0 0 0,
  ix_e 120 (.getfield (22)) 3 3 3 2 0 0,
  ix_e 123 (.invokevirtual (86)) 3 142 1 0 7 0,
  ix_e 126 (.iinc 4 (1)) 3 4 0 0 0 1,
  ix_e 129 (.goto (-122)) 3 7 0 0 0 0,
  ix_e 132 (.iconst (0)) 1 0 0 0 0 0,
  ix_e 133 .ireturn 1 1 0 0 0 0]
/-- VotedBank$Parser.expect (I)Z -/
def ix_t75 : List ix_E := [ix_e 0 (.aload_n (0)) 1 0 0 0 0 0,
  ix_e 1 (.getfield (22)) 3 3 3 2 0 0,
  ix_e 4 (.getfield (46)) 3 7 7 0 0 0,
  ix_e 7 (.iload_n (1)) 1 1 0 0 0 0,
  ix_e 8 (.if_icmp .eq (9)) 3 17 0 0 0 0,
  ix_e 11 (.aload_n (0)) 1 0 0 0 0 0,
  ix_e 12 (.iconst (1)) 1 0 0 0 0 1,
  ix_e 13 (.invokevirtual (53)) 3 68 2 1 3 0,
  ix_e 16 .ireturn 1 1 0 0 0 0,
  ix_e 17 (.aload_n (0)) 1 0 0 0 0 0,
  ix_e 18 (.getfield (22)) 3 3 3 2 0 0,
  ix_e 21 (.invokevirtual (86)) 3 142 1 0 7 0,
  ix_e 24 (.iconst (1)) 1 0 0 0 0 1,
  ix_e 25 .ireturn 1 1 0 0 0 0]
/-- VotedBank$Parser.expectOneOf (I)I -/
def ix_t76 : List ix_E := [ix_e 0 (.aload_n (0)) 1 0 0 0 0 0,
  ix_e 1 (.getfield (22)) 3 3 3 2 0 0,
  ix_e 4 (.getfield (46)) 3 7 7 0 0 0,
  ix_e 7 (.bipush (33)) 2 0 0 0 0 33,
  ix_e 9 (.if_icmp .ne (37)) 3 46 0 0 0 0,
  ix_e 12 (.aload_n (0)) 1 0 0 0 0 0,
  ix_e 13 (.getfield (22)) 3 3 3 2 0 0,
  ix_e 16 (.getfield (89)) 3 7 8 0 0 0,
  ix_e 19 (.bipush (12)) 2 0 0 0 0 12,
  ix_e 21 (.if_icmp .ge (17)) 3 38 0 0 0 0,
  ix_e 24 (.iload_n (1)) 1 1 0 0 0 0,
  ix_e 25 (.aload_n (0)) 1 0 0 0 0 0,
  ix_e 26 (.getfield (22)) 3 3 3 2 0 0,
  ix_e 29 (.getfield (89)) 3 7 8 0 0 0,
  ix_e 32 .ishr 1 0 0 0 0 0,
  ix_e 33 (.iconst (1)) 1 0 0 0 0 1,
  ix_e 34 .iand 1 0 0 0 0 0,
  ix_e 35 (.ifCond .ne (11)) 3 46 0 0 0 0,
  ix_e 38 (.aload_n (0)) 1 0 0 0 0 0,
  ix_e 39 (.iconst (2)) 1 0 0 0 0 2,
  ix_e 40 (.invokevirtual (53)) 3 68 2 1 3 0,
  ix_e 43 .pop 1 0 0 0 0 0,
  ix_e 44 (.iconst (-1)) 1 0 0 0 0 (-1),
  ix_e 45 .ireturn 1 0 0 0 0 0,
  ix_e 46 (.aload_n (0)) 1 0 0 0 0 0,
  ix_e 47 (.iconst (0)) 1 0 0 0 0 0,
  ix_e 48 (.bipush (11)) 2 0 0 0 0 11,
  ix_e 50 (.invokevirtual (92)) 3 78 3 1 3 0,
  ix_e 53 .ireturn 1 0 0 0 0 0]
/-- VotedBank$Parser.expectSome (I)I -/
def ix_t77 : List ix_E := [ix_e 0 (.iconst (0)) 1 0 0 0 0 0,
  ix_e 1 (.istore_n (2)) 1 2 0 0 0 0,
  ix_e 2 (.iconst (0)) 1 0 0 0 0 0,
  ix_e 3 (.istore_n (3)) 1 3 0 0 0 0,
  ix_c 4 (.iload_n (3)) 1 [true, true, true, true, false] 3 0 0 0 0,
  ix_e 5 (.bipush (12)) 2 0 0 0 0 12,
  ix_e 7 (.if_icmp .gt (53)) 3 60 0 0 0 0,
  ix_e 10 (.iload_n (3)) 1 3 0 0 0 0,
  ix_e 11 (.ifCond .le (17)) 3 28 0 0 0 0,
  ix_e 14 (.aload_n (0)) 1 0 0 0 0 0,
  ix_e 15 (.getfield (22)) 3 3 3 2 0 0,
  ix_e 18 (.getfield (46)) 3 7 7 0 0 0,
  ix_e 21 (.bipush (33)) 2 0 0 0 0 33,
  ix_e 23 (.if_icmp .eq (5)) 3 28 0 0 0 0,
  ix_e 26 (.iload_n (2)) 1 2 0 0 0 0,
  ix_e 27 .ireturn 1 0 0 0 0 0,
  ix_e 28 (.aload_n (0)) 1 0 0 0 0 0,
  ix_e 29 (.iload_n (1)) 1 1 0 0 0 0,
  ix_e 30 (.iload_n (2)) 1 2 0 0 0 0,
  ix_e 31 (.iconst (-1)) 1 0 0 0 0 (-1),
  ix_e 32 .ixor 1 0 0 0 0 0,
  ix_e 33 .iand 1 0 0 0 0 0,
  ix_e 34 (.invokevirtual (96)) 3 76 2 1 3 0,
  ix_e 37 (.istore (4)) 2 4 0 0 0 0,
  ix_e 39 (.iload (4)) 2 4 0 0 0 0,
  ix_e 41 (.iconst (-1)) 1 0 0 0 0 (-1),
  ix_e 42 (.if_icmp .ne (5)) 3 47 0 0 0 0,
  ix_e 45 (.iconst (0)) 1 0 0 0 0 0,
  ix_e 46 .ireturn 1 0 0 0 0 0,
  ix_e 47 (.iload_n (2)) 1 2 0 0 0 0,
  ix_e 48 (.iconst (1)) 1 0 0 0 0 1,
  ix_e 49 (.iload (4)) 2 4 0 0 0 0,
  ix_e 51 .ishl 1 0 0 0 0 0,
  ix_e 52 .ior 1 0 0 0 0 0,
  ix_e 53 (.istore_n (2)) 1 2 0 0 0 0,
  ix_e 54 (.iinc 3 (1)) 3 3 0 0 0 1,
  ix_e 57 (.goto (-53)) 3 4 0 0 0 0,
  ix_e 60 (.iload_n (2)) 1 2 0 0 0 0,
  ix_e 61 .ireturn 1 0 0 0 0 0]
/-- VotedBank$Parser.expectNumber (II)I -/
def ix_t78 : List ix_E := [ix_e 0 (.aload_n (0)) 1 0 0 0 0 0,
  ix_e 1 (.getfield (22)) 3 3 3 2 0 0,
  ix_e 4 (.getfield (46)) 3 7 7 0 0 0,
  ix_e 7 (.bipush (33)) 2 0 0 0 0 33,
  ix_e 9 (.if_icmp .eq (11)) 3 20 0 0 0 0,
  ix_e 12 (.aload_n (0)) 1 0 0 0 0 0,
  ix_e 13 (.iconst (1)) 1 0 0 0 0 1,
  ix_e 14 (.invokevirtual (53)) 3 68 2 1 3 0,
  ix_e 17 .pop 1 0 0 0 0 0,
  ix_e 18 (.iconst (-1)) 1 0 0 0 0 (-1),
  ix_e 19 .ireturn 1 0 0 0 0 0,
  ix_e 20 (.aload_n (0)) 1 0 0 0 0 0,
  ix_e 21 (.getfield (22)) 3 3 3 2 0 0,
  ix_e 24 (.getfield (89)) 3 7 8 0 0 0,
  ix_e 27 (.istore_n (3)) 1 3 0 0 0 0,
  ix_e 28 (.iload_n (3)) 1 3 0 0 0 0,
  ix_e 29 (.iload_n (1)) 1 1 0 0 0 0,
  ix_e 30 (.if_icmp .lt (8)) 3 38 0 0 0 0,
  ix_e 33 (.iload_n (3)) 1 3 0 0 0 0,
  ix_e 34 (.iload_n (2)) 1 2 0 0 0 0,
  ix_e 35 (.if_icmp .le (11)) 3 46 0 0 0 0,
  ix_e 38 (.aload_n (0)) 1 0 0 0 0 0,
  ix_e 39 (.iconst (2)) 1 0 0 0 0 2,
  ix_e 40 (.invokevirtual (53)) 3 68 2 1 3 0,
  ix_e 43 .pop 1 0 0 0 0 0,
  ix_e 44 (.iconst (-1)) 1 0 0 0 0 (-1),
  ix_e 45 .ireturn 1 0 0 0 0 0,
  ix_e 46 (.aload_n (0)) 1 0 0 0 0 0,
  ix_e 47 (.getfield (22)) 3 3 3 2 0 0,
  ix_e 50 (.invokevirtual (86)) 3 142 1 0 7 0,
  ix_e 53 (.iload_n (3)) 1 3 0 0 0 0,
  ix_e 54 .ireturn 1 0 0 0 0 0]
/-- VotedBank$Parser.readOperand (I)Z -/
def ix_t79 : List ix_E := [ix_e 0 (.aload_n (0)) 1 0 0 0 0 0,
  ix_e 1 (.getfield (22)) 3 3 3 2 0 0,
  ix_e 4 (.getfield (46)) 3 7 7 0 0 0,
  ix_e 7 (.bipush (33)) 2 0 0 0 0 33,
  ix_e 9 (.if_icmp .ne (7)) 3 16 0 0 0 0,
  ix_e 12 (.iconst (1)) 1 0 0 0 0 1,
  ix_e 13 (.goto (4)) 3 17 0 0 0 0,
  ix_e 16 (.iconst (0)) 1 0 0 0 0 0,
  ix_e 17 (.istore_n (2)) 1 2 0 0 0 0,
  ix_e 18 (.aload_n (0)) 1 0 0 0 0 0,
  ix_e 19 (.getfield (22)) 3 3 3 2 0 0,
  ix_e 22 (.getfield (46)) 3 7 7 0 0 0,
  ix_e 25 (.bipush (7)) 2 0 0 0 0 7,
  ix_e 27 (.if_icmp .lt (19)) 3 46 0 0 0 0,
  ix_e 30 (.aload_n (0)) 1 0 0 0 0 0,
  ix_e 31 (.getfield (22)) 3 3 3 2 0 0,
  ix_e 34 (.getfield (46)) 3 7 7 0 0 0,
  ix_e 37 (.bipush (17)) 2 0 0 0 0 17,
  ix_e 39 (.if_icmp .gt (7)) 3 46 0 0 0 0,
  ix_e 42 (.iconst (1)) 1 0 0 0 0 1,
  ix_e 43 (.goto (4)) 3 47 0 0 0 0,
  ix_c 46 (.iconst (0)) 1 [true, true, true, false] 0 0 0 0 0,
  ix_e 47 (.istore_n (3)) 1 3 0 0 0 0,
  ix_e 48 (.iload_n (2)) 1 2 0 0 0 0,
  ix_e 49 (.ifCond .ne (19)) 3 68 0 0 0 0,
  ix_e 52 (.iload_n (1)) 1 1 0 0 0 0,
  ix_e 53 (.bipush (47)) 2 0 0 0 0 47,
  ix_e 55 (.if_icmp .eq (7)) 3 62 0 0 0 0,
  ix_e 58 (.iload_n (3)) 1 3 0 0 0 0,
  ix_e 59 (.ifCond .ne (9)) 3 68 0 0 0 0,
  ix_c 62 (.aload_n (0)) 1 [true, false, false, false] 0 0 0 0 0,
  ix_e 63 (.iconst (1)) 1 0 0 0 0 1,
  ix_e 64 (.invokevirtual (53)) 3 68 2 1 3 0,
  ix_e 67 .ireturn 1 1 0 0 0 0,
  ix_c 68 (.iload_n (1)) 1 [true, true, false, false] 1 0 0 0 0,
  ix_e 69 (.bipush (47)) 2 0 0 0 0 47,
  ix_e 71 (.if_icmp .ne (19)) 3 90 0 0 0 0,
  ix_e 74 (.aload_n (0)) 1 0 0 0 0 0,
  ix_e 75 (.getfield (22)) 3 3 3 2 0 0,
  ix_e 78 (.getfield (89)) 3 7 8 0 0 0,
  ix_e 81 (.ifCond .ne (9)) 3 90 0 0 0 0,
  ix_e 84 (.aload_n (0)) 1 0 0 0 0 0,
  ix_e 85 (.iconst (2)) 1 0 0 0 0 2,
  ix_e 86 (.invokevirtual (53)) 3 68 2 1 3 0,
  ix_e 89 .ireturn 1 1 0 0 0 0,
  ix_c 90 (.aload_n (0)) 1 [true, false, false, false] 0 0 0 0 0,
  ix_e 91 (.getfield (12)) 3 3 0 2 0 0,
  ix_e 94 (.getfield (121)) 3 8 0 2 0 0,
  ix_e 97 (.aload_n (0)) 1 0 0 0 0 0,
  ix_e 98 (.getfield (22)) 3 3 3 2 0 0,
  ix_e 101 (.getfield (46)) 3 7 7 0 0 0,
  ix_e 104 (.aload_n (0)) 1 0 0 0 0 0,
  ix_e 105 (.getfield (22)) 3 3 3 2 0 0,
  ix_e 108 (.getfield (89)) 3 7 8 0 0 0,
  ix_e 111 (.invokevirtual (141)) 3 61 3 0 2 0,
  ix_e 114 (.aload_n (0)) 1 0 0 0 0 0,
  ix_e 115 (.getfield (22)) 3 3 3 2 0 0,
  ix_e 118 (.invokevirtual (86)) 3 142 1 0 7 0,
  ix_e 121 (.iconst (1)) 1 0 0 0 0 1,
  ix_e 122 .ireturn 1 1 0 0 0 0]
/-- VotedBank$Parser.readCondition (I)Z -/
def ix_t80 : List ix_E := [ix_e 0 (.aload_n (0)) 1 0 0 0 0 0,
  ix_e 1 (.getfield (22)) 3 3 3 2 0 0,
  ix_e 4 (.getfield (46)) 3 7 7 0 0 0,
  ix_e 7 (.bipush (40)) 2 0 0 0 0 40,
  ix_e 9 (.if_icmp .eq (15)) 3 24 0 0 0 0,
  ix_e 12 (.aload_n (0)) 1 0 0 0 0 0,
  ix_e 13 (.getfield (22)) 3 3 3 2 0 0,
  ix_e 16 (.getfield (46)) 3 7 7 0 0 0,
  ix_e 19 (.bipush (6)) 2 0 0 0 0 6,
  ix_e 21 (.if_icmp .ne (25)) 3 46 0 0 0 0,
  ix_e 24 (.iload_n (1)) 1 1 0 0 0 0,
  ix_e 25 (.bipush (8)) 2 0 0 0 0 8,
  ix_e 27 (.if_icmp .ge (13)) 3 40 0 0 0 0,
  ix_e 30 (.aload_n (0)) 1 0 0 0 0 0,
  ix_e 31 (.iload_n (1)) 1 1 0 0 0 0,
  ix_e 32 (.iconst (1)) 1 0 0 0 0 1,
  ix_e 33 .iadd 1 0 0 0 0 0,
  ix_e 34 (.invokevirtual (148)) 3 81 2 1 3 0,
  ix_e 37 (.goto (8)) 3 45 0 0 0 0,
  ix_e 40 (.aload_n (0)) 1 0 0 0 0 0,
  ix_e 41 (.iconst (3)) 1 0 0 0 0 3,
  ix_e 42 (.invokevirtual (53)) 3 68 2 1 3 0,
  ix_e 45 .ireturn 1 1 0 0 0 0,
  ix_e 46 (.aload_n (0)) 1 0 0 0 0 0,
  ix_e 47 (.invokevirtual (128)) 3 73 1 1 3 0,
  ix_e 50 (.ifCond .ne (5)) 3 55 0 0 0 0,
  ix_e 53 (.iconst (0)) 1 0 0 0 0 0,
  ix_e 54 .ireturn 1 1 0 0 0 0,
  ix_e 55 (.aload_n (0)) 1 0 0 0 0 0,
  ix_e 56 (.getfield (22)) 3 3 3 2 0 0,
  ix_e 59 (.getfield (46)) 3 7 7 0 0 0,
  ix_e 62 (.istore_n (2)) 1 2 0 0 0 0,
  ix_e 63 (.iload_n (2)) 1 2 0 0 0 0,
  ix_e 64 (.bipush (60)) 2 0 0 0 0 60,
  ix_e 66 (.if_icmp .eq (21)) 3 87 0 0 0 0,
  ix_e 69 (.iload_n (2)) 1 2 0 0 0 0,
  ix_e 70 (.bipush (61)) 2 0 0 0 0 61,
  ix_e 72 (.if_icmp .eq (15)) 3 87 0 0 0 0,
  ix_e 75 (.iload_n (2)) 1 2 0 0 0 0,
  ix_e 76 (.bipush (62)) 2 0 0 0 0 62,
  ix_e 78 (.if_icmp .eq (9)) 3 87 0 0 0 0,
  ix_e 81 (.aload_n (0)) 1 0 0 0 0 0,
  ix_e 82 (.iconst (1)) 1 0 0 0 0 1,
  ix_e 83 (.invokevirtual (53)) 3 68 2 1 3 0,
  ix_e 86 .ireturn 1 1 0 0 0 0,
  ix_e 87 (.aload_n (0)) 1 0 0 0 0 0,
  ix_e 88 (.getfield (22)) 3 3 3 2 0 0,
  ix_e 91 (.invokevirtual (86)) 3 142 1 0 7 0,
  ix_e 94 (.aload_n (0)) 1 0 0 0 0 0,
  ix_e 95 (.invokevirtual (128)) 3 73 1 1 3 0,
  ix_e 98 (.ifCond .ne (5)) 3 103 0 0 0 0,
  ix_e 101 (.iconst (0)) 1 0 0 0 0 0,
  ix_e 102 .ireturn 1 1 0 0 0 0,
  ix_e 103 (.aload_n (0)) 1 0 0 0 0 0,
  ix_e 104 (.getfield (12)) 3 3 0 2 0 0,
  ix_e 107 (.getfield (121)) 3 8 0 2 0 0,
  ix_e 110 (.iload_n (2)) 1 2 0 0 0 0,
  ix_e 111 (.iconst (0)) 1 0 0 0 0 0,
  ix_e 112 (.invokevirtual (141)) 3 61 3 0 2 0,
  ix_e 115 (.iconst (1)) 1 0 0 0 0 1,
  ix_e 116 .ireturn 1 1 0 0 0 0]
/-- VotedBank$Parser.readOpened (I)Z -/
def ix_t81 : List ix_E := [ix_e 0 (.aload_n (0)) 1 0 0 0 0 0,
  ix_e 1 (.getfield (22)) 3 3 3 2 0 0,
  ix_e 4 (.getfield (46)) 3 7 7 0 0 0,
  ix_e 7 (.bipush (40)) 2 0 0 0 0 40,
  ix_e 9 (.if_icmp .ne (7)) 3 16 0 0 0 0,
  ix_e 12 (.iconst (1)) 1 0 0 0 0 1,
  ix_e 13 (.goto (4)) 3 17 0 0 0 0,
  ix_e 16 (.iconst (0)) 1 0 0 0 0 0,
  ix_e 17 (.istore_n (2)) 1 2 0 0 0 0,
  ix_e 18 (.aload_n (0)) 1 0 0 0 0 0,
  ix_e 19 (.getfield (22)) 3 3 3 2 0 0,
  ix_e 22 (.invokevirtual (86)) 3 142 1 0 7 0,
  ix_e 25 (.iload_n (2)) 1 2 0 0 0 0,
  ix_e 26 (.ifCond .eq (26)) 3 52 0 0 0 0,
  ix_e 29 (.aload_n (0)) 1 0 0 0 0 0,
  ix_e 30 (.iload_n (1)) 1 1 0 0 0 0,
  ix_e 31 (.invokevirtual (131)) 3 74 2 1 3 0,
  ix_e 34 (.ifCond .eq (16)) 3 50 0 0 0 0,
  ix_e 37 (.aload_n (0)) 1 0 0 0 0 0,
  ix_e 38 (.bipush (41)) 2 0 0 0 0 41,
  ix_e 40 (.invokevirtual (100)) 3 75 2 1 3 0,
  ix_e 43 (.ifCond .eq (7)) 3 50 0 0 0 0,
  ix_e 46 (.iconst (1)) 1 0 0 0 0 1,
  ix_e 47 (.goto (4)) 3 51 0 0 0 0,
  ix_e 50 (.iconst (0)) 1 0 0 0 0 0,
  ix_e 51 .ireturn 1 1 0 0 0 0,
  ix_e 52 (.aload_n (0)) 1 0 0 0 0 0,
  ix_e 53 (.iload_n (1)) 1 1 0 0 0 0,
  ix_e 54 (.invokevirtual (145)) 3 80 2 1 3 0,
  ix_e 57 (.ifCond .ne (5)) 3 62 0 0 0 0,
  ix_e 60 (.iconst (0)) 1 0 0 0 0 0,
  ix_e 61 .ireturn 1 1 0 0 0 0,
  ix_e 62 (.aload_n (0)) 1 0 0 0 0 0,
  ix_e 63 (.getfield (12)) 3 3 0 2 0 0,
  ix_e 66 (.getfield (121)) 3 8 0 2 0 0,
  ix_e 69 (.bipush (6)) 2 0 0 0 0 6,
  ix_e 71 (.iconst (0)) 1 0 0 0 0 0,
  ix_e 72 (.invokevirtual (141)) 3 61 3 0 2 0,
  ix_e 75 (.iconst (1)) 1 0 0 0 0 1,
  ix_e 76 .ireturn 1 1 0 0 0 0]
/-- VotedBank$Past.<init> ()V -/
def ix_t82 : List ix_E := [ix_e 0 (.aload_n (0)) 1 0 0 0 0 0,
  ix_e 1 (.invokespecial (1)) 3 0 0 2 0 0,
  ix_e 4 (.aload_n (0)) 1 0 0 0 0 0,
  ix_e 5 (.bipush (6)) 2 0 0 0 0 6,
  ix_e 7 (.anewarray (9)) 3 0 0 0 0 0,
  ix_e 10 (.putfield (11)) 3 4 0 2 0 0,
  ix_e 13 (.aload_n (0)) 1 0 0 0 0 0,
  ix_e 14 (.bipush (6)) 2 0 0 0 0 6,
  ix_e 16 (.newarray .int) 2 0 0 0 0 0,
  ix_e 18 (.putfield (15)) 3 4 1 2 0 0,
  ix_e 21 (.iconst (0)) 1 0 0 0 0 0,
  ix_e 22 (.istore_n (1)) 1 1 0 0 0 0,
  ix_c 23 (.iload_n (1)) 1 [true, true] 1 0 0 0 0,
  ix_e 24 (.bipush (6)) 2 0 0 0 0 6,
  ix_e 26 (.if_icmp .ge (22)) 3 48 0 0 0 0,
  ix_e 29 (.aload_n (0)) 1 0 0 0 0 0,
  ix_e 30 (.getfield (11)) 3 4 0 2 0 0,
  ix_e 33 (.iload_n (1)) 1 1 0 0 0 0,
  ix_e 34 (.new (9)) 3 6 0 0 0 0,
  ix_e 37 .dup 1 0 0 0 0 0,
  ix_e 38 (.invokespecial (19)) 3 126 1 0 6 1,
  ix_e 41 .aastore 1 0 0 0 0 0,
  ix_e 42 (.iinc 1 (1)) 3 1 0 0 0 1,
  ix_e 45 (.goto (-22)) 3 23 0 0 0 0,
  ix_e 48 .return_ 1 0 0 0 0 0]
/-- VotedBank$Past.forget ()V -/
def ix_t83 : List ix_E := [ix_e 0 (.aload_n (0)) 1 0 0 0 0 0,
  ix_e 1 (.iconst (0)) 1 0 0 0 0 0,
  ix_e 2 (.putfield (43)) 3 4 3 0 0 0,
  ix_e 5 .return_ 1 0 0 0 0 0]
/-- VotedBank$Past.keep (LVotedBank$World;)V -/
def ix_t84 : List ix_E := [ix_e 0 (.aload_n (0)) 1 0 0 0 0 0,
  ix_e 1 (.getfield (11)) 3 4 0 2 0 0,
  ix_e 4 (.aload_n (0)) 1 0 0 0 0 0,
  ix_e 5 (.getfield (20)) 3 4 2 0 0 0,
  ix_e 8 .aaload 1 0 0 0 0 0,
  ix_e 9 (.aload_n (1)) 1 1 0 0 0 0,
  ix_e 10 (.getfield (24)) 3 9 0 2 0 0,
  ix_e 13 (.invokevirtual (30)) 3 127 2 0 6 0,
  ix_e 16 (.aload_n (0)) 1 0 0 0 0 0,
  ix_e 17 (.getfield (15)) 3 4 1 2 0 0,
  ix_e 20 (.aload_n (0)) 1 0 0 0 0 0,
  ix_e 21 (.getfield (20)) 3 4 2 0 0 0,
  ix_e 24 (.aload_n (1)) 1 1 0 0 0 0,
  ix_e 25 (.getfield (34)) 3 9 1 2 0 0,
  ix_e 28 (.getfield (38)) 3 0 1 0 0 0,
  ix_e 31 .iastore 1 0 0 0 0 0,
  ix_e 32 (.aload_n (0)) 1 0 0 0 0 0,
  ix_e 33 (.aload_n (0)) 1 0 0 0 0 0,
  ix_e 34 (.getfield (20)) 3 4 2 0 0 0,
  ix_e 37 (.iconst (1)) 1 0 0 0 0 1,
  ix_e 38 .iadd 1 0 0 0 0 0,
  ix_e 39 (.bipush (6)) 2 0 0 0 0 6,
  ix_e 41 .irem 1 0 0 0 0 0,
  ix_e 42 (.putfield (20)) 3 4 2 0 0 0,
  ix_e 45 (.aload_n (0)) 1 0 0 0 0 0,
  ix_e 46 (.aload_n (0)) 1 0 0 0 0 0,
  ix_e 47 (.getfield (43)) 3 4 3 0 0 0,
  ix_e 50 (.iconst (1)) 1 0 0 0 0 1,
  ix_e 51 .iadd 1 0 0 0 0 0,
  ix_e 52 (.bipush (6)) 2 0 0 0 0 6,
  ix_e 54 (.invokestatic (44)) 3 285 2 1 0 0,
  ix_e 57 (.putfield (43)) 3 4 3 0 0 0,
  ix_e 60 .return_ 1 0 0 0 0 0]
/-- VotedBank$Past.goBack (LVotedBank$World;)Z -/
def ix_t85 : List ix_E := [ix_e 0 (.aload_n (0)) 1 0 0 0 0 0,
  ix_e 1 (.getfield (43)) 3 4 3 0 0 0,
  ix_e 4 (.ifCond .ne (5)) 3 9 0 0 0 0,
  ix_e 7 (.iconst (0)) 1 0 0 0 0 0,
  ix_e 8 .ireturn 1 1 0 0 0 0,
  ix_e 9 (.aload_n (0)) 1 0 0 0 0 0,
  ix_e 10 (.aload_n (0)) 1 0 0 0 0 0,
  ix_e 11 (.getfield (20)) 3 4 2 0 0 0,
  ix_e 14 (.bipush (6)) 2 0 0 0 0 6,
  ix_e 16 .iadd 1 0 0 0 0 0,
  ix_e 17 (.iconst (1)) 1 0 0 0 0 1,
  ix_e 18 .isub 1 0 0 0 0 0,
  ix_e 19 (.bipush (6)) 2 0 0 0 0 6,
  ix_e 21 .irem 1 0 0 0 0 0,
  ix_e 22 (.putfield (20)) 3 4 2 0 0 0,
  ix_e 25 (.aload_n (0)) 1 0 0 0 0 0,
  ix_e 26 .dup 1 0 0 0 0 0,
  ix_e 27 (.getfield (43)) 3 4 3 0 0 0,
  ix_e 30 (.iconst (1)) 1 0 0 0 0 1,
  ix_e 31 .isub 1 0 0 0 0 0,
  ix_e 32 (.putfield (43)) 3 4 3 0 0 0,
  ix_e 35 (.aload_n (1)) 1 1 0 0 0 0,
  ix_e 36 (.getfield (24)) 3 9 0 2 0 0,
  ix_e 39 (.aload_n (0)) 1 0 0 0 0 0,
  ix_e 40 (.getfield (11)) 3 4 0 2 0 0,
  ix_e 43 (.aload_n (0)) 1 0 0 0 0 0,
  ix_e 44 (.getfield (20)) 3 4 2 0 0 0,
  ix_e 47 .aaload 1 0 0 0 0 0,
  ix_e 48 (.invokevirtual (30)) 3 127 2 0 6 0,
  ix_e 51 (.aload_n (1)) 1 1 0 0 0 0,
  ix_e 52 (.getfield (34)) 3 9 1 2 0 0,
  ix_e 55 (.aload_n (0)) 1 0 0 0 0 0,
  ix_e 56 (.getfield (15)) 3 4 1 2 0 0,
  ix_e 59 (.aload_n (0)) 1 0 0 0 0 0,
  ix_e 60 (.getfield (20)) 3 4 2 0 0 0,
  ix_e 63 .iaload 1 0 0 0 0 0,
  ix_e 64 (.putfield (38)) 3 0 1 0 0 0,
  ix_e 67 (.iconst (1)) 1 0 0 0 0 1,
  ix_e 68 .ireturn 1 1 0 0 0 0]
/-- VotedBank$Poll.<init> (LVotedBank$World;)V -/
def ix_t86 : List ix_E := [ix_e 0 (.aload_n (0)) 1 0 0 0 0 0,
  ix_e 1 (.invokespecial (3)) 3 0 0 2 0 0,
  ix_e 4 (.aload_n (0)) 1 0 0 0 0 0,
  ix_e 5 (.bipush (12)) 2 0 0 0 0 12,
  ix_e 7 (.newarray .int) 2 0 0 0 0 0,
  ix_e 9 (.putfield (9)) 3 5 1 2 0 0,
  ix_e 12 (.aload_n (0)) 1 0 0 0 0 0,
  ix_e 13 (.bipush (6)) 2 0 0 0 0 6,
  ix_e 15 (.newarray .int) 2 0 0 0 0 0,
  ix_e 17 (.putfield (15)) 3 5 2 2 0 0,
  ix_e 20 (.aload_n (0)) 1 0 0 0 0 0,
  ix_e 21 (.bipush (12)) 2 0 0 0 0 12,
  ix_e 23 (.newarray .int) 2 0 0 0 0 0,
  ix_e 25 (.putfield (18)) 3 5 3 2 0 0,
  ix_e 28 (.aload_n (0)) 1 0 0 0 0 0,
  ix_e 29 (.bipush (36)) 2 0 0 0 0 36,
  ix_e 31 (.newarray .int) 2 0 0 0 0 0,
  ix_e 33 (.putfield (21)) 3 5 4 2 0 0,
  ix_e 36 (.aload_n (0)) 1 0 0 0 0 0,
  ix_e 37 (.aload_n (1)) 1 1 0 0 0 0,
  ix_e 38 (.putfield (24)) 3 5 0 2 0 0,
  ix_e 41 .return_ 1 0 0 0 0 0]
/-- VotedBank$Poll.told (III)I -/
def ix_t87 : List ix_E := [ix_e 0 (.aload_n (0)) 1 0 0 0 0 0,
  ix_e 1 (.getfield (24)) 3 5 0 2 0 0,
  ix_e 4 (.getfield (28)) 3 9 0 2 0 0,
  ix_e 7 (.astore (4)) 2 4 0 0 0 0,
  ix_e 9 (.aload_n (0)) 1 0 0 0 0 0,
  ix_e 10 (.getfield (24)) 3 5 0 2 0 0,
  ix_e 13 (.getfield (34)) 3 9 2 2 0 0,
  ix_e 16 (.getfield (38)) 3 8 0 2 0 0,
  ix_e 19 (.iload_n (1)) 1 1 0 0 0 0,
  ix_e 20 (.aload (4)) 2 4 0 0 0 0,
  ix_e 22 (.iload_n (2)) 1 2 0 0 0 0,
  ix_e 23 (.iload_n (3)) 1 3 0 0 0 0,
  ix_e 24 (.iconst (0)) 1 0 0 0 0 0,
  ix_e 25 (.aload (4)) 2 4 0 0 0 0,
  ix_e 27 (.invokevirtual (44)) 3 122 1 1 6 0,
  ix_e 30 (.iconst (1)) 1 0 0 0 0 1,
  ix_e 31 (.iload_n (2)) 1 2 0 0 0 0,
  ix_e 32 .ishl 1 0 0 0 0 0,
  ix_e 33 .ior 1 0 0 0 0 0,
  ix_e 34 (.invokevirtual (50)) 3 54 7 1 2 0,
  ix_e 37 .ireturn 1 0 0 0 0 0]
/-- VotedBank$Poll.askAll ()V -/
def ix_t88 : List ix_E := [ix_e 0 (.aload_n (0)) 1 0 0 0 0 0,
  ix_e 1 (.getfield (24)) 3 5 0 2 0 0,
  ix_e 4 (.getfield (28)) 3 9 0 2 0 0,
  ix_e 7 (.astore_n (1)) 1 1 0 0 0 0,
  ix_e 8 (.iconst (0)) 1 0 0 0 0 0,
  ix_e 9 (.istore_n (2)) 1 2 0 0 0 0,
  ix_c 10 (.iload_n (2)) 1 [true, true, true] 2 0 0 0 0,
  ix_e 11 (.aload_n (1)) 1 1 0 0 0 0,
  ix_e 12 (.getfield (56)) 3 6 6 0 0 0,
  ix_e 15 (.if_icmp .ge (39)) 3 54 0 0 0 0,
  ix_e 18 (.aload_n (0)) 1 0 0 0 0 0,
  ix_e 19 (.getfield (9)) 3 5 1 2 0 0,
  ix_e 22 (.iload_n (2)) 1 2 0 0 0 0,
  ix_e 23 (.aload_n (1)) 1 1 0 0 0 0,
  ix_e 24 (.iload_n (2)) 1 2 0 0 0 0,
  ix_e 25 (.invokevirtual (60)) 3 121 2 1 6 0,
  ix_e 28 (.ifCond .eq (7)) 3 35 0 0 0 0,
  ix_e 31 (.iconst (0)) 1 0 0 0 0 0,
  ix_e 32 (.goto (15)) 3 47 0 0 0 0,
  ix_e 35 (.aload_n (0)) 1 0 0 0 0 0,
  ix_e 36 (.iconst (2)) 1 0 0 0 0 2,
  ix_e 37 (.iload_n (2)) 1 2 0 0 0 0,
  ix_e 38 (.aload_n (1)) 1 1 0 0 0 0,
  ix_e 39 (.getfield (64)) 3 6 10 2 0 0,
  ix_e 42 (.iload_n (2)) 1 2 0 0 0 0,
  ix_e 43 .iaload 1 0 0 0 0 0,
  ix_e 44 (.invokevirtual (67)) 3 87 4 1 5 0,
  ix_e 47 .iastore 1 0 0 0 0 0,
  ix_e 48 (.iinc 2 (1)) 3 2 0 0 0 1,
  ix_e 51 (.goto (-41)) 3 10 0 0 0 0,
  ix_e 54 .return_ 1 0 0 0 0 0]
/-- VotedBank$Poll.firstMaker (I)I -/
def ix_t89 : List ix_E := [ix_e 0 (.iconst (0)) 1 0 0 0 0 0,
  ix_e 1 (.istore_n (2)) 1 2 0 0 0 0,
  ix_c 2 (.iload_n (2)) 1 [true, true, true] 2 0 0 0 0,
  ix_e 3 (.aload_n (0)) 1 0 0 0 0 0,
  ix_e 4 (.getfield (24)) 3 5 0 2 0 0,
  ix_e 7 (.getfield (28)) 3 9 0 2 0 0,
  ix_e 10 (.getfield (56)) 3 6 6 0 0 0,
  ix_e 13 (.if_icmp .ge (29)) 3 42 0 0 0 0,
  ix_e 16 (.aload_n (0)) 1 0 0 0 0 0,
  ix_e 17 (.getfield (9)) 3 5 1 2 0 0,
  ix_e 20 (.iload_n (2)) 1 2 0 0 0 0,
  ix_e 21 .iaload 1 0 0 0 0 0,
  ix_e 22 (.ifCond .le (14)) 3 36 0 0 0 0,
  ix_e 25 (.aload_n (0)) 1 0 0 0 0 0,
  ix_e 26 (.iload_n (2)) 1 2 0 0 0 0,
  ix_e 27 (.invokevirtual (78)) 3 103 2 1 5 0,
  ix_e 30 (.iload_n (1)) 1 1 0 0 0 0,
  ix_e 31 (.if_icmp .ne (5)) 3 36 0 0 0 0,
  ix_e 34 (.iload_n (2)) 1 2 0 0 0 0,
  ix_e 35 .ireturn 1 0 0 0 0 0,
  ix_e 36 (.iinc 2 (1)) 3 2 0 0 0 1,
  ix_e 39 (.goto (-37)) 3 2 0 0 0 0,
  ix_e 42 (.iconst (-1)) 1 0 0 0 0 (-1),
  ix_e 43 .ireturn 1 0 0 0 0 0]
/-- VotedBank$Poll.timesTurned (I)I -/
def ix_t90 : List ix_E := [ix_e 0 (.aload_n (0)) 1 0 0 0 0 0,
  ix_e 1 (.getfield (9)) 3 5 1 2 0 0,
  ix_e 4 (.iload_n (1)) 1 1 0 0 0 0,
  ix_e 5 .iaload 1 0 0 0 0 0,
  ix_e 6 (.ifCond .ne (5)) 3 11 0 0 0 0,
  ix_e 9 (.iconst (0)) 1 0 0 0 0 0,
  ix_e 10 .ireturn 1 0 0 0 0 0,
  ix_e 11 (.aload_n (0)) 1 0 0 0 0 0,
  ix_e 12 (.iconst (1)) 1 0 0 0 0 1,
  ix_e 13 (.iload_n (1)) 1 1 0 0 0 0,
  ix_e 14 .ishl 1 0 0 0 0 0,
  ix_e 15 (.invokevirtual (81)) 3 104 2 1 5 0,
  ix_e 18 (.istore_n (2)) 1 2 0 0 0 0,
  ix_e 19 (.aload_n (0)) 1 0 0 0 0 0,
  ix_e 20 (.getfield (24)) 3 5 0 2 0 0,
  ix_e 23 (.getfield (28)) 3 9 0 2 0 0,
  ix_e 26 (.invokevirtual (44)) 3 122 1 1 6 0,
  ix_e 29 (.invokestatic (84)) 3 286 1 1 0 0,
  ix_e 32 (.iconst (1)) 1 0 0 0 0 1,
  ix_e 33 .isub 1 0 0 0 0 0,
  ix_e 34 (.iload_n (2)) 1 2 0 0 0 0,
  ix_e 35 .isub 1 0 0 0 0 0,
  ix_e 36 (.istore_n (3)) 1 3 0 0 0 0,
  ix_e 37 (.aload_n (0)) 1 0 0 0 0 0,
  ix_e 38 (.iload_n (1)) 1 1 0 0 0 0,
  ix_e 39 (.invokevirtual (78)) 3 103 2 1 5 0,
  ix_e 42 (.istore (4)) 2 4 0 0 0 0,
  ix_e 44 (.aload_n (0)) 1 0 0 0 0 0,
  ix_e 45 (.getfield (15)) 3 5 2 2 0 0,
  ix_e 48 (.iconst (0)) 1 0 0 0 0 0,
  ix_e 49 (.invokestatic (89)) 3 284 2 0 0 0,
  ix_e 52 (.aload_n (0)) 1 0 0 0 0 0,
  ix_e 53 (.iload (4)) 2 4 0 0 0 0,
  ix_e 55 (.aload_n (0)) 1 0 0 0 0 0,
  ix_e 56 (.getfield (9)) 3 5 1 2 0 0,
  ix_e 59 (.iload_n (1)) 1 1 0 0 0 0,
  ix_e 60 .iaload 1 0 0 0 0 0,
  ix_e 61 (.invokevirtual (95)) 3 105 3 1 5 0,
  ix_e 64 (.ifCond .eq (7)) 3 71 0 0 0 0,
  ix_e 67 (.iconst (1)) 1 0 0 0 0 1,
  ix_e 68 (.goto (4)) 3 72 0 0 0 0,
  ix_e 71 (.iconst (0)) 1 0 0 0 0 0,
  ix_e 72 (.istore (5)) 2 5 0 0 0 0,
  ix_e 74 (.iconst (0)) 1 0 0 0 0 0,
  ix_e 75 (.istore (6)) 2 6 0 0 0 0,
  ix_e 77 (.iconst (1)) 1 0 0 0 0 1,
  ix_e 78 (.istore (7)) 2 7 0 0 0 0,
  ix_c 80 (.iload (7)) 2 [true, true, true, true, true, true, true, true, false] 7 0 0 0 0,
  ix_e 82 (.iconst (1)) 1 0 0 0 0 1,
  ix_e 83 (.iload_n (2)) 1 2 0 0 0 0,
  ix_e 84 .ishl 1 0 0 0 0 0,
  ix_e 85 (.if_icmp .ge (94)) 3 179 0 0 0 0,
  ix_e 88 (.aload_n (0)) 1 0 0 0 0 0,
  ix_e 89 (.iload (7)) 2 7 0 0 0 0,
  ix_e 91 (.invokevirtual (99)) 3 106 2 1 5 0,
  ix_e 94 (.istore (8)) 2 8 0 0 0 0,
  ix_e 96 (.iload (6)) 2 6 0 0 0 0,
  ix_e 98 (.iconst (1)) 1 0 0 0 0 1,
  ix_e 99 (.iload (8)) 2 8 0 0 0 0,
  ix_e 101 .ishl 1 0 0 0 0 0,
  ix_e 102 .ixor 1 0 0 0 0 0,
  ix_e 103 (.istore (6)) 2 6 0 0 0 0,
  ix_e 105 (.aload_n (0)) 1 0 0 0 0 0,
  ix_e 106 (.getfield (15)) 3 5 2 2 0 0,
  ix_e 109 (.aload_n (0)) 1 0 0 0 0 0,
  ix_e 110 (.iload (8)) 2 8 0 0 0 0,
  ix_e 112 (.invokevirtual (78)) 3 103 2 1 5 0,
  ix_e 115 .dup2 1 0 0 0 0 0,
  ix_e 116 .iaload 1 0 0 0 0 0,
  ix_e 117 (.iload (6)) 2 6 0 0 0 0,
  ix_e 119 (.iload (8)) 2 8 0 0 0 0,
  ix_e 121 .ishr 1 0 0 0 0 0,
  ix_e 122 (.iconst (1)) 1 0 0 0 0 1,
  ix_e 123 .iand 1 0 0 0 0 0,
  ix_e 124 (.iconst (1)) 1 0 0 0 0 1,
  ix_e 125 (.if_icmp .ne (13)) 3 138 0 0 0 0,
  ix_e 128 (.aload_n (0)) 1 0 0 0 0 0,
  ix_e 129 (.getfield (9)) 3 5 1 2 0 0,
  ix_e 132 (.iload (8)) 2 8 0 0 0 0,
  ix_e 134 .iaload 1 0 0 0 0 0,
  ix_e 135 (.goto (11)) 3 146 0 0 0 0,
  ix_e 138 (.aload_n (0)) 1 0 0 0 0 0,
  ix_e 139 (.getfield (9)) 3 5 1 2 0 0,
  ix_e 142 (.iload (8)) 2 8 0 0 0 0,
  ix_e 144 .iaload 1 0 0 0 0 0,
  ix_e 145 .ineg 1 0 0 0 0 0,
  ix_e 146 .iadd 1 0 0 0 0 0,
  ix_e 147 .iastore 1 0 0 0 0 0,
  ix_e 148 (.iload (5)) 2 5 0 0 0 0,
  ix_e 150 (.aload_n (0)) 1 0 0 0 0 0,
  ix_e 151 (.iload (4)) 2 4 0 0 0 0,
  ix_e 153 (.aload_n (0)) 1 0 0 0 0 0,
  ix_e 154 (.getfield (9)) 3 5 1 2 0 0,
  ix_e 157 (.iload_n (1)) 1 1 0 0 0 0,
  ix_e 158 .iaload 1 0 0 0 0 0,
  ix_e 159 (.invokevirtual (95)) 3 105 3 1 5 0,
  ix_e 162 (.ifCond .eq (7)) 3 169 0 0 0 0,
  ix_e 165 (.iconst (1)) 1 0 0 0 0 1,
  ix_e 166 (.goto (4)) 3 170 0 0 0 0,
  ix_e 169 (.iconst (0)) 1 0 0 0 0 0,
  ix_e 170 .iadd 1 0 0 0 0 0,
  ix_e 171 (.istore (5)) 2 5 0 0 0 0,
  ix_e 173 (.iinc 7 (1)) 3 7 0 0 0 1,
  ix_e 176 (.goto (-96)) 3 80 0 0 0 0,
  ix_e 179 (.iload (5)) 2 5 0 0 0 0,
  ix_e 181 (.iload_n (3)) 1 3 0 0 0 0,
  ix_e 182 .ishl 1 0 0 0 0 0,
  ix_e 183 .ireturn 1 0 0 0 0 0]
/-- VotedBank$Poll.compareByShells ()V -/
def ix_t91 : List ix_E := [ix_e 0 (.aload_n (0)) 1 0 0 0 0 0,
  ix_e 1 (.iconst (1)) 1 0 0 0 0 1,
  ix_e 2 (.invokevirtual (115)) 3 107 2 0 5 0,
  ix_e 5 .return_ 1 0 0 0 0 0]
/-- VotedBank$Poll.lead (II)I -/
def ix_t92 : List ix_E := [ix_e 0 (.aload_n (0)) 1 0 0 0 0 0,
  ix_e 1 (.getfield (21)) 3 5 4 2 0 0,
  ix_e 4 (.iload_n (1)) 1 1 0 0 0 0,
  ix_e 5 (.bipush (6)) 2 0 0 0 0 6,
  ix_e 7 .imul 1 0 0 0 0 0,
  ix_e 8 (.iload_n (2)) 1 2 0 0 0 0,
  ix_e 9 .iadd 1 0 0 0 0 0,
  ix_e 10 .iaload 1 0 0 0 0 0,
  ix_e 11 (.aload_n (0)) 1 0 0 0 0 0,
  ix_e 12 (.getfield (21)) 3 5 4 2 0 0,
  ix_e 15 (.iload_n (2)) 1 2 0 0 0 0,
  ix_e 16 (.bipush (6)) 2 0 0 0 0 6,
  ix_e 18 .imul 1 0 0 0 0 0,
  ix_e 19 (.iload_n (1)) 1 1 0 0 0 0,
  ix_e 20 .iadd 1 0 0 0 0 0,
  ix_e 21 .iaload 1 0 0 0 0 0,
  ix_e 22 .isub 1 0 0 0 0 0,
  ix_e 23 .ireturn 1 0 0 0 0 0]
/-- VotedBank$Poll.lastLeft ()I -/
def ix_t93 : List ix_E := [ix_e 0 (.aload_n (0)) 1 0 0 0 0 0,
  ix_e 1 (.getfield (24)) 3 5 0 2 0 0,
  ix_e 4 (.getfield (28)) 3 9 0 2 0 0,
  ix_e 7 (.invokevirtual (44)) 3 122 1 1 6 0,
  ix_e 10 (.ifCond .ne (5)) 3 15 0 0 0 0,
  ix_e 13 (.iconst (-1)) 1 0 0 0 0 (-1),
  ix_e 14 .ireturn 1 0 0 0 0 0,
  ix_e 15 (.bipush (62)) 2 0 0 0 0 62,
  ix_e 17 (.istore_n (1)) 1 1 0 0 0 0,
  ix_e 18 (.iconst (1)) 1 0 0 0 0 1,
  ix_e 19 (.istore_n (2)) 1 2 0 0 0 0,
  ix_c 20 (.iload_n (2)) 1 [true, true, true] 2 0 0 0 0,
  ix_e 21 (.iconst (5)) 1 0 0 0 0 5,
  ix_e 22 (.if_icmp .ge (21)) 3 43 0 0 0 0,
  ix_e 25 (.iload_n (1)) 1 1 0 0 0 0,
  ix_e 26 (.iconst (1)) 1 0 0 0 0 1,
  ix_e 27 (.aload_n (0)) 1 0 0 0 0 0,
  ix_e 28 (.iload_n (1)) 1 1 0 0 0 0,
  ix_e 29 (.invokevirtual (130)) 3 108 2 1 5 0,
  ix_e 32 .ishl 1 0 0 0 0 0,
  ix_e 33 (.iconst (-1)) 1 0 0 0 0 (-1),
  ix_e 34 .ixor 1 0 0 0 0 0,
  ix_e 35 .iand 1 0 0 0 0 0,
  ix_e 36 (.istore_n (1)) 1 1 0 0 0 0,
  ix_e 37 (.iinc 2 (1)) 3 2 0 0 0 1,
  ix_e 40 (.goto (-20)) 3 20 0 0 0 0,
  ix_e 43 (.iload_n (1)) 1 1 0 0 0 0,
  ix_e 44 (.invokestatic (102)) 3 287 1 1 0 0,
  ix_e 47 .ireturn 1 0 0 0 0 0]
/-- VotedBank$Poll.points (I)I -/
def ix_t94 : List ix_E := [ix_e 0 (.iconst (0)) 1 0 0 0 0 0,
  ix_e 1 (.istore_n (2)) 1 2 0 0 0 0,
  ix_e 2 (.iconst (0)) 1 0 0 0 0 0,
  ix_e 3 (.istore_n (3)) 1 3 0 0 0 0,
  ix_c 4 (.iload_n (3)) 1 [true, true, true, true, false, false] 3 0 0 0 0,
  ix_e 5 (.aload_n (0)) 1 0 0 0 0 0,
  ix_e 6 (.getfield (24)) 3 5 0 2 0 0,
  ix_e 9 (.getfield (28)) 3 9 0 2 0 0,
  ix_e 12 (.getfield (56)) 3 6 6 0 0 0,
  ix_e 15 (.if_icmp .ge (70)) 3 85 0 0 0 0,
  ix_e 18 (.iconst (0)) 1 0 0 0 0 0,
  ix_e 19 (.istore (4)) 2 4 0 0 0 0,
  ix_e 21 (.iconst (1)) 1 0 0 0 0 1,
  ix_e 22 (.istore (5)) 2 5 0 0 0 0,
  ix_c 24 (.iload (5)) 2 [true, true, true, true, true, true] 5 0 0 0 0,
  ix_e 26 (.bipush (6)) 2 0 0 0 0 6,
  ix_e 28 (.if_icmp .ge (39)) 3 67 0 0 0 0,
  ix_e 31 (.iload (5)) 2 5 0 0 0 0,
  ix_e 33 (.iload_n (1)) 1 1 0 0 0 0,
  ix_e 34 (.if_icmp .eq (27)) 3 61 0 0 0 0,
  ix_e 37 (.aload_n (0)) 1 0 0 0 0 0,
  ix_e 38 (.getfield (24)) 3 5 0 2 0 0,
  ix_e 41 (.getfield (28)) 3 9 0 2 0 0,
  ix_e 44 (.getfield (71)) 3 6 8 2 0 0,
  ix_e 47 (.iload_n (3)) 1 3 0 0 0 0,
  ix_e 48 .iaload 1 0 0 0 0 0,
  ix_e 49 (.iload_n (1)) 1 1 0 0 0 0,
  ix_e 50 (.iload (5)) 2 5 0 0 0 0,
  ix_e 52 (.invokestatic (126)) 3 37 3 1 0 1,
  ix_e 55 (.ifCond .eq (6)) 3 61 0 0 0 0,
  ix_e 58 (.iinc 4 (1)) 3 4 0 0 0 1,
  ix_e 61 (.iinc 5 (1)) 3 5 0 0 0 1,
  ix_e 64 (.goto (-40)) 3 24 0 0 0 0,
  ix_e 67 (.iload_n (2)) 1 2 0 0 0 0,
  ix_e 68 (.iload (4)) 2 4 0 0 0 0,
  ix_e 70 (.aload_n (0)) 1 0 0 0 0 0,
  ix_e 71 (.getfield (9)) 3 5 1 2 0 0,
  ix_e 74 (.iload_n (3)) 1 3 0 0 0 0,
  ix_e 75 .iaload 1 0 0 0 0 0,
  ix_e 76 .imul 1 0 0 0 0 0,
  ix_e 77 .iadd 1 0 0 0 0 0,
  ix_e 78 (.istore_n (2)) 1 2 0 0 0 0,
  ix_e 79 (.iinc 3 (1)) 3 3 0 0 0 1,
  ix_e 82 (.goto (-78)) 3 4 0 0 0 0,
  ix_e 85 (.iload_n (2)) 1 2 0 0 0 0,
  ix_e 86 .ireturn 1 0 0 0 0 0]
/-- VotedBank$Poll.champion ()I -/
def ix_t95 : List ix_E := [ix_e 0 (.iconst (1)) 1 0 0 0 0 1,
  ix_e 1 (.istore_n (1)) 1 1 0 0 0 0,
  ix_c 2 (.iload_n (1)) 1 [true, true, false, false] 1 0 0 0 0,
  ix_e 3 (.bipush (6)) 2 0 0 0 0 6,
  ix_e 5 (.if_icmp .ge (49)) 3 54 0 0 0 0,
  ix_e 8 (.iconst (0)) 1 0 0 0 0 0,
  ix_e 9 (.istore_n (2)) 1 2 0 0 0 0,
  ix_e 10 (.iconst (1)) 1 0 0 0 0 1,
  ix_e 11 (.istore_n (3)) 1 3 0 0 0 0,
  ix_c 12 (.iload_n (3)) 1 [true, true, true, true] 3 0 0 0 0,
  ix_e 13 (.bipush (6)) 2 0 0 0 0 6,
  ix_e 15 (.if_icmp .ge (26)) 3 41 0 0 0 0,
  ix_e 18 (.iload_n (3)) 1 3 0 0 0 0,
  ix_e 19 (.iload_n (1)) 1 1 0 0 0 0,
  ix_e 20 (.if_icmp .eq (15)) 3 35 0 0 0 0,
  ix_e 23 (.aload_n (0)) 1 0 0 0 0 0,
  ix_e 24 (.iload_n (1)) 1 1 0 0 0 0,
  ix_e 25 (.iload_n (3)) 1 3 0 0 0 0,
  ix_e 26 (.invokevirtual (123)) 3 92 3 1 5 0,
  ix_e 29 (.ifCond .le (6)) 3 35 0 0 0 0,
  ix_e 32 (.iinc 2 (1)) 3 2 0 0 0 1,
  ix_e 35 (.iinc 3 (1)) 3 3 0 0 0 1,
  ix_e 38 (.goto (-26)) 3 12 0 0 0 0,
  ix_e 41 (.iload_n (2)) 1 2 0 0 0 0,
  ix_e 42 (.iconst (4)) 1 0 0 0 0 4,
  ix_e 43 (.if_icmp .ne (5)) 3 48 0 0 0 0,
  ix_e 46 (.iload_n (1)) 1 1 0 0 0 0,
  ix_e 47 .ireturn 1 0 0 0 0 0,
  ix_e 48 (.iinc 1 (1)) 3 1 0 0 0 1,
  ix_e 51 (.goto (-49)) 3 2 0 0 0 0,
  ix_e 54 (.iconst (-1)) 1 0 0 0 0 (-1),
  ix_e 55 .ireturn 1 0 0 0 0 0]
/-- VotedBank$Poll.orderFor (I)I -/
def ix_t96 : List ix_E := [ix_e 0 (.getstatic (136)) 3 1001 1 0 0 0,
  ix_e 3 (.astore_n (2)) 1 2 0 0 0 0,
  ix_e 4 (.aload_n (2)) 1 2 0 0 0 0,
  ix_e 5 .arraylength 1 0 0 0 0 0,
  ix_e 6 (.istore_n (3)) 1 3 0 0 0 0,
  ix_e 7 (.iconst (0)) 1 0 0 0 0 0,
  ix_e 8 (.istore (4)) 2 4 0 0 0 0,
  ix_c 10 (.iload (4)) 2 [true, true, true, true, true, false] 4 0 0 0 0,
  ix_e 12 (.iload_n (3)) 1 3 0 0 0 0,
  ix_e 13 (.if_icmp .ge (28)) 3 41 0 0 0 0,
  ix_e 16 (.aload_n (2)) 1 2 0 0 0 0,
  ix_e 17 (.iload (4)) 2 4 0 0 0 0,
  ix_e 19 .iaload 1 0 0 0 0 0,
  ix_e 20 (.istore (5)) 2 5 0 0 0 0,
  ix_e 22 (.aload_n (0)) 1 0 0 0 0 0,
  ix_e 23 (.iload (5)) 2 5 0 0 0 0,
  ix_e 25 (.invokevirtual (139)) 3 109 2 1 5 0,
  ix_e 28 (.iload_n (1)) 1 1 0 0 0 0,
  ix_e 29 (.if_icmp .ne (6)) 3 35 0 0 0 0,
  ix_e 32 (.iload (5)) 2 5 0 0 0 0,
  ix_e 34 .ireturn 1 0 0 0 0 0,
  ix_e 35 (.iinc 4 (1)) 3 4 0 0 0 1,
  ix_e 38 (.goto (-28)) 3 10 0 0 0 0,
  ix_e 41 (.iconst (-1)) 1 0 0 0 0 (-1),
  ix_e 42 .ireturn 1 0 0 0 0 0]
/-- VotedBank$Poll.boatsNeeded (I)I -/
def ix_t97 : List ix_E := [ix_e 0 (.aload_n (0)) 1 0 0 0 0 0,
  ix_e 1 (.getfield (15)) 3 5 2 2 0 0,
  ix_e 4 (.iconst (0)) 1 0 0 0 0 0,
  ix_e 5 (.invokestatic (89)) 3 284 2 0 0 0,
  ix_e 8 (.iconst (0)) 1 0 0 0 0 0,
  ix_e 9 (.istore_n (2)) 1 2 0 0 0 0,
  ix_c 10 (.iload_n (2)) 1 [true, true, true, false] 2 0 0 0 0,
  ix_e 11 (.aload_n (0)) 1 0 0 0 0 0,
  ix_e 12 (.getfield (24)) 3 5 0 2 0 0,
  ix_e 15 (.getfield (28)) 3 9 0 2 0 0,
  ix_e 18 (.getfield (56)) 3 6 6 0 0 0,
  ix_e 21 (.if_icmp .ge (37)) 3 58 0 0 0 0,
  ix_e 24 (.aload_n (0)) 1 0 0 0 0 0,
  ix_e 25 (.getfield (24)) 3 5 0 2 0 0,
  ix_e 28 (.getfield (28)) 3 9 0 2 0 0,
  ix_e 31 (.iload_n (2)) 1 2 0 0 0 0,
  ix_e 32 (.invokevirtual (60)) 3 121 2 1 6 0,
  ix_e 35 (.ifCond .ne (17)) 3 52 0 0 0 0,
  ix_e 38 (.aload_n (0)) 1 0 0 0 0 0,
  ix_e 39 (.getfield (15)) 3 5 2 2 0 0,
  ix_e 42 (.aload_n (0)) 1 0 0 0 0 0,
  ix_e 43 (.iload_n (2)) 1 2 0 0 0 0,
  ix_e 44 (.invokevirtual (78)) 3 103 2 1 5 0,
  ix_e 47 .dup2 1 0 0 0 0 0,
  ix_e 48 .iaload 1 0 0 0 0 0,
  ix_e 49 (.iconst (1)) 1 0 0 0 0 1,
  ix_e 50 .iadd 1 0 0 0 0 0,
  ix_e 51 .iastore 1 0 0 0 0 0,
  ix_e 52 (.iinc 2 (1)) 3 2 0 0 0 1,
  ix_e 55 (.goto (-45)) 3 10 0 0 0 0,
  ix_e 58 (.iconst (0)) 1 0 0 0 0 0,
  ix_e 59 (.istore_n (2)) 1 2 0 0 0 0,
  ix_e 60 (.iconst (1)) 1 0 0 0 0 1,
  ix_e 61 (.istore_n (3)) 1 3 0 0 0 0,
  ix_c 62 (.iload_n (3)) 1 [true, true, true, true] 3 0 0 0 0,
  ix_e 63 (.bipush (6)) 2 0 0 0 0 6,
  ix_e 65 (.if_icmp .ge (28)) 3 93 0 0 0 0,
  ix_e 68 (.iload_n (1)) 1 1 0 0 0 0,
  ix_e 69 (.ifCond .le (24)) 3 93 0 0 0 0,
  ix_e 72 (.iload_n (2)) 1 2 0 0 0 0,
  ix_e 73 (.aload_n (0)) 1 0 0 0 0 0,
  ix_e 74 (.getfield (15)) 3 5 2 2 0 0,
  ix_e 77 (.iload_n (3)) 1 3 0 0 0 0,
  ix_e 78 .iaload 1 0 0 0 0 0,
  ix_e 79 (.iload_n (1)) 1 1 0 0 0 0,
  ix_e 80 .iadd 1 0 0 0 0 0,
  ix_e 81 (.iconst (1)) 1 0 0 0 0 1,
  ix_e 82 .isub 1 0 0 0 0 0,
  ix_e 83 (.iload_n (1)) 1 1 0 0 0 0,
  ix_e 84 .idiv 1 0 0 0 0 0,
  ix_e 85 .iadd 1 0 0 0 0 0,
  ix_e 86 (.istore_n (2)) 1 2 0 0 0 0,
  ix_e 87 (.iinc 3 (1)) 3 3 0 0 0 1,
  ix_e 90 (.goto (-28)) 3 62 0 0 0 0,
  ix_e 93 (.iload_n (2)) 1 2 0 0 0 0,
  ix_e 94 .ireturn 1 0 0 0 0 0]
/-- VotedBank$Poll.crossingsNeeded (I)I -/
def ix_t98 : List ix_E := [ix_e 0 (.aload_n (0)) 1 0 0 0 0 0,
  ix_e 1 (.getfield (24)) 3 5 0 2 0 0,
  ix_e 4 (.getfield (28)) 3 9 0 2 0 0,
  ix_e 7 (.invokevirtual (44)) 3 122 1 1 6 0,
  ix_e 10 (.invokestatic (84)) 3 286 1 1 0 0,
  ix_e 13 (.istore_n (2)) 1 2 0 0 0 0,
  ix_e 14 (.iload_n (2)) 1 2 0 0 0 0,
  ix_e 15 (.iload_n (1)) 1 1 0 0 0 0,
  ix_e 16 (.if_icmp .gt (13)) 3 29 0 0 0 0,
  ix_e 19 (.iload_n (2)) 1 2 0 0 0 0,
  ix_e 20 (.ifCond .ne (7)) 3 27 0 0 0 0,
  ix_e 23 (.iconst (0)) 1 0 0 0 0 0,
  ix_e 24 (.goto (4)) 3 28 0 0 0 0,
  ix_e 27 (.iconst (1)) 1 0 0 0 0 1,
  ix_e 28 .ireturn 1 0 0 0 0 0,
  ix_e 29 (.iload_n (1)) 1 1 0 0 0 0,
  ix_e 30 (.iconst (2)) 1 0 0 0 0 2,
  ix_e 31 (.if_icmp .ge (5)) 3 36 0 0 0 0,
  ix_e 34 (.iconst (-1)) 1 0 0 0 0 (-1),
  ix_e 35 .ireturn 1 0 0 0 0 0,
  ix_e 36 (.iload_n (2)) 1 2 0 0 0 0,
  ix_e 37 (.iconst (2)) 1 0 0 0 0 2,
  ix_e 38 .isub 1 0 0 0 0 0,
  ix_e 39 (.iload_n (1)) 1 1 0 0 0 0,
  ix_e 40 (.iconst (1)) 1 0 0 0 0 1,
  ix_e 41 .isub 1 0 0 0 0 0,
  ix_e 42 .idiv 1 0 0 0 0 0,
  ix_e 43 (.istore_n (3)) 1 3 0 0 0 0,
  ix_e 44 (.iconst (2)) 1 0 0 0 0 2,
  ix_e 45 (.iload_n (3)) 1 3 0 0 0 0,
  ix_e 46 .imul 1 0 0 0 0 0,
  ix_e 47 (.iconst (1)) 1 0 0 0 0 1,
  ix_e 48 .iadd 1 0 0 0 0 0,
  ix_e 49 .ireturn 1 0 0 0 0 0]
/-- VotedBank$Poll.compareByHeads ()V -/
def ix_t99 : List ix_E := [ix_e 0 (.aload_n (0)) 1 0 0 0 0 0,
  ix_e 1 (.iconst (0)) 1 0 0 0 0 0,
  ix_e 2 (.invokevirtual (115)) 3 107 2 0 5 0,
  ix_e 5 .return_ 1 0 0 0 0 0]
/-- VotedBank$Poll.nearestRank (I)I -/
def ix_t100 : List ix_E := [ix_e 0 (.iconst (-1)) 1 0 0 0 0 (-1),
  ix_e 1 (.istore_n (2)) 1 2 0 0 0 0,
  ix_e 2 (.iconst (0)) 1 0 0 0 0 0,
  ix_e 3 (.istore_n (3)) 1 3 0 0 0 0,
  ix_e 4 (.getstatic (136)) 3 1001 1 0 0 0,
  ix_e 7 (.astore (4)) 2 4 0 0 0 0,
  ix_e 9 (.aload (4)) 2 4 0 0 0 0,
  ix_e 11 .arraylength 1 0 0 0 0 0,
  ix_e 12 (.istore (5)) 2 5 0 0 0 0,
  ix_e 14 (.iconst (0)) 1 0 0 0 0 0,
  ix_e 15 (.istore (6)) 2 6 0 0 0 0,
  ix_c 17 (.iload (6)) 2 [true, true, true, true, true, true, true, false, false] 6 0 0 0 0,
  ix_e 19 (.iload (5)) 2 5 0 0 0 0,
  ix_e 21 (.if_icmp .ge (41)) 3 62 0 0 0 0,
  ix_e 24 (.aload (4)) 2 4 0 0 0 0,
  ix_e 26 (.iload (6)) 2 6 0 0 0 0,
  ix_e 28 .iaload 1 0 0 0 0 0,
  ix_e 29 (.istore (7)) 2 7 0 0 0 0,
  ix_e 31 (.aload_n (0)) 1 0 0 0 0 0,
  ix_e 32 (.iload (7)) 2 7 0 0 0 0,
  ix_e 34 (.invokevirtual (142)) 3 110 2 1 5 0,
  ix_e 37 (.istore (8)) 2 8 0 0 0 0,
  ix_e 39 (.iload_n (2)) 1 2 0 0 0 0,
  ix_e 40 (.iconst (-1)) 1 0 0 0 0 (-1),
  ix_e 41 (.if_icmp .eq (9)) 3 50 0 0 0 0,
  ix_e 44 (.iload (8)) 2 8 0 0 0 0,
  ix_e 46 (.iload_n (3)) 1 3 0 0 0 0,
  ix_e 47 (.if_icmp .ge (9)) 3 56 0 0 0 0,
  ix_e 50 (.iload (7)) 2 7 0 0 0 0,
  ix_e 52 (.istore_n (2)) 1 2 0 0 0 0,
  ix_e 53 (.iload (8)) 2 8 0 0 0 0,
  ix_e 55 (.istore_n (3)) 1 3 0 0 0 0,
  ix_e 56 (.iinc 6 (1)) 3 6 0 0 0 1,
  ix_e 59 (.goto (-42)) 3 17 0 0 0 0,
  ix_e 62 (.iload_n (1)) 1 1 0 0 0 0,
  ix_e 63 (.ifCond .ne (7)) 3 70 0 0 0 0,
  ix_e 66 (.iload_n (2)) 1 2 0 0 0 0,
  ix_e 67 (.goto (4)) 3 71 0 0 0 0,
  ix_e 70 (.iload_n (3)) 1 3 0 0 0 0,
  ix_e 71 .ireturn 1 0 0 0 0 0]
/-- VotedBank$Poll.findCheapest (I)V -/
def ix_t101 : List ix_E := [ix_e 0 (.aload_n (0)) 1 0 0 0 0 0,
  ix_e 1 (.iconst (-1)) 1 0 0 0 0 (-1),
  ix_e 2 (.putfield (145)) 3 5 5 0 0 0,
  ix_e 5 (.aload_n (0)) 1 0 0 0 0 0,
  ix_e 6 (.iconst (-1)) 1 0 0 0 0 (-1),
  ix_e 7 (.putfield (148)) 3 5 6 0 0 0,
  ix_e 10 (.aload_n (0)) 1 0 0 0 0 0,
  ix_e 11 (.iload_n (1)) 1 1 0 0 0 0,
  ix_e 12 (.invokevirtual (151)) 3 111 2 1 5 0,
  ix_e 15 (.istore_n (2)) 1 2 0 0 0 0,
  ix_e 16 (.aload_n (0)) 1 0 0 0 0 0,
  ix_e 17 (.iload_n (2)) 1 2 0 0 0 0,
  ix_e 18 (.invokevirtual (81)) 3 104 2 1 5 0,
  ix_e 21 (.istore_n (3)) 1 3 0 0 0 0,
  ix_e 22 (.iconst (0)) 1 0 0 0 0 0,
  ix_e 23 (.istore (4)) 2 4 0 0 0 0,
  ix_e 25 (.iconst (0)) 1 0 0 0 0 0,
  ix_e 26 (.istore (5)) 2 5 0 0 0 0,
  ix_e 28 (.aload_n (0)) 1 0 0 0 0 0,
  ix_e 29 (.iload_n (1)) 1 1 0 0 0 0,
  ix_e 30 (.iload (4)) 2 4 0 0 0 0,
  ix_e 32 (.iload (5)) 2 5 0 0 0 0,
  ix_e 34 (.invokevirtual (154)) 3 112 4 0 5 0,
  ix_e 37 (.iconst (1)) 1 0 0 0 0 1,
  ix_e 38 (.istore (6)) 2 6 0 0 0 0,
  ix_c 40 (.iload (6)) 2 [true, true, false, true, true, true, true, false, false] 6 0 0 0 0,
  ix_e 42 (.iconst (1)) 1 0 0 0 0 1,
  ix_e 43 (.iload_n (3)) 1 3 0 0 0 0,
  ix_e 44 .ishl 1 0 0 0 0 0,
  ix_e 45 (.if_icmp .ge (114)) 3 159 0 0 0 0,
  ix_e 48 (.aload_n (0)) 1 0 0 0 0 0,
  ix_e 49 (.iload (6)) 2 6 0 0 0 0,
  ix_e 51 (.invokevirtual (99)) 3 106 2 1 5 0,
  ix_e 54 (.istore (7)) 2 7 0 0 0 0,
  ix_e 56 (.iload (5)) 2 5 0 0 0 0,
  ix_e 58 (.iconst (1)) 1 0 0 0 0 1,
  ix_e 59 (.iload (7)) 2 7 0 0 0 0,
  ix_e 61 .ishl 1 0 0 0 0 0,
  ix_e 62 .ixor 1 0 0 0 0 0,
  ix_e 63 (.istore (5)) 2 5 0 0 0 0,
  ix_e 65 (.iload (5)) 2 5 0 0 0 0,
  ix_e 67 (.iload (7)) 2 7 0 0 0 0,
  ix_e 69 .ishr 1 0 0 0 0 0,
  ix_e 70 (.iconst (1)) 1 0 0 0 0 1,
  ix_e 71 .iand 1 0 0 0 0 0,
  ix_e 72 (.iconst (1)) 1 0 0 0 0 1,
  ix_e 73 (.if_icmp .ne (7)) 3 80 0 0 0 0,
  ix_e 76 (.iconst (1)) 1 0 0 0 0 1,
  ix_e 77 (.goto (4)) 3 81 0 0 0 0,
  ix_e 80 (.iconst (-1)) 1 0 0 0 0 (-1),
  ix_e 81 (.istore (8)) 2 8 0 0 0 0,
  ix_e 83 (.iload (4)) 2 4 0 0 0 0,
  ix_e 85 (.iload (8)) 2 8 0 0 0 0,
  ix_e 87 (.aload_n (0)) 1 0 0 0 0 0,
  ix_e 88 (.getfield (24)) 3 5 0 2 0 0,
  ix_e 91 (.getfield (158)) 3 9 3 2 0 0,
  ix_e 94 (.iload (7)) 2 7 0 0 0 0,
  ix_e 96 .iaload 1 0 0 0 0 0,
  ix_e 97 .imul 1 0 0 0 0 0,
  ix_e 98 .iadd 1 0 0 0 0 0,
  ix_e 99 (.istore (4)) 2 4 0 0 0 0,
  ix_e 101 (.aload_n (0)) 1 0 0 0 0 0,
  ix_e 102 (.getfield (15)) 3 5 2 2 0 0,
  ix_e 105 (.iload_n (1)) 1 1 0 0 0 0,
  ix_e 106 .dup2 1 0 0 0 0 0,
  ix_e 107 .iaload 1 0 0 0 0 0,
  ix_e 108 (.iload (8)) 2 8 0 0 0 0,
  ix_e 110 (.aload_n (0)) 1 0 0 0 0 0,
  ix_e 111 (.getfield (9)) 3 5 1 2 0 0,
  ix_e 114 (.iload (7)) 2 7 0 0 0 0,
  ix_e 116 .iaload 1 0 0 0 0 0,
  ix_e 117 .imul 1 0 0 0 0 0,
  ix_e 118 .iadd 1 0 0 0 0 0,
  ix_e 119 .iastore 1 0 0 0 0 0,
  ix_e 120 (.aload_n (0)) 1 0 0 0 0 0,
  ix_e 121 (.getfield (15)) 3 5 2 2 0 0,
  ix_e 124 (.aload_n (0)) 1 0 0 0 0 0,
  ix_e 125 (.iload (7)) 2 7 0 0 0 0,
  ix_e 127 (.invokevirtual (78)) 3 103 2 1 5 0,
  ix_e 130 .dup2 1 0 0 0 0 0,
  ix_e 131 .iaload 1 0 0 0 0 0,
  ix_e 132 (.iload (8)) 2 8 0 0 0 0,
  ix_e 134 (.aload_n (0)) 1 0 0 0 0 0,
  ix_e 135 (.getfield (9)) 3 5 1 2 0 0,
  ix_e 138 (.iload (7)) 2 7 0 0 0 0,
  ix_e 140 .iaload 1 0 0 0 0 0,
  ix_e 141 .imul 1 0 0 0 0 0,
  ix_e 142 .isub 1 0 0 0 0 0,
  ix_e 143 .iastore 1 0 0 0 0 0,
  ix_e 144 (.aload_n (0)) 1 0 0 0 0 0,
  ix_e 145 (.iload_n (1)) 1 1 0 0 0 0,
  ix_e 146 (.iload (4)) 2 4 0 0 0 0,
  ix_e 148 (.iload (5)) 2 5 0 0 0 0,
  ix_e 150 (.invokevirtual (154)) 3 112 4 0 5 0,
  ix_e 153 (.iinc 6 (1)) 3 6 0 0 0 1,
  ix_e 156 (.goto (-116)) 3 40 0 0 0 0,
  ix_e 159 .return_ 1 0 0 0 0 0]
/-- VotedBank$Poll.goodMove (I)I -/
def ix_t102 : List ix_E := [ix_e 0 (.iconst (0)) 1 0 0 0 0 0,
  ix_e 1 (.istore_n (2)) 1 2 0 0 0 0,
  ix_e 2 (.iconst (0)) 1 0 0 0 0 0,
  ix_e 3 (.istore_n (3)) 1 3 0 0 0 0,
  ix_c 4 (.iload_n (3)) 1 [true, true, true, true, false] 3 0 0 0 0,
  ix_e 5 (.aload_n (0)) 1 0 0 0 0 0,
  ix_e 6 (.getfield (24)) 3 5 0 2 0 0,
  ix_e 9 (.getfield (28)) 3 9 0 2 0 0,
  ix_e 12 (.getfield (56)) 3 6 6 0 0 0,
  ix_e 15 (.if_icmp .ge (21)) 3 36 0 0 0 0,
  ix_e 18 (.iload_n (2)) 1 2 0 0 0 0,
  ix_e 19 (.aload_n (0)) 1 0 0 0 0 0,
  ix_e 20 (.getfield (9)) 3 5 1 2 0 0,
  ix_e 23 (.iload_n (3)) 1 3 0 0 0 0,
  ix_e 24 .iaload 1 0 0 0 0 0,
  ix_e 25 (.invokestatic (161)) 3 113 1 1 0 0,
  ix_e 28 .ixor 1 0 0 0 0 0,
  ix_e 29 (.istore_n (2)) 1 2 0 0 0 0,
  ix_e 30 (.iinc 3 (1)) 3 3 0 0 0 1,
  ix_e 33 (.goto (-29)) 3 4 0 0 0 0,
  ix_e 36 (.iconst (0)) 1 0 0 0 0 0,
  ix_e 37 (.istore_n (3)) 1 3 0 0 0 0,
  ix_c 38 (.iload_n (3)) 1 [true, true, true, true, false] 3 0 0 0 0,
  ix_e 39 (.aload_n (0)) 1 0 0 0 0 0,
  ix_e 40 (.getfield (24)) 3 5 0 2 0 0,
  ix_e 43 (.getfield (28)) 3 9 0 2 0 0,
  ix_e 46 (.getfield (56)) 3 6 6 0 0 0,
  ix_e 49 (.if_icmp .ge (86)) 3 135 0 0 0 0,
  ix_e 52 (.iload_n (2)) 1 2 0 0 0 0,
  ix_e 53 (.aload_n (0)) 1 0 0 0 0 0,
  ix_e 54 (.getfield (9)) 3 5 1 2 0 0,
  ix_e 57 (.iload_n (3)) 1 3 0 0 0 0,
  ix_e 58 .iaload 1 0 0 0 0 0,
  ix_e 59 (.invokestatic (161)) 3 113 1 1 0 0,
  ix_e 62 .ixor 1 0 0 0 0 0,
  ix_e 63 (.istore (4)) 2 4 0 0 0 0,
  ix_e 65 (.aload_n (0)) 1 0 0 0 0 0,
  ix_e 66 (.getfield (9)) 3 5 1 2 0 0,
  ix_e 69 (.iload_n (3)) 1 3 0 0 0 0,
  ix_e 70 .iaload 1 0 0 0 0 0,
  ix_e 71 (.ifCond .le (29)) 3 100 0 0 0 0,
  ix_e 74 (.aload_n (0)) 1 0 0 0 0 0,
  ix_e 75 (.getfield (9)) 3 5 1 2 0 0,
  ix_e 78 (.iload_n (3)) 1 3 0 0 0 0,
  ix_e 79 .iaload 1 0 0 0 0 0,
  ix_e 80 (.iconst (1)) 1 0 0 0 0 1,
  ix_e 81 .isub 1 0 0 0 0 0,
  ix_e 82 (.invokestatic (161)) 3 113 1 1 0 0,
  ix_e 85 (.iload (4)) 2 4 0 0 0 0,
  ix_e 87 (.if_icmp .ne (13)) 3 100 0 0 0 0,
  ix_e 90 (.iload_n (1)) 1 1 0 0 0 0,
  ix_e 91 (.ifCond .ne (7)) 3 98 0 0 0 0,
  ix_e 94 (.iload_n (3)) 1 3 0 0 0 0,
  ix_e 95 (.goto (4)) 3 99 0 0 0 0,
  ix_e 98 (.iconst (1)) 1 0 0 0 0 1,
  ix_e 99 .ireturn 1 0 0 0 0 0,
  ix_e 100 (.aload_n (0)) 1 0 0 0 0 0,
  ix_e 101 (.getfield (9)) 3 5 1 2 0 0,
  ix_e 104 (.iload_n (3)) 1 3 0 0 0 0,
  ix_e 105 .iaload 1 0 0 0 0 0,
  ix_e 106 (.ifCond .le (23)) 3 129 0 0 0 0,
  ix_e 109 (.iload (4)) 2 4 0 0 0 0,
  ix_e 111 (.ifCond .ne (18)) 3 129 0 0 0 0,
  ix_e 114 (.iload_n (1)) 1 1 0 0 0 0,
  ix_e 115 (.ifCond .ne (7)) 3 122 0 0 0 0,
  ix_e 118 (.iload_n (3)) 1 3 0 0 0 0,
  ix_e 119 (.goto (9)) 3 128 0 0 0 0,
  ix_e 122 (.aload_n (0)) 1 0 0 0 0 0,
  ix_e 123 (.getfield (9)) 3 5 1 2 0 0,
  ix_e 126 (.iload_n (3)) 1 3 0 0 0 0,
  ix_e 127 .iaload 1 0 0 0 0 0,
  ix_e 128 .ireturn 1 0 0 0 0 0,
  ix_e 129 (.iinc 3 (1)) 3 3 0 0 0 1,
  ix_e 132 (.goto (-94)) 3 38 0 0 0 0,
  ix_e 135 (.iconst (-1)) 1 0 0 0 0 (-1),
  ix_e 136 .ireturn 1 0 0 0 0 0]
/-- VotedBank$Poll.firstLandOf (I)I -/
def ix_t103 : List ix_E := [ix_e 0 (.aload_n (0)) 1 0 0 0 0 0,
  ix_e 1 (.getfield (24)) 3 5 0 2 0 0,
  ix_e 4 (.getfield (28)) 3 9 0 2 0 0,
  ix_e 7 (.getfield (71)) 3 6 8 2 0 0,
  ix_e 10 (.iload_n (1)) 1 1 0 0 0 0,
  ix_e 11 .iaload 1 0 0 0 0 0,
  ix_e 12 (.invokestatic (74)) 3 38 1 1 0 1,
  ix_e 15 .ireturn 1 0 0 0 0 0]
/-- VotedBank$Poll.listBut (I)I -/
def ix_t104 : List ix_E := [ix_e 0 (.iconst (0)) 1 0 0 0 0 0,
  ix_e 1 (.istore_n (2)) 1 2 0 0 0 0,
  ix_e 2 (.iconst (0)) 1 0 0 0 0 0,
  ix_e 3 (.istore_n (3)) 1 3 0 0 0 0,
  ix_c 4 (.iload_n (3)) 1 [true, true, true, true] 3 0 0 0 0,
  ix_e 5 (.aload_n (0)) 1 0 0 0 0 0,
  ix_e 6 (.getfield (24)) 3 5 0 2 0 0,
  ix_e 9 (.getfield (28)) 3 9 0 2 0 0,
  ix_e 12 (.getfield (56)) 3 6 6 0 0 0,
  ix_e 15 (.if_icmp .ge (36)) 3 51 0 0 0 0,
  ix_e 18 (.aload_n (0)) 1 0 0 0 0 0,
  ix_e 19 (.getfield (9)) 3 5 1 2 0 0,
  ix_e 22 (.iload_n (3)) 1 3 0 0 0 0,
  ix_e 23 .iaload 1 0 0 0 0 0,
  ix_e 24 (.ifCond .le (21)) 3 45 0 0 0 0,
  ix_e 27 (.iload_n (1)) 1 1 0 0 0 0,
  ix_e 28 (.iload_n (3)) 1 3 0 0 0 0,
  ix_e 29 .ishr 1 0 0 0 0 0,
  ix_e 30 (.iconst (1)) 1 0 0 0 0 1,
  ix_e 31 .iand 1 0 0 0 0 0,
  ix_e 32 (.ifCond .ne (13)) 3 45 0 0 0 0,
  ix_e 35 (.aload_n (0)) 1 0 0 0 0 0,
  ix_e 36 (.getfield (18)) 3 5 3 2 0 0,
  ix_e 39 (.iload_n (2)) 1 2 0 0 0 0,
  ix_e 40 (.iload_n (3)) 1 3 0 0 0 0,
  ix_e 41 .iastore 1 0 0 0 0 0,
  ix_e 42 (.iinc 2 (1)) 3 2 0 0 0 1,
  ix_e 45 (.iinc 3 (1)) 3 3 0 0 0 1,
  ix_e 48 (.goto (-44)) 3 4 0 0 0 0,
  ix_e 51 (.iload_n (2)) 1 2 0 0 0 0,
  ix_e 52 .ireturn 1 0 0 0 0 0]
/-- VotedBank$Poll.turnsBank (II)Z -/
def ix_t105 : List ix_E := [ix_e 0 (.aload_n (0)) 1 0 0 0 0 0,
  ix_e 1 (.getfield (15)) 3 5 2 2 0 0,
  ix_e 4 (.invokestatic (111)) 3 39 1 1 0 1,
  ix_e 7 (.istore_n (3)) 1 3 0 0 0 0,
  ix_e 8 (.aload_n (0)) 1 0 0 0 0 0,
  ix_e 9 (.getfield (15)) 3 5 2 2 0 0,
  ix_e 12 (.iload_n (1)) 1 1 0 0 0 0,
  ix_e 13 .dup2 1 0 0 0 0 0,
  ix_e 14 .iaload 1 0 0 0 0 0,
  ix_e 15 (.iload_n (2)) 1 2 0 0 0 0,
  ix_e 16 .iadd 1 0 0 0 0 0,
  ix_e 17 .iastore 1 0 0 0 0 0,
  ix_e 18 (.aload_n (0)) 1 0 0 0 0 0,
  ix_e 19 (.getfield (15)) 3 5 2 2 0 0,
  ix_e 22 (.invokestatic (111)) 3 39 1 1 0 1,
  ix_e 25 (.istore (4)) 2 4 0 0 0 0,
  ix_e 27 (.aload_n (0)) 1 0 0 0 0 0,
  ix_e 28 (.getfield (15)) 3 5 2 2 0 0,
  ix_e 31 (.iload_n (1)) 1 1 0 0 0 0,
  ix_e 32 .dup2 1 0 0 0 0 0,
  ix_e 33 .iaload 1 0 0 0 0 0,
  ix_e 34 (.iload_n (2)) 1 2 0 0 0 0,
  ix_e 35 .isub 1 0 0 0 0 0,
  ix_e 36 .iastore 1 0 0 0 0 0,
  ix_e 37 (.iload_n (3)) 1 3 0 0 0 0,
  ix_e 38 (.iload (4)) 2 4 0 0 0 0,
  ix_e 40 (.if_icmp .eq (7)) 3 47 0 0 0 0,
  ix_e 43 (.iconst (1)) 1 0 0 0 0 1,
  ix_e 44 (.goto (4)) 3 48 0 0 0 0,
  ix_e 47 (.iconst (0)) 1 0 0 0 0 0,
  ix_e 48 .ireturn 1 1 0 0 0 0]
/-- VotedBank$Poll.changedAt (I)I -/
def ix_t106 : List ix_E := [ix_e 0 (.aload_n (0)) 1 0 0 0 0 0,
  ix_e 1 (.getfield (18)) 3 5 3 2 0 0,
  ix_e 4 (.iload_n (1)) 1 1 0 0 0 0,
  ix_e 5 (.invokestatic (102)) 3 287 1 1 0 0,
  ix_e 8 (.bipush (11)) 2 0 0 0 0 11,
  ix_e 10 (.invokestatic (105)) 3 285 2 1 0 0,
  ix_e 13 .iaload 1 0 0 0 0 0,
  ix_e 14 .ireturn 1 0 0 0 0 0]
/-- VotedBank$Poll.compare (Z)V -/
def ix_t107 : List ix_E := [ix_e 0 (.aload_n (0)) 1 0 0 0 0 0,
  ix_e 1 (.getfield (21)) 3 5 4 2 0 0,
  ix_e 4 (.iconst (0)) 1 0 0 0 0 0,
  ix_e 5 (.invokestatic (89)) 3 284 2 0 0 0,
  ix_e 8 (.iconst (0)) 1 0 0 0 0 0,
  ix_e 9 (.istore_n (2)) 1 2 0 0 0 0,
  ix_c 10 (.iload_n (2)) 1 [true, true, true] 2 0 0 0 0,
  ix_e 11 (.aload_n (0)) 1 0 0 0 0 0,
  ix_e 12 (.getfield (24)) 3 5 0 2 0 0,
  ix_e 15 (.getfield (28)) 3 9 0 2 0 0,
  ix_e 18 (.getfield (56)) 3 6 6 0 0 0,
  ix_e 21 (.if_icmp .ge (53)) 3 74 0 0 0 0,
  ix_e 24 (.aload_n (0)) 1 0 0 0 0 0,
  ix_e 25 (.getfield (24)) 3 5 0 2 0 0,
  ix_e 28 (.getfield (28)) 3 9 0 2 0 0,
  ix_e 31 (.iload_n (2)) 1 2 0 0 0 0,
  ix_e 32 (.invokevirtual (60)) 3 121 2 1 6 0,
  ix_e 35 (.ifCond .ne (33)) 3 68 0 0 0 0,
  ix_e 38 (.aload_n (0)) 1 0 0 0 0 0,
  ix_e 39 (.aload_n (0)) 1 0 0 0 0 0,
  ix_e 40 (.getfield (24)) 3 5 0 2 0 0,
  ix_e 43 (.getfield (28)) 3 9 0 2 0 0,
  ix_e 46 (.getfield (71)) 3 6 8 2 0 0,
  ix_e 49 (.iload_n (2)) 1 2 0 0 0 0,
  ix_e 50 .iaload 1 0 0 0 0 0,
  ix_e 51 (.iload_n (1)) 1 1 0 0 0 0,
  ix_e 52 (.ifCond .eq (12)) 3 64 0 0 0 0,
  ix_e 55 (.aload_n (0)) 1 0 0 0 0 0,
  ix_e 56 (.getfield (9)) 3 5 1 2 0 0,
  ix_e 59 (.iload_n (2)) 1 2 0 0 0 0,
  ix_e 60 .iaload 1 0 0 0 0 0,
  ix_e 61 (.goto (4)) 3 65 0 0 0 0,
  ix_e 64 (.iconst (1)) 1 0 0 0 0 1,
  ix_e 65 (.invokevirtual (119)) 3 114 3 0 5 0,
  ix_e 68 (.iinc 2 (1)) 3 2 0 0 0 1,
  ix_e 71 (.goto (-61)) 3 10 0 0 0 0,
  ix_e 74 .return_ 1 0 0 0 0 0]
/-- VotedBank$Poll.weakestOf (I)I -/
def ix_t108 : List ix_E := [ix_e 0 (.aload_n (0)) 1 0 0 0 0 0,
  ix_e 1 (.getfield (15)) 3 5 2 2 0 0,
  ix_e 4 (.iconst (0)) 1 0 0 0 0 0,
  ix_e 5 (.invokestatic (89)) 3 284 2 0 0 0,
  ix_e 8 (.iconst (0)) 1 0 0 0 0 0,
  ix_e 9 (.istore_n (2)) 1 2 0 0 0 0,
  ix_c 10 (.iload_n (2)) 1 [true, true, true, false] 2 0 0 0 0,
  ix_e 11 (.aload_n (0)) 1 0 0 0 0 0,
  ix_e 12 (.getfield (24)) 3 5 0 2 0 0,
  ix_e 15 (.getfield (28)) 3 9 0 2 0 0,
  ix_e 18 (.getfield (56)) 3 6 6 0 0 0,
  ix_e 21 (.if_icmp .ge (39)) 3 60 0 0 0 0,
  ix_e 24 (.aload_n (0)) 1 0 0 0 0 0,
  ix_e 25 (.getfield (15)) 3 5 2 2 0 0,
  ix_e 28 (.aload_n (0)) 1 0 0 0 0 0,
  ix_e 29 (.getfield (24)) 3 5 0 2 0 0,
  ix_e 32 (.getfield (28)) 3 9 0 2 0 0,
  ix_e 35 (.getfield (71)) 3 6 8 2 0 0,
  ix_e 38 (.iload_n (2)) 1 2 0 0 0 0,
  ix_e 39 .iaload 1 0 0 0 0 0,
  ix_e 40 (.iload_n (1)) 1 1 0 0 0 0,
  ix_e 41 (.invokestatic (133)) 3 115 2 1 0 0,
  ix_e 44 .dup2 1 0 0 0 0 0,
  ix_e 45 .iaload 1 0 0 0 0 0,
  ix_e 46 (.aload_n (0)) 1 0 0 0 0 0,
  ix_e 47 (.getfield (9)) 3 5 1 2 0 0,
  ix_e 50 (.iload_n (2)) 1 2 0 0 0 0,
  ix_e 51 .iaload 1 0 0 0 0 0,
  ix_e 52 .iadd 1 0 0 0 0 0,
  ix_e 53 .iastore 1 0 0 0 0 0,
  ix_e 54 (.iinc 2 (1)) 3 2 0 0 0 1,
  ix_e 57 (.goto (-47)) 3 10 0 0 0 0,
  ix_e 60 (.iconst (0)) 1 0 0 0 0 0,
  ix_e 61 (.istore_n (2)) 1 2 0 0 0 0,
  ix_e 62 (.iconst (1)) 1 0 0 0 0 1,
  ix_e 63 (.istore_n (3)) 1 3 0 0 0 0,
  ix_c 64 (.iload_n (3)) 1 [true, true, true, true] 3 0 0 0 0,
  ix_e 65 (.bipush (6)) 2 0 0 0 0 6,
  ix_e 67 (.if_icmp .ge (39)) 3 106 0 0 0 0,
  ix_e 70 (.iload_n (1)) 1 1 0 0 0 0,
  ix_e 71 (.iload_n (3)) 1 3 0 0 0 0,
  ix_e 72 .ishr 1 0 0 0 0 0,
  ix_e 73 (.iconst (1)) 1 0 0 0 0 1,
  ix_e 74 .iand 1 0 0 0 0 0,
  ix_e 75 (.iconst (1)) 1 0 0 0 0 1,
  ix_e 76 (.if_icmp .ne (24)) 3 100 0 0 0 0,
  ix_e 79 (.iload_n (2)) 1 2 0 0 0 0,
  ix_e 80 (.ifCond .eq (18)) 3 98 0 0 0 0,
  ix_e 83 (.aload_n (0)) 1 0 0 0 0 0,
  ix_e 84 (.getfield (15)) 3 5 2 2 0 0,
  ix_e 87 (.iload_n (3)) 1 3 0 0 0 0,
  ix_e 88 .iaload 1 0 0 0 0 0,
  ix_e 89 (.aload_n (0)) 1 0 0 0 0 0,
  ix_e 90 (.getfield (15)) 3 5 2 2 0 0,
  ix_e 93 (.iload_n (2)) 1 2 0 0 0 0,
  ix_e 94 .iaload 1 0 0 0 0 0,
  ix_e 95 (.if_icmp .gt (5)) 3 100 0 0 0 0,
  ix_e 98 (.iload_n (3)) 1 3 0 0 0 0,
  ix_e 99 (.istore_n (2)) 1 2 0 0 0 0,
  ix_e 100 (.iinc 3 (1)) 3 3 0 0 0 1,
  ix_e 103 (.goto (-39)) 3 64 0 0 0 0,
  ix_e 106 (.iload_n (2)) 1 2 0 0 0 0,
  ix_e 107 .ireturn 1 0 0 0 0 0]
/-- VotedBank$Poll.winnerInOrder (I)I -/
def ix_t109 : List ix_E := [ix_e 0 (.iload_n (1)) 1 1 0 0 0 0,
  ix_e 1 (.invokestatic (74)) 3 38 1 1 0 1,
  ix_e 4 (.istore_n (2)) 1 2 0 0 0 0,
  ix_e 5 (.sipush (1000)) 3 0 0 0 0 1000,
  ix_e 8 (.istore_n (3)) 1 3 0 0 0 0,
  ix_c 9 (.iload_n (3)) 1 [true, true, true, true, false] 3 0 0 0 0,
  ix_e 10 (.iconst (1)) 1 0 0 0 0 1,
  ix_e 11 (.if_icmp .lt (32)) 3 43 0 0 0 0,
  ix_e 14 (.iload_n (1)) 1 1 0 0 0 0,
  ix_e 15 (.iload_n (3)) 1 3 0 0 0 0,
  ix_e 16 .idiv 1 0 0 0 0 0,
  ix_e 17 (.bipush (10)) 2 0 0 0 0 10,
  ix_e 19 .irem 1 0 0 0 0 0,
  ix_e 20 (.istore (4)) 2 4 0 0 0 0,
  ix_e 22 (.aload_n (0)) 1 0 0 0 0 0,
  ix_e 23 (.iload_n (2)) 1 2 0 0 0 0,
  ix_e 24 (.iload (4)) 2 4 0 0 0 0,
  ix_e 26 (.invokevirtual (123)) 3 92 3 1 5 0,
  ix_e 29 (.ifCond .ge (6)) 3 35 0 0 0 0,
  ix_e 32 (.iload (4)) 2 4 0 0 0 0,
  ix_e 34 (.istore_n (2)) 1 2 0 0 0 0,
  ix_e 35 (.iload_n (3)) 1 3 0 0 0 0,
  ix_e 36 (.bipush (10)) 2 0 0 0 0 10,
  ix_e 38 .idiv 1 0 0 0 0 0,
  ix_e 39 (.istore_n (3)) 1 3 0 0 0 0,
  ix_e 40 (.goto (-31)) 3 9 0 0 0 0,
  ix_e 43 (.iload_n (2)) 1 2 0 0 0 0,
  ix_e 44 .ireturn 1 0 0 0 0 0]
/-- VotedBank$Poll.couplesAgainst (I)I -/
def ix_t110 : List ix_E := [ix_e 0 (.iconst (0)) 1 0 0 0 0 0,
  ix_e 1 (.istore_n (2)) 1 2 0 0 0 0,
  ix_e 2 (.sipush (10000)) 3 0 0 0 0 10000,
  ix_e 5 (.istore_n (3)) 1 3 0 0 0 0,
  ix_c 6 (.iload_n (3)) 1 [true, true, true, true, false, false] 3 0 0 0 0,
  ix_e 7 (.iconst (1)) 1 0 0 0 0 1,
  ix_e 8 (.if_icmp .le (62)) 3 70 0 0 0 0,
  ix_e 11 (.iload_n (1)) 1 1 0 0 0 0,
  ix_e 12 (.iload_n (3)) 1 3 0 0 0 0,
  ix_e 13 .idiv 1 0 0 0 0 0,
  ix_e 14 (.bipush (10)) 2 0 0 0 0 10,
  ix_e 16 .irem 1 0 0 0 0 0,
  ix_e 17 (.istore (4)) 2 4 0 0 0 0,
  ix_e 19 (.iload_n (3)) 1 3 0 0 0 0,
  ix_e 20 (.bipush (10)) 2 0 0 0 0 10,
  ix_e 22 .idiv 1 0 0 0 0 0,
  ix_e 23 (.istore (5)) 2 5 0 0 0 0,
  ix_c 25 (.iload (5)) 2 [true, true, true, true, true, true] 5 0 0 0 0,
  ix_e 27 (.iconst (1)) 1 0 0 0 0 1,
  ix_e 28 (.if_icmp .lt (34)) 3 62 0 0 0 0,
  ix_e 31 (.iload_n (2)) 1 2 0 0 0 0,
  ix_e 32 (.aload_n (0)) 1 0 0 0 0 0,
  ix_e 33 (.getfield (21)) 3 5 4 2 0 0,
  ix_e 36 (.iload_n (1)) 1 1 0 0 0 0,
  ix_e 37 (.iload (5)) 2 5 0 0 0 0,
  ix_e 39 .idiv 1 0 0 0 0 0,
  ix_e 40 (.bipush (10)) 2 0 0 0 0 10,
  ix_e 42 .irem 1 0 0 0 0 0,
  ix_e 43 (.bipush (6)) 2 0 0 0 0 6,
  ix_e 45 .imul 1 0 0 0 0 0,
  ix_e 46 (.iload (4)) 2 4 0 0 0 0,
  ix_e 48 .iadd 1 0 0 0 0 0,
  ix_e 49 .iaload 1 0 0 0 0 0,
  ix_e 50 .iadd 1 0 0 0 0 0,
  ix_e 51 (.istore_n (2)) 1 2 0 0 0 0,
  ix_e 52 (.iload (5)) 2 5 0 0 0 0,
  ix_e 54 (.bipush (10)) 2 0 0 0 0 10,
  ix_e 56 .idiv 1 0 0 0 0 0,
  ix_e 57 (.istore (5)) 2 5 0 0 0 0,
  ix_e 59 (.goto (-34)) 3 25 0 0 0 0,
  ix_e 62 (.iload_n (3)) 1 3 0 0 0 0,
  ix_e 63 (.bipush (10)) 2 0 0 0 0 10,
  ix_e 65 .idiv 1 0 0 0 0 0,
  ix_e 66 (.istore_n (3)) 1 3 0 0 0 0,
  ix_e 67 (.goto (-61)) 3 6 0 0 0 0,
  ix_e 70 (.iload_n (2)) 1 2 0 0 0 0,
  ix_e 71 .ireturn 1 0 0 0 0 0]
/-- VotedBank$Poll.layAll (I)I -/
def ix_t111 : List ix_E := [ix_e 0 (.aload_n (0)) 1 0 0 0 0 0,
  ix_e 1 (.getfield (15)) 3 5 2 2 0 0,
  ix_e 4 (.iconst (0)) 1 0 0 0 0 0,
  ix_e 5 (.invokestatic (89)) 3 284 2 0 0 0,
  ix_e 8 (.iconst (0)) 1 0 0 0 0 0,
  ix_e 9 (.istore_n (2)) 1 2 0 0 0 0,
  ix_e 10 (.iconst (0)) 1 0 0 0 0 0,
  ix_e 11 (.istore_n (3)) 1 3 0 0 0 0,
  ix_c 12 (.iload_n (3)) 1 [true, true, true, true] 3 0 0 0 0,
  ix_e 13 (.aload_n (0)) 1 0 0 0 0 0,
  ix_e 14 (.getfield (24)) 3 5 0 2 0 0,
  ix_e 17 (.getfield (28)) 3 9 0 2 0 0,
  ix_e 20 (.getfield (56)) 3 6 6 0 0 0,
  ix_e 23 (.if_icmp .ge (47)) 3 70 0 0 0 0,
  ix_e 26 (.aload_n (0)) 1 0 0 0 0 0,
  ix_e 27 (.getfield (15)) 3 5 2 2 0 0,
  ix_e 30 (.aload_n (0)) 1 0 0 0 0 0,
  ix_e 31 (.iload_n (3)) 1 3 0 0 0 0,
  ix_e 32 (.invokevirtual (78)) 3 103 2 1 5 0,
  ix_e 35 .dup2 1 0 0 0 0 0,
  ix_e 36 .iaload 1 0 0 0 0 0,
  ix_e 37 (.aload_n (0)) 1 0 0 0 0 0,
  ix_e 38 (.getfield (9)) 3 5 1 2 0 0,
  ix_e 41 (.iload_n (3)) 1 3 0 0 0 0,
  ix_e 42 .iaload 1 0 0 0 0 0,
  ix_e 43 .iadd 1 0 0 0 0 0,
  ix_e 44 .iastore 1 0 0 0 0 0,
  ix_e 45 (.iload_n (2)) 1 2 0 0 0 0,
  ix_e 46 (.aload_n (0)) 1 0 0 0 0 0,
  ix_e 47 (.iload_n (3)) 1 3 0 0 0 0,
  ix_e 48 (.invokevirtual (78)) 3 103 2 1 5 0,
  ix_e 51 (.iload_n (1)) 1 1 0 0 0 0,
  ix_e 52 (.if_icmp .ne (9)) 3 61 0 0 0 0,
  ix_e 55 (.iconst (1)) 1 0 0 0 0 1,
  ix_e 56 (.iload_n (3)) 1 3 0 0 0 0,
  ix_e 57 .ishl 1 0 0 0 0 0,
  ix_e 58 (.goto (4)) 3 62 0 0 0 0,
  ix_e 61 (.iconst (0)) 1 0 0 0 0 0,
  ix_e 62 .ior 1 0 0 0 0 0,
  ix_e 63 (.istore_n (2)) 1 2 0 0 0 0,
  ix_e 64 (.iinc 3 (1)) 3 3 0 0 0 1,
  ix_e 67 (.goto (-55)) 3 12 0 0 0 0,
  ix_e 70 (.iload_n (2)) 1 2 0 0 0 0,
  ix_e 71 .ireturn 1 0 0 0 0 0]
/-- VotedBank$Poll.keepIfCheaper (III)V -/
def ix_t112 : List ix_E := [ix_e 0 (.aload_n (0)) 1 0 0 0 0 0,
  ix_e 1 (.getfield (145)) 3 5 5 0 0 0,
  ix_e 4 (.iconst (-1)) 1 0 0 0 0 (-1),
  ix_e 5 (.if_icmp .eq (27)) 3 32 0 0 0 0,
  ix_e 8 (.iload_n (2)) 1 2 0 0 0 0,
  ix_e 9 (.aload_n (0)) 1 0 0 0 0 0,
  ix_e 10 (.getfield (145)) 3 5 5 0 0 0,
  ix_e 13 (.if_icmp .lt (19)) 3 32 0 0 0 0,
  ix_e 16 (.iload_n (2)) 1 2 0 0 0 0,
  ix_e 17 (.aload_n (0)) 1 0 0 0 0 0,
  ix_e 18 (.getfield (145)) 3 5 5 0 0 0,
  ix_e 21 (.if_icmp .ne (15)) 3 36 0 0 0 0,
  ix_e 24 (.iload_n (3)) 1 3 0 0 0 0,
  ix_e 25 (.aload_n (0)) 1 0 0 0 0 0,
  ix_e 26 (.getfield (148)) 3 5 6 0 0 0,
  ix_e 29 (.if_icmp .ge (7)) 3 36 0 0 0 0,
  ix_e 32 (.iconst (1)) 1 0 0 0 0 1,
  ix_e 33 (.goto (4)) 3 37 0 0 0 0,
  ix_e 36 (.iconst (0)) 1 0 0 0 0 0,
  ix_e 37 (.istore (4)) 2 4 0 0 0 0,
  ix_e 39 (.iload (4)) 2 4 0 0 0 0,
  ix_e 41 (.ifCond .eq (24)) 3 65 0 0 0 0,
  ix_e 44 (.aload_n (0)) 1 0 0 0 0 0,
  ix_e 45 (.getfield (15)) 3 5 2 2 0 0,
  ix_e 48 (.invokestatic (111)) 3 39 1 1 0 1,
  ix_e 51 (.iload_n (1)) 1 1 0 0 0 0,
  ix_e 52 (.if_icmp .ne (13)) 3 65 0 0 0 0,
  ix_e 55 (.aload_n (0)) 1 0 0 0 0 0,
  ix_e 56 (.iload_n (2)) 1 2 0 0 0 0,
  ix_e 57 (.putfield (145)) 3 5 5 0 0 0,
  ix_e 60 (.aload_n (0)) 1 0 0 0 0 0,
  ix_e 61 (.iload_n (3)) 1 3 0 0 0 0,
  ix_e 62 (.putfield (148)) 3 5 6 0 0 0,
  ix_e 65 .return_ 1 0 0 0 0 0]
/-- VotedBank$Poll.worth (I)I -/
def ix_t113 : List ix_E := [ix_e 0 (.iload_n (0)) 1 0 0 0 0 0,
  ix_e 1 (.ifCond .ne (7)) 3 8 0 0 0 0,
  ix_e 4 (.iconst (0)) 1 0 0 0 0 0,
  ix_e 5 (.goto (8)) 3 13 0 0 0 0,
  ix_e 8 (.iconst (2)) 1 0 0 0 0 2,
  ix_e 9 (.iload_n (0)) 1 0 0 0 0 0,
  ix_e 10 (.iconst (2)) 1 0 0 0 0 2,
  ix_e 11 .irem 1 0 0 0 0 0,
  ix_e 12 .isub 1 0 0 0 0 0,
  ix_e 13 .ireturn 1 0 0 0 0 0]
/-- VotedBank$Poll.addCouples (II)V -/
def ix_t114 : List ix_E := [ix_e 0 (.sipush (10000)) 3 0 0 0 0 10000,
  ix_e 3 (.istore_n (3)) 1 3 0 0 0 0,
  ix_c 4 (.iload_n (3)) 1 [true, true, true, true, false, false] 3 0 0 0 0,
  ix_e 5 (.iconst (1)) 1 0 0 0 0 1,
  ix_e 6 (.if_icmp .le (63)) 3 69 0 0 0 0,
  ix_e 9 (.iload_n (1)) 1 1 0 0 0 0,
  ix_e 10 (.iload_n (3)) 1 3 0 0 0 0,
  ix_e 11 .idiv 1 0 0 0 0 0,
  ix_e 12 (.bipush (10)) 2 0 0 0 0 10,
  ix_e 14 .irem 1 0 0 0 0 0,
  ix_e 15 (.istore (4)) 2 4 0 0 0 0,
  ix_e 17 (.iload_n (3)) 1 3 0 0 0 0,
  ix_e 18 (.bipush (10)) 2 0 0 0 0 10,
  ix_e 20 .idiv 1 0 0 0 0 0,
  ix_e 21 (.istore (5)) 2 5 0 0 0 0,
  ix_c 23 (.iload (5)) 2 [true, true, true, true, true, true] 5 0 0 0 0,
  ix_e 25 (.iconst (1)) 1 0 0 0 0 1,
  ix_e 26 (.if_icmp .lt (35)) 3 61 0 0 0 0,
  ix_e 29 (.aload_n (0)) 1 0 0 0 0 0,
  ix_e 30 (.getfield (21)) 3 5 4 2 0 0,
  ix_e 33 (.iload (4)) 2 4 0 0 0 0,
  ix_e 35 (.bipush (6)) 2 0 0 0 0 6,
  ix_e 37 .imul 1 0 0 0 0 0,
  ix_e 38 (.iload_n (1)) 1 1 0 0 0 0,
  ix_e 39 (.iload (5)) 2 5 0 0 0 0,
  ix_e 41 .idiv 1 0 0 0 0 0,
  ix_e 42 (.bipush (10)) 2 0 0 0 0 10,
  ix_e 44 .irem 1 0 0 0 0 0,
  ix_e 45 .iadd 1 0 0 0 0 0,
  ix_e 46 .dup2 1 0 0 0 0 0,
  ix_e 47 .iaload 1 0 0 0 0 0,
  ix_e 48 (.iload_n (2)) 1 2 0 0 0 0,
  ix_e 49 .iadd 1 0 0 0 0 0,
  ix_e 50 .iastore 1 0 0 0 0 0,
  ix_e 51 (.iload (5)) 2 5 0 0 0 0,
  ix_e 53 (.bipush (10)) 2 0 0 0 0 10,
  ix_e 55 .idiv 1 0 0 0 0 0,
  ix_e 56 (.istore (5)) 2 5 0 0 0 0,
  ix_e 58 (.goto (-35)) 3 23 0 0 0 0,
  ix_e 61 (.iload_n (3)) 1 3 0 0 0 0,
  ix_e 62 (.bipush (10)) 2 0 0 0 0 10,
  ix_e 64 .idiv 1 0 0 0 0 0,
  ix_e 65 (.istore_n (3)) 1 3 0 0 0 0,
  ix_e 66 (.goto (-62)) 3 4 0 0 0 0,
  ix_e 69 .return_ 1 0 0 0 0 0]
/-- VotedBank$Poll.firstAmong (II)I -/
def ix_t115 : List ix_E := [ix_e 0 (.sipush (10000)) 3 0 0 0 0 10000,
  ix_e 3 (.istore_n (2)) 1 2 0 0 0 0,
  ix_c 4 (.iload_n (2)) 1 [true, true, true, false] 2 0 0 0 0,
  ix_e 5 (.iconst (1)) 1 0 0 0 0 1,
  ix_e 6 (.if_icmp .lt (29)) 3 35 0 0 0 0,
  ix_e 9 (.iload_n (0)) 1 0 0 0 0 0,
  ix_e 10 (.iload_n (2)) 1 2 0 0 0 0,
  ix_e 11 .idiv 1 0 0 0 0 0,
  ix_e 12 (.bipush (10)) 2 0 0 0 0 10,
  ix_e 14 .irem 1 0 0 0 0 0,
  ix_e 15 (.istore_n (3)) 1 3 0 0 0 0,
  ix_e 16 (.iload_n (1)) 1 1 0 0 0 0,
  ix_e 17 (.iload_n (3)) 1 3 0 0 0 0,
  ix_e 18 .ishr 1 0 0 0 0 0,
  ix_e 19 (.iconst (1)) 1 0 0 0 0 1,
  ix_e 20 .iand 1 0 0 0 0 0,
  ix_e 21 (.iconst (1)) 1 0 0 0 0 1,
  ix_e 22 (.if_icmp .ne (5)) 3 27 0 0 0 0,
  ix_e 25 (.iload_n (3)) 1 3 0 0 0 0,
  ix_e 26 .ireturn 1 0 0 0 0 0,
  ix_e 27 (.iload_n (2)) 1 2 0 0 0 0,
  ix_e 28 (.bipush (10)) 2 0 0 0 0 10,
  ix_e 30 .idiv 1 0 0 0 0 0,
  ix_e 31 (.istore_n (2)) 1 2 0 0 0 0,
  ix_e 32 (.goto (-28)) 3 4 0 0 0 0,
  ix_e 35 (.iconst (0)) 1 0 0 0 0 0,
  ix_e 36 .ireturn 1 0 0 0 0 0]
/-- VotedBank$River.board (IIII)I -/
def ix_t116 : List ix_E := [ix_e 0 (.aload_n (0)) 1 0 0 0 0 0,
  ix_e 1 (.getfield (49)) 3 6 6 0 0 0,
  ix_e 4 (.bipush (12)) 2 0 0 0 0 12,
  ix_e 6 (.if_icmp .lt (5)) 3 11 0 0 0 0,
  ix_e 9 (.iconst (-1)) 1 0 0 0 0 (-1),
  ix_e 10 .ireturn 1 0 0 0 0 0,
  ix_e 11 (.aload_n (0)) 1 0 0 0 0 0,
  ix_e 12 (.getfield (49)) 3 6 6 0 0 0,
  ix_e 15 (.istore (5)) 2 5 0 0 0 0,
  ix_e 17 (.aload_n (0)) 1 0 0 0 0 0,
  ix_e 18 (.getfield (9)) 3 6 8 2 0 0,
  ix_e 21 (.iload (5)) 2 5 0 0 0 0,
  ix_e 23 (.iload_n (1)) 1 1 0 0 0 0,
  ix_e 24 .iastore 1 0 0 0 0 0,
  ix_e 25 (.aload_n (0)) 1 0 0 0 0 0,
  ix_e 26 (.getfield (15)) 3 6 9 2 0 0,
  ix_e 29 (.iload (5)) 2 5 0 0 0 0,
  ix_e 31 (.iload_n (2)) 1 2 0 0 0 0,
  ix_e 32 .iastore 1 0 0 0 0 0,
  ix_e 33 (.aload_n (0)) 1 0 0 0 0 0,
  ix_e 34 (.getfield (18)) 3 6 10 2 0 0,
  ix_e 37 (.iload (5)) 2 5 0 0 0 0,
  ix_e 39 (.iload_n (3)) 1 3 0 0 0 0,
  ix_e 40 .iastore 1 0 0 0 0 0,
  ix_e 41 (.aload_n (0)) 1 0 0 0 0 0,
  ix_e 42 (.getfield (21)) 3 6 11 2 0 0,
  ix_e 45 (.iload (5)) 2 5 0 0 0 0,
  ix_e 47 (.iload (4)) 2 4 0 0 0 0,
  ix_e 49 .iastore 1 0 0 0 0 0,
  ix_e 50 (.aload_n (0)) 1 0 0 0 0 0,
  ix_e 51 (.getfield (24)) 3 6 12 2 0 0,
  ix_e 54 (.iload (5)) 2 5 0 0 0 0,
  ix_e 56 (.iconst (0)) 1 0 0 0 0 0,
  ix_e 57 .iastore 1 0 0 0 0 0,
  ix_e 58 (.aload_n (0)) 1 0 0 0 0 0,
  ix_e 59 (.getfield (27)) 3 6 13 2 0 0,
  ix_e 62 (.iload (5)) 2 5 0 0 0 0,
  ix_e 64 (.iconst (0)) 1 0 0 0 0 0,
  ix_e 65 .iastore 1 0 0 0 0 0,
  ix_e 66 (.aload_n (0)) 1 0 0 0 0 0,
  ix_e 67 .dup 1 0 0 0 0 0,
  ix_e 68 (.getfield (49)) 3 6 6 0 0 0,
  ix_e 71 (.iconst (1)) 1 0 0 0 0 1,
  ix_e 72 .iadd 1 0 0 0 0 0,
  ix_e 73 (.putfield (49)) 3 6 6 0 0 0,
  ix_e 76 (.iload (5)) 2 5 0 0 0 0,
  ix_e 78 .ireturn 1 0 0 0 0 0]
/-- VotedBank$River.tell (II)Z -/
def ix_t117 : List ix_E := [ix_e 0 (.iload_n (1)) 1 1 0 0 0 0,
  ix_e 1 (.ifCond .ne (18)) 3 19 0 0 0 0,
  ix_e 4 (.iload_n (2)) 1 2 0 0 0 0,
  ix_e 5 (.invokestatic (61)) 3 34 1 1 0 1,
  ix_e 8 (.ifCond .eq (11)) 3 19 0 0 0 0,
  ix_e 11 (.aload_n (0)) 1 0 0 0 0 0,
  ix_e 12 (.iload_n (2)) 1 2 0 0 0 0,
  ix_e 13 (.putfield (40)) 3 6 3 0 0 0,
  ix_e 16 (.goto (52)) 3 68 0 0 0 0,
  ix_e 19 (.iload_n (1)) 1 1 0 0 0 0,
  ix_e 20 (.iconst (1)) 1 0 0 0 0 1,
  ix_e 21 (.if_icmp .ne (21)) 3 42 0 0 0 0,
  ix_e 24 (.iload_n (2)) 1 2 0 0 0 0,
  ix_e 25 (.ifCond .lt (17)) 3 42 0 0 0 0,
  ix_e 28 (.iload_n (2)) 1 2 0 0 0 0,
  ix_e 29 (.bipush (6)) 2 0 0 0 0 6,
  ix_e 31 (.if_icmp .ge (11)) 3 42 0 0 0 0,
  ix_e 34 (.aload_n (0)) 1 0 0 0 0 0,
  ix_e 35 (.iload_n (2)) 1 2 0 0 0 0,
  ix_e 36 (.putfield (34)) 3 6 1 0 0 0,
  ix_e 39 (.goto (29)) 3 68 0 0 0 0,
  ix_e 42 (.iload_n (1)) 1 1 0 0 0 0,
  ix_e 43 (.iconst (2)) 1 0 0 0 0 2,
  ix_e 44 (.if_icmp .ne (22)) 3 66 0 0 0 0,
  ix_e 47 (.iload_n (2)) 1 2 0 0 0 0,
  ix_e 48 (.ifCond .lt (18)) 3 66 0 0 0 0,
  ix_e 51 (.iload_n (2)) 1 2 0 0 0 0,
  ix_e 52 (.sipush (999)) 3 0 0 0 0 999,
  ix_e 55 (.if_icmp .gt (11)) 3 66 0 0 0 0,
  ix_e 58 (.aload_n (0)) 1 0 0 0 0 0,
  ix_e 59 (.iload_n (2)) 1 2 0 0 0 0,
  ix_e 60 (.putfield (37)) 3 6 2 0 0 0,
  ix_e 63 (.goto (5)) 3 68 0 0 0 0,
  ix_e 66 (.iconst (0)) 1 0 0 0 0 0,
  ix_e 67 .ireturn 1 1 0 0 0 0,
  ix_e 68 (.iconst (1)) 1 0 0 0 0 1,
  ix_e 69 .ireturn 1 1 0 0 0 0]
/-- VotedBank$River.tellOf (III)Z -/
def ix_t118 : List ix_E := [ix_e 0 (.aload_n (0)) 1 0 0 0 0 0,
  ix_e 1 (.iload_n (2)) 1 2 0 0 0 0,
  ix_e 2 (.invokevirtual (65)) 3 120 2 1 6 0,
  ix_e 5 (.ifCond .ne (5)) 3 10 0 0 0 0,
  ix_e 8 (.iconst (0)) 1 0 0 0 0 0,
  ix_e 9 .ireturn 1 1 0 0 0 0,
  ix_e 10 (.iload_n (1)) 1 1 0 0 0 0,
  ix_e 11 (.iconst (3)) 1 0 0 0 0 3,
  ix_e 12 (.if_icmp .ne (20)) 3 32 0 0 0 0,
  ix_e 15 (.iload_n (3)) 1 3 0 0 0 0,
  ix_e 16 (.invokestatic (68)) 3 33 1 1 0 1,
  ix_e 19 (.ifCond .eq (13)) 3 32 0 0 0 0,
  ix_e 22 (.aload_n (0)) 1 0 0 0 0 0,
  ix_e 23 (.getfield (9)) 3 6 8 2 0 0,
  ix_e 26 (.iload_n (2)) 1 2 0 0 0 0,
  ix_e 27 (.iload_n (3)) 1 3 0 0 0 0,
  ix_e 28 .iastore 1 0 0 0 0 0,
  ix_e 29 (.goto (49)) 3 78 0 0 0 0,
  ix_e 32 (.iload_n (1)) 1 1 0 0 0 0,
  ix_e 33 (.iconst (4)) 1 0 0 0 0 4,
  ix_e 34 (.if_icmp .ne (20)) 3 54 0 0 0 0,
  ix_e 37 (.iload_n (3)) 1 3 0 0 0 0,
  ix_e 38 (.invokestatic (61)) 3 34 1 1 0 1,
  ix_e 41 (.ifCond .eq (13)) 3 54 0 0 0 0,
  ix_e 44 (.aload_n (0)) 1 0 0 0 0 0,
  ix_e 45 (.getfield (18)) 3 6 10 2 0 0,
  ix_e 48 (.iload_n (2)) 1 2 0 0 0 0,
  ix_e 49 (.iload_n (3)) 1 3 0 0 0 0,
  ix_e 50 .iastore 1 0 0 0 0 0,
  ix_e 51 (.goto (27)) 3 78 0 0 0 0,
  ix_e 54 (.iload_n (1)) 1 1 0 0 0 0,
  ix_e 55 (.iconst (5)) 1 0 0 0 0 5,
  ix_e 56 (.if_icmp .ne (20)) 3 76 0 0 0 0,
  ix_e 59 (.iload_n (3)) 1 3 0 0 0 0,
  ix_e 60 (.invokestatic (61)) 3 34 1 1 0 1,
  ix_e 63 (.ifCond .eq (13)) 3 76 0 0 0 0,
  ix_e 66 (.aload_n (0)) 1 0 0 0 0 0,
  ix_e 67 (.getfield (21)) 3 6 11 2 0 0,
  ix_e 70 (.iload_n (2)) 1 2 0 0 0 0,
  ix_e 71 (.iload_n (3)) 1 3 0 0 0 0,
  ix_e 72 .iastore 1 0 0 0 0 0,
  ix_e 73 (.goto (5)) 3 78 0 0 0 0,
  ix_e 76 (.iconst (0)) 1 0 0 0 0 0,
  ix_e 77 .ireturn 1 1 0 0 0 0,
  ix_e 78 (.iconst (1)) 1 0 0 0 0 1,
  ix_e 79 .ireturn 1 1 0 0 0 0]
/-- VotedBank$River.canRow (I)Z -/
def ix_t119 : List ix_E := [ix_e 0 (.iload_n (1)) 1 1 0 0 0 0,
  ix_e 1 (.ifCond .eq (18)) 3 19 0 0 0 0,
  ix_e 4 (.iload_n (1)) 1 1 0 0 0 0,
  ix_e 5 (.aload_n (0)) 1 0 0 0 0 0,
  ix_e 6 (.invokevirtual (75)) 3 122 1 1 6 0,
  ix_e 9 (.iconst (-1)) 1 0 0 0 0 (-1),
  ix_e 10 .ixor 1 0 0 0 0 0,
  ix_e 11 .iand 1 0 0 0 0 0,
  ix_e 12 (.ifCond .ne (7)) 3 19 0 0 0 0,
  ix_e 15 (.iconst (1)) 1 0 0 0 0 1,
  ix_e 16 (.goto (4)) 3 20 0 0 0 0,
  ix_e 19 (.iconst (0)) 1 0 0 0 0 0,
  ix_e 20 .ireturn 1 1 0 0 0 0]
/-- VotedBank$River.has (I)Z -/
def ix_t120 : List ix_E := [ix_e 0 (.iload_n (1)) 1 1 0 0 0 0,
  ix_e 1 (.ifCond .lt (15)) 3 16 0 0 0 0,
  ix_e 4 (.iload_n (1)) 1 1 0 0 0 0,
  ix_e 5 (.aload_n (0)) 1 0 0 0 0 0,
  ix_e 6 (.getfield (49)) 3 6 6 0 0 0,
  ix_e 9 (.if_icmp .ge (7)) 3 16 0 0 0 0,
  ix_e 12 (.iconst (1)) 1 0 0 0 0 1,
  ix_e 13 (.goto (4)) 3 17 0 0 0 0,
  ix_e 16 (.iconst (0)) 1 0 0 0 0 0,
  ix_e 17 .ireturn 1 1 0 0 0 0]
/-- VotedBank$River.isOver (I)Z -/
def ix_t121 : List ix_E := [ix_e 0 (.aload_n (0)) 1 0 0 0 0 0,
  ix_e 1 (.getfield (52)) 3 6 7 0 0 0,
  ix_e 4 (.iload_n (1)) 1 1 0 0 0 0,
  ix_e 5 .ishr 1 0 0 0 0 0,
  ix_e 6 (.iconst (1)) 1 0 0 0 0 1,
  ix_e 7 .iand 1 0 0 0 0 0,
  ix_e 8 (.iconst (1)) 1 0 0 0 0 1,
  ix_e 9 (.if_icmp .ne (7)) 3 16 0 0 0 0,
  ix_e 12 (.iconst (1)) 1 0 0 0 0 1,
  ix_e 13 (.goto (4)) 3 17 0 0 0 0,
  ix_e 16 (.iconst (0)) 1 0 0 0 0 0,
  ix_e 17 .ireturn 1 1 0 0 0 0]
/-- VotedBank$River.notOver ()I -/
def ix_t122 : List ix_E := [ix_e 0 (.aload_n (0)) 1 0 0 0 0 0,
  ix_e 1 (.invokevirtual (71)) 3 123 1 1 6 0,
  ix_e 4 (.aload_n (0)) 1 0 0 0 0 0,
  ix_e 5 (.getfield (52)) 3 6 7 0 0 0,
  ix_e 8 (.iconst (-1)) 1 0 0 0 0 (-1),
  ix_e 9 .ixor 1 0 0 0 0 0,
  ix_e 10 .iand 1 0 0 0 0 0,
  ix_e 11 .ireturn 1 0 0 0 0 0]
/-- VotedBank$River.everyone ()I -/
def ix_t123 : List ix_E := [ix_e 0 (.iconst (1)) 1 0 0 0 0 1,
  ix_e 1 (.aload_n (0)) 1 0 0 0 0 0,
  ix_e 2 (.getfield (49)) 3 6 6 0 0 0,
  ix_e 5 .ishl 1 0 0 0 0 0,
  ix_e 6 (.iconst (1)) 1 0 0 0 0 1,
  ix_e 7 .isub 1 0 0 0 0 0,
  ix_e 8 .ireturn 1 0 0 0 0 0]
/-- VotedBank$River.trait (II)I -/
def ix_t124 : List ix_E := [ix_e 0 (.iload_n (2)) 1 2 0 0 0 0,
  ix_e 1 (.tableswitch (94) (0) (6) #[43, 50, 57, 64, 71, 80, 87]) 43 0 0 0 0 0,
  ix_e 44 (.aload_n (0)) 1 0 0 0 0 0,
  ix_e 45 (.getfield (9)) 3 6 8 2 0 0,
  ix_e 48 (.iload_n (1)) 1 1 0 0 0 0,
  ix_e 49 .iaload 1 0 0 0 0 0,
  ix_e 50 .ireturn 1 0 0 0 0 0,
  ix_e 51 (.aload_n (0)) 1 0 0 0 0 0,
  ix_e 52 (.getfield (15)) 3 6 9 2 0 0,
  ix_e 55 (.iload_n (1)) 1 1 0 0 0 0,
  ix_e 56 .iaload 1 0 0 0 0 0,
  ix_e 57 .ireturn 1 0 0 0 0 0,
  ix_e 58 (.aload_n (0)) 1 0 0 0 0 0,
  ix_e 59 (.getfield (18)) 3 6 10 2 0 0,
  ix_e 62 (.iload_n (1)) 1 1 0 0 0 0,
  ix_e 63 .iaload 1 0 0 0 0 0,
  ix_e 64 .ireturn 1 0 0 0 0 0,
  ix_e 65 (.aload_n (0)) 1 0 0 0 0 0,
  ix_e 66 (.getfield (21)) 3 6 11 2 0 0,
  ix_e 69 (.iload_n (1)) 1 1 0 0 0 0,
  ix_e 70 .iaload 1 0 0 0 0 0,
  ix_e 71 .ireturn 1 0 0 0 0 0,
  ix_e 72 (.aload_n (0)) 1 0 0 0 0 0,
  ix_e 73 (.getfield (52)) 3 6 7 0 0 0,
  ix_e 76 (.iload_n (1)) 1 1 0 0 0 0,
  ix_e 77 .ishr 1 0 0 0 0 0,
  ix_e 78 (.iconst (1)) 1 0 0 0 0 1,
  ix_e 79 .iand 1 0 0 0 0 0,
  ix_e 80 .ireturn 1 0 0 0 0 0,
  ix_e 81 (.aload_n (0)) 1 0 0 0 0 0,
  ix_e 82 (.getfield (24)) 3 6 12 2 0 0,
  ix_e 85 (.iload_n (1)) 1 1 0 0 0 0,
  ix_e 86 .iaload 1 0 0 0 0 0,
  ix_e 87 .ireturn 1 0 0 0 0 0,
  ix_e 88 (.aload_n (0)) 1 0 0 0 0 0,
  ix_e 89 (.getfield (27)) 3 6 13 2 0 0,
  ix_e 92 (.iload_n (1)) 1 1 0 0 0 0,
  ix_e 93 .iaload 1 0 0 0 0 0,
  ix_e 94 .ireturn 1 0 0 0 0 0,
  ix_e 95 (.iconst (-1)) 1 0 0 0 0 (-1),
  ix_e 96 .ireturn 1 0 0 0 0 0]
/-- VotedBank$River.nearestTo (I)I -/
def ix_t125 : List ix_E := [ix_e 0 (.iconst (-1)) 1 0 0 0 0 (-1),
  ix_e 1 (.istore_n (2)) 1 2 0 0 0 0,
  ix_e 2 (.iconst (0)) 1 0 0 0 0 0,
  ix_e 3 (.istore_n (3)) 1 3 0 0 0 0,
  ix_e 4 (.iconst (0)) 1 0 0 0 0 0,
  ix_e 5 (.istore (4)) 2 4 0 0 0 0,
  ix_c 7 (.iload (4)) 2 [true, true, true, true, true, false] 4 0 0 0 0,
  ix_e 9 (.aload_n (0)) 1 0 0 0 0 0,
  ix_e 10 (.getfield (49)) 3 6 6 0 0 0,
  ix_e 13 (.if_icmp .ge (59)) 3 72 0 0 0 0,
  ix_e 16 (.iload (4)) 2 4 0 0 0 0,
  ix_e 18 (.iload_n (1)) 1 1 0 0 0 0,
  ix_e 19 (.if_icmp .eq (47)) 3 66 0 0 0 0,
  ix_e 22 (.aload_n (0)) 1 0 0 0 0 0,
  ix_e 23 (.iload (4)) 2 4 0 0 0 0,
  ix_e 25 (.invokevirtual (84)) 3 121 2 1 6 0,
  ix_e 28 (.ifCond .ne (38)) 3 66 0 0 0 0,
  ix_e 31 (.aload_n (0)) 1 0 0 0 0 0,
  ix_e 32 (.getfield (9)) 3 6 8 2 0 0,
  ix_e 35 (.iload_n (1)) 1 1 0 0 0 0,
  ix_e 36 .iaload 1 0 0 0 0 0,
  ix_e 37 (.aload_n (0)) 1 0 0 0 0 0,
  ix_e 38 (.getfield (9)) 3 6 8 2 0 0,
  ix_e 41 (.iload (4)) 2 4 0 0 0 0,
  ix_e 43 .iaload 1 0 0 0 0 0,
  ix_e 44 (.invokestatic (87)) 3 36 2 1 0 1,
  ix_e 47 (.istore (5)) 2 5 0 0 0 0,
  ix_e 49 (.iload_n (2)) 1 2 0 0 0 0,
  ix_e 50 (.iconst (-1)) 1 0 0 0 0 (-1),
  ix_e 51 (.if_icmp .eq (9)) 3 60 0 0 0 0,
  ix_e 54 (.iload (5)) 2 5 0 0 0 0,
  ix_e 56 (.iload_n (3)) 1 3 0 0 0 0,
  ix_e 57 (.if_icmp .ge (9)) 3 66 0 0 0 0,
  ix_e 60 (.iload (4)) 2 4 0 0 0 0,
  ix_e 62 (.istore_n (2)) 1 2 0 0 0 0,
  ix_e 63 (.iload (5)) 2 5 0 0 0 0,
  ix_e 65 (.istore_n (3)) 1 3 0 0 0 0,
  ix_e 66 (.iinc 4 (1)) 3 4 0 0 0 1,
  ix_e 69 (.goto (-62)) 3 7 0 0 0 0,
  ix_e 72 (.iload_n (2)) 1 2 0 0 0 0,
  ix_e 73 .ireturn 1 0 0 0 0 0]
/-- VotedBank$River.<init> ()V -/
def ix_t126 : List ix_E := [ix_e 0 (.aload_n (0)) 1 0 0 0 0 0,
  ix_e 1 (.invokespecial (3)) 3 0 0 2 0 0,
  ix_e 4 (.aload_n (0)) 1 0 0 0 0 0,
  ix_e 5 (.bipush (12)) 2 0 0 0 0 12,
  ix_e 7 (.newarray .int) 2 0 0 0 0 0,
  ix_e 9 (.putfield (9)) 3 6 8 2 0 0,
  ix_e 12 (.aload_n (0)) 1 0 0 0 0 0,
  ix_e 13 (.bipush (12)) 2 0 0 0 0 12,
  ix_e 15 (.newarray .int) 2 0 0 0 0 0,
  ix_e 17 (.putfield (15)) 3 6 9 2 0 0,
  ix_e 20 (.aload_n (0)) 1 0 0 0 0 0,
  ix_e 21 (.bipush (12)) 2 0 0 0 0 12,
  ix_e 23 (.newarray .int) 2 0 0 0 0 0,
  ix_e 25 (.putfield (18)) 3 6 10 2 0 0,
  ix_e 28 (.aload_n (0)) 1 0 0 0 0 0,
  ix_e 29 (.bipush (12)) 2 0 0 0 0 12,
  ix_e 31 (.newarray .int) 2 0 0 0 0 0,
  ix_e 33 (.putfield (21)) 3 6 11 2 0 0,
  ix_e 36 (.aload_n (0)) 1 0 0 0 0 0,
  ix_e 37 (.bipush (12)) 2 0 0 0 0 12,
  ix_e 39 (.newarray .int) 2 0 0 0 0 0,
  ix_e 41 (.putfield (24)) 3 6 12 2 0 0,
  ix_e 44 (.aload_n (0)) 1 0 0 0 0 0,
  ix_e 45 (.bipush (12)) 2 0 0 0 0 12,
  ix_e 47 (.newarray .int) 2 0 0 0 0 0,
  ix_e 49 (.putfield (27)) 3 6 13 2 0 0,
  ix_e 52 .return_ 1 0 0 0 0 0]
/-- VotedBank$River.copyFrom (LVotedBank$River;)V -/
def ix_t127 : List ix_E := [ix_e 0 (.aload_n (0)) 1 0 0 0 0 0,
  ix_e 1 (.aload_n (1)) 1 1 0 0 0 0,
  ix_e 2 (.getfield (30)) 3 6 0 0 0 0,
  ix_e 5 (.putfield (30)) 3 6 0 0 0 0,
  ix_e 8 (.aload_n (0)) 1 0 0 0 0 0,
  ix_e 9 (.aload_n (1)) 1 1 0 0 0 0,
  ix_e 10 (.getfield (34)) 3 6 1 0 0 0,
  ix_e 13 (.putfield (34)) 3 6 1 0 0 0,
  ix_e 16 (.aload_n (0)) 1 0 0 0 0 0,
  ix_e 17 (.aload_n (1)) 1 1 0 0 0 0,
  ix_e 18 (.getfield (37)) 3 6 2 0 0 0,
  ix_e 21 (.putfield (37)) 3 6 2 0 0 0,
  ix_e 24 (.aload_n (0)) 1 0 0 0 0 0,
  ix_e 25 (.aload_n (1)) 1 1 0 0 0 0,
  ix_e 26 (.getfield (40)) 3 6 3 0 0 0,
  ix_e 29 (.putfield (40)) 3 6 3 0 0 0,
  ix_e 32 (.aload_n (0)) 1 0 0 0 0 0,
  ix_e 33 (.aload_n (1)) 1 1 0 0 0 0,
  ix_e 34 (.getfield (43)) 3 6 4 0 0 0,
  ix_e 37 (.putfield (43)) 3 6 4 0 0 0,
  ix_e 40 (.aload_n (0)) 1 0 0 0 0 0,
  ix_e 41 (.aload_n (1)) 1 1 0 0 0 0,
  ix_e 42 (.getfield (46)) 3 6 5 0 0 0,
  ix_e 45 (.putfield (46)) 3 6 5 0 0 0,
  ix_e 48 (.aload_n (0)) 1 0 0 0 0 0,
  ix_e 49 (.aload_n (1)) 1 1 0 0 0 0,
  ix_e 50 (.getfield (49)) 3 6 6 0 0 0,
  ix_e 53 (.putfield (49)) 3 6 6 0 0 0,
  ix_e 56 (.aload_n (0)) 1 0 0 0 0 0,
  ix_e 57 (.aload_n (1)) 1 1 0 0 0 0,
  ix_e 58 (.getfield (52)) 3 6 7 0 0 0,
  ix_e 61 (.putfield (52)) 3 6 7 0 0 0,
  ix_e 64 (.aload_n (1)) 1 1 0 0 0 0,
  ix_e 65 (.getfield (9)) 3 6 8 2 0 0,
  ix_e 68 (.iconst (0)) 1 0 0 0 0 0,
  ix_e 69 (.aload_n (0)) 1 0 0 0 0 0,
  ix_e 70 (.getfield (9)) 3 6 8 2 0 0,
  ix_e 73 (.iconst (0)) 1 0 0 0 0 0,
  ix_e 74 (.bipush (12)) 2 0 0 0 0 12,
  ix_e 76 (.invokestatic (55)) 3 0 0 2 0 0,
  ix_e 79 (.aload_n (1)) 1 1 0 0 0 0,
  ix_e 80 (.getfield (15)) 3 6 9 2 0 0,
  ix_e 83 (.iconst (0)) 1 0 0 0 0 0,
  ix_e 84 (.aload_n (0)) 1 0 0 0 0 0,
  ix_e 85 (.getfield (15)) 3 6 9 2 0 0,
  ix_e 88 (.iconst (0)) 1 0 0 0 0 0,
  ix_e 89 (.bipush (12)) 2 0 0 0 0 12,
  ix_e 91 (.invokestatic (55)) 3 0 0 2 0 0,
  ix_e 94 (.aload_n (1)) 1 1 0 0 0 0,
  ix_e 95 (.getfield (18)) 3 6 10 2 0 0,
  ix_e 98 (.iconst (0)) 1 0 0 0 0 0,
  ix_e 99 (.aload_n (0)) 1 0 0 0 0 0,
  ix_e 100 (.getfield (18)) 3 6 10 2 0 0,
  ix_e 103 (.iconst (0)) 1 0 0 0 0 0,
  ix_e 104 (.bipush (12)) 2 0 0 0 0 12,
  ix_e 106 (.invokestatic (55)) 3 0 0 2 0 0,
  ix_e 109 (.aload_n (1)) 1 1 0 0 0 0,
  ix_e 110 (.getfield (21)) 3 6 11 2 0 0,
  ix_e 113 (.iconst (0)) 1 0 0 0 0 0,
  ix_e 114 (.aload_n (0)) 1 0 0 0 0 0,
  ix_e 115 (.getfield (21)) 3 6 11 2 0 0,
  ix_e 118 (.iconst (0)) 1 0 0 0 0 0,
  ix_e 119 (.bipush (12)) 2 0 0 0 0 12,
  ix_e 121 (.invokestatic (55)) 3 0 0 2 0 0,
  ix_e 124 (.aload_n (1)) 1 1 0 0 0 0,
  ix_e 125 (.getfield (24)) 3 6 12 2 0 0,
  ix_e 128 (.iconst (0)) 1 0 0 0 0 0,
  ix_e 129 (.aload_n (0)) 1 0 0 0 0 0,
  ix_e 130 (.getfield (24)) 3 6 12 2 0 0,
  ix_e 133 (.iconst (0)) 1 0 0 0 0 0,
  ix_e 134 (.bipush (12)) 2 0 0 0 0 12,
  ix_e 136 (.invokestatic (55)) 3 0 0 2 0 0,
  ix_e 139 (.aload_n (1)) 1 1 0 0 0 0,
  ix_e 140 (.getfield (27)) 3 6 13 2 0 0,
  ix_e 143 (.iconst (0)) 1 0 0 0 0 0,
  ix_e 144 (.aload_n (0)) 1 0 0 0 0 0,
  ix_e 145 (.getfield (27)) 3 6 13 2 0 0,
  ix_e 148 (.iconst (0)) 1 0 0 0 0 0,
  ix_e 149 (.bipush (12)) 2 0 0 0 0 12,
  ix_e 151 (.invokestatic (55)) 3 0 0 2 0 0,
  ix_e 154 .return_ 1 0 0 0 0 0]
/-- VotedBank$River.settle (I)V -/
def ix_t128 : List ix_E := [ix_e 0 (.aload_n (0)) 1 0 0 0 0 0,
  ix_e 1 (.iload_n (1)) 1 1 0 0 0 0,
  ix_e 2 (.aload_n (0)) 1 0 0 0 0 0,
  ix_e 3 (.getfield (34)) 3 6 1 0 0 0,
  ix_e 6 (.if_icmp .ne (18)) 3 24 0 0 0 0,
  ix_e 9 (.aload_n (0)) 1 0 0 0 0 0,
  ix_e 10 (.getfield (37)) 3 6 2 0 0 0,
  ix_e 13 (.iconst (1)) 1 0 0 0 0 1,
  ix_e 14 .iadd 1 0 0 0 0 0,
  ix_e 15 (.sipush (999)) 3 0 0 0 0 999,
  ix_e 18 (.invokestatic (91)) 3 285 2 1 0 0,
  ix_e 21 (.goto (4)) 3 25 0 0 0 0,
  ix_e 24 (.iconst (0)) 1 0 0 0 0 0,
  ix_e 25 (.putfield (37)) 3 6 2 0 0 0,
  ix_e 28 (.aload_n (0)) 1 0 0 0 0 0,
  ix_e 29 (.iload_n (1)) 1 1 0 0 0 0,
  ix_e 30 (.putfield (34)) 3 6 1 0 0 0,
  ix_e 33 .return_ 1 0 0 0 0 0]
/-- VotedBank$River.talkerTo (II)I -/
def ix_t129 : List ix_E := [ix_e 0 (.aload_n (0)) 1 0 0 0 0 0,
  ix_e 1 (.getfield (9)) 3 6 8 2 0 0,
  ix_e 4 (.iload_n (1)) 1 1 0 0 0 0,
  ix_e 5 .iaload 1 0 0 0 0 0,
  ix_e 6 (.invokestatic (80)) 3 38 1 1 0 1,
  ix_e 9 (.istore_n (3)) 1 3 0 0 0 0,
  ix_e 10 (.iconst (-1)) 1 0 0 0 0 (-1),
  ix_e 11 (.istore (4)) 2 4 0 0 0 0,
  ix_e 13 (.iconst (0)) 1 0 0 0 0 0,
  ix_e 14 (.istore (5)) 2 5 0 0 0 0,
  ix_c 16 (.iload (5)) 2 [true, false, true, true, true, true] 5 0 0 0 0,
  ix_e 18 (.aload_n (0)) 1 0 0 0 0 0,
  ix_e 19 (.getfield (49)) 3 6 6 0 0 0,
  ix_e 22 (.if_icmp .ge (60)) 3 82 0 0 0 0,
  ix_e 25 (.iload_n (2)) 1 2 0 0 0 0,
  ix_e 26 (.iload (5)) 2 5 0 0 0 0,
  ix_e 28 .ishr 1 0 0 0 0 0,
  ix_e 29 (.iconst (1)) 1 0 0 0 0 1,
  ix_e 30 .iand 1 0 0 0 0 0,
  ix_e 31 (.iconst (1)) 1 0 0 0 0 1,
  ix_e 32 (.if_icmp .ne (44)) 3 76 0 0 0 0,
  ix_e 35 (.aload_n (0)) 1 0 0 0 0 0,
  ix_e 36 (.getfield (9)) 3 6 8 2 0 0,
  ix_e 39 (.iload (5)) 2 5 0 0 0 0,
  ix_e 41 .iaload 1 0 0 0 0 0,
  ix_e 42 (.invokestatic (80)) 3 38 1 1 0 1,
  ix_e 45 (.iload_n (3)) 1 3 0 0 0 0,
  ix_e 46 (.if_icmp .eq (30)) 3 76 0 0 0 0,
  ix_e 49 (.iload (4)) 2 4 0 0 0 0,
  ix_e 51 (.iconst (-1)) 1 0 0 0 0 (-1),
  ix_e 52 (.if_icmp .eq (20)) 3 72 0 0 0 0,
  ix_e 55 (.aload_n (0)) 1 0 0 0 0 0,
  ix_e 56 (.getfield (18)) 3 6 10 2 0 0,
  ix_e 59 (.iload (5)) 2 5 0 0 0 0,
  ix_e 61 .iaload 1 0 0 0 0 0,
  ix_e 62 (.aload_n (0)) 1 0 0 0 0 0,
  ix_e 63 (.getfield (18)) 3 6 10 2 0 0,
  ix_e 66 (.iload (4)) 2 4 0 0 0 0,
  ix_e 68 .iaload 1 0 0 0 0 0,
  ix_e 69 (.if_icmp .le (7)) 3 76 0 0 0 0,
  ix_e 72 (.iload (5)) 2 5 0 0 0 0,
  ix_e 74 (.istore (4)) 2 4 0 0 0 0,
  ix_e 76 (.iinc 5 (1)) 3 5 0 0 0 1,
  ix_e 79 (.goto (-63)) 3 16 0 0 0 0,
  ix_e 82 (.iload (4)) 2 4 0 0 0 0,
  ix_e 84 .ireturn 1 0 0 0 0 0]
/-- VotedBank$River.sameFirst (II)I -/
def ix_t130 : List ix_E := [ix_e 0 (.aload_n (0)) 1 0 0 0 0 0,
  ix_e 1 (.getfield (9)) 3 6 8 2 0 0,
  ix_e 4 (.iload_n (1)) 1 1 0 0 0 0,
  ix_e 5 .iaload 1 0 0 0 0 0,
  ix_e 6 (.sipush (10000)) 3 0 0 0 0 10000,
  ix_e 9 .idiv 1 0 0 0 0 0,
  ix_e 10 (.istore_n (3)) 1 3 0 0 0 0,
  ix_e 11 (.iconst (0)) 1 0 0 0 0 0,
  ix_e 12 (.istore (4)) 2 4 0 0 0 0,
  ix_e 14 (.iconst (0)) 1 0 0 0 0 0,
  ix_e 15 (.istore (5)) 2 5 0 0 0 0,
  ix_c 17 (.iload (5)) 2 [true, false, true, true, true, true] 5 0 0 0 0,
  ix_e 19 (.aload_n (0)) 1 0 0 0 0 0,
  ix_e 20 (.getfield (49)) 3 6 6 0 0 0,
  ix_e 23 (.if_icmp .ge (37)) 3 60 0 0 0 0,
  ix_e 26 (.iload_n (2)) 1 2 0 0 0 0,
  ix_e 27 (.iload (5)) 2 5 0 0 0 0,
  ix_e 29 .ishr 1 0 0 0 0 0,
  ix_e 30 (.iconst (1)) 1 0 0 0 0 1,
  ix_e 31 .iand 1 0 0 0 0 0,
  ix_e 32 (.iconst (1)) 1 0 0 0 0 1,
  ix_e 33 (.if_icmp .ne (21)) 3 54 0 0 0 0,
  ix_e 36 (.aload_n (0)) 1 0 0 0 0 0,
  ix_e 37 (.getfield (9)) 3 6 8 2 0 0,
  ix_e 40 (.iload (5)) 2 5 0 0 0 0,
  ix_e 42 .iaload 1 0 0 0 0 0,
  ix_e 43 (.sipush (10000)) 3 0 0 0 0 10000,
  ix_e 46 .idiv 1 0 0 0 0 0,
  ix_e 47 (.iload_n (3)) 1 3 0 0 0 0,
  ix_e 48 (.if_icmp .ne (6)) 3 54 0 0 0 0,
  ix_e 51 (.iinc 4 (1)) 3 4 0 0 0 1,
  ix_e 54 (.iinc 5 (1)) 3 5 0 0 0 1,
  ix_e 57 (.goto (-40)) 3 17 0 0 0 0,
  ix_e 60 (.iload (4)) 2 4 0 0 0 0,
  ix_e 62 .ireturn 1 0 0 0 0 0]
/-- VotedBank$River.draw (I)I -/
def ix_t131 : List ix_E := [ix_e 0 (.aload_n (0)) 1 0 0 0 0 0,
  ix_e 1 (.aload_n (0)) 1 0 0 0 0 0,
  ix_e 2 (.getfield (30)) 3 6 0 0 0 0,
  ix_e 5 (.ldc (78)) 2 0 0 0 0 1664525,
  ix_e 7 .imul 1 0 0 0 0 0,
  ix_e 8 (.ldc (79)) 2 0 0 0 0 1013904223,
  ix_e 10 .iadd 1 0 0 0 0 0,
  ix_e 11 (.putfield (30)) 3 6 0 0 0 0,
  ix_e 14 (.iload_n (1)) 1 1 0 0 0 0,
  ix_e 15 (.ifCond .le (15)) 3 30 0 0 0 0,
  ix_e 18 (.aload_n (0)) 1 0 0 0 0 0,
  ix_e 19 (.getfield (30)) 3 6 0 0 0 0,
  ix_e 22 (.bipush (8)) 2 0 0 0 0 8,
  ix_e 24 .iushr 1 0 0 0 0 0,
  ix_e 25 (.iload_n (1)) 1 1 0 0 0 0,
  ix_e 26 .irem 1 0 0 0 0 0,
  ix_e 27 (.goto (4)) 3 31 0 0 0 0,
  ix_e 30 (.iconst (0)) 1 0 0 0 0 0,
  ix_e 31 .ireturn 1 0 0 0 0 0]
/-- VotedBank$Tape.<init> ()V -/
def ix_t132 : List ix_E := [ix_e 0 (.aload_n (0)) 1 0 0 0 0 0,
  ix_e 1 (.invokespecial (1)) 3 0 0 2 0 0,
  ix_e 4 (.aload_n (0)) 1 0 0 0 0 0,
  ix_e 5 (.sipush (400)) 3 0 0 0 0 400,
  ix_e 8 (.newarray .byte) 2 0 0 0 0 0,
  ix_e 10 (.putfield (9)) 3 7 0 2 0 0,
  ix_e 13 (.aload_n (0)) 1 0 0 0 0 0,
  ix_e 14 (.sipush (401)) 3 0 0 0 0 401,
  ix_e 17 (.newarray .int) 2 0 0 0 0 0,
  ix_e 19 (.putfield (13)) 3 7 2 2 0 0,
  ix_e 22 (.aload_n (0)) 1 0 0 0 0 0,
  ix_e 23 (.sipush (401)) 3 0 0 0 0 401,
  ix_e 26 (.newarray .int) 2 0 0 0 0 0,
  ix_e 28 (.putfield (17)) 3 7 3 2 0 0,
  ix_e 31 (.aload_n (0)) 1 0 0 0 0 0,
  ix_e 32 (.sipush (401)) 3 0 0 0 0 401,
  ix_e 35 (.newarray .int) 2 0 0 0 0 0,
  ix_e 37 (.putfield (20)) 3 7 4 2 0 0,
  ix_e 40 .return_ 1 0 0 0 0 0]
/-- VotedBank$Tape.hasRoom ()Z -/
def ix_t133 : List ix_E := [ix_e 0 (.aload_n (0)) 1 0 0 0 0 0,
  ix_e 1 (.getfield (23)) 3 7 1 0 0 0,
  ix_e 4 (.bipush (20)) 2 0 0 0 0 20,
  ix_e 6 .iadd 1 0 0 0 0 0,
  ix_e 7 (.sipush (400)) 3 0 0 0 0 400,
  ix_e 10 (.if_icmp .gt (7)) 3 17 0 0 0 0,
  ix_e 13 (.iconst (1)) 1 0 0 0 0 1,
  ix_e 14 (.goto (4)) 3 18 0 0 0 0,
  ix_e 17 (.iconst (0)) 1 0 0 0 0 0,
  ix_e 18 .ireturn 1 1 0 0 0 0]
/-- VotedBank$Tape.put (I)V -/
def ix_t134 : List ix_E := [ix_e 0 (.bipush (24)) 2 0 0 0 0 24,
  ix_e 2 (.istore_n (2)) 1 2 0 0 0 0,
  ix_c 3 (.iload_n (2)) 1 [true, true, true] 2 0 0 0 0,
  ix_e 4 (.ifCond .lt (42)) 3 46 0 0 0 0,
  ix_e 7 (.aload_n (0)) 1 0 0 0 0 0,
  ix_e 8 (.getfield (23)) 3 7 1 0 0 0,
  ix_e 11 (.sipush (400)) 3 0 0 0 0 400,
  ix_e 14 (.if_icmp .ge (32)) 3 46 0 0 0 0,
  ix_e 17 (.aload_n (0)) 1 0 0 0 0 0,
  ix_e 18 (.getfield (9)) 3 7 0 2 0 0,
  ix_e 21 (.aload_n (0)) 1 0 0 0 0 0,
  ix_e 22 (.getfield (23)) 3 7 1 0 0 0,
  ix_e 25 (.iload_n (1)) 1 1 0 0 0 0,
  ix_e 26 (.iload_n (2)) 1 2 0 0 0 0,
  ix_e 27 .ishr 1 0 0 0 0 0,
  ix_e 28 .i2b 1 0 0 0 0 0,
  ix_e 29 .bastore 1 0 0 0 0 0,
  ix_e 30 (.aload_n (0)) 1 0 0 0 0 0,
  ix_e 31 .dup 1 0 0 0 0 0,
  ix_e 32 (.getfield (23)) 3 7 1 0 0 0,
  ix_e 35 (.iconst (1)) 1 0 0 0 0 1,
  ix_e 36 .iadd 1 0 0 0 0 0,
  ix_e 37 (.putfield (23)) 3 7 1 0 0 0,
  ix_e 40 (.iinc 2 (-8)) 3 2 0 1 0 8,
  ix_e 43 (.goto (-40)) 3 3 0 0 0 0,
  ix_e 46 .return_ 1 0 0 0 0 0]
/-- VotedBank$Tape.rewind (Ljava/lang/String;)V -/
def ix_t135 : List ix_E := [ix_e 0 (.aload_n (0)) 1 0 0 0 0 0,
  ix_e 1 (.iconst (0)) 1 0 0 0 0 0,
  ix_e 2 (.putfield (27)) 3 7 5 0 0 0,
  ix_e 5 (.iconst (0)) 1 0 0 0 0 0,
  ix_e 6 (.istore_n (2)) 1 2 0 0 0 0,
  ix_e 7 (.iconst (0)) 1 0 0 0 0 0,
  ix_e 8 (.istore_n (3)) 1 3 0 0 0 0,
  ix_c 9 (.iload_n (3)) 1 [true, true, true, true, false] 3 0 0 0 0,
  ix_e 10 (.sipush (400)) 3 0 0 0 0 400,
  ix_e 13 (.if_icmp .ge (117)) 3 130 0 0 0 0,
  ix_e 16 (.iload_n (2)) 1 2 0 0 0 0,
  ix_e 17 (.aload_n (0)) 1 0 0 0 0 0,
  ix_e 18 (.getfield (23)) 3 7 1 0 0 0,
  ix_e 21 (.if_icmp .ge (109)) 3 130 0 0 0 0,
  ix_e 24 (.aload_n (0)) 1 0 0 0 0 0,
  ix_e 25 (.getfield (9)) 3 7 0 2 0 0,
  ix_e 28 (.iload_n (2)) 1 2 0 0 0 0,
  ix_e 29 .baload 1 0 0 0 0 0,
  ix_e 30 (.invokestatic (30)) 3 136 1 1 0 0,
  ix_e 33 (.ifCond .eq (9)) 3 42 0 0 0 0,
  ix_e 36 (.iinc 2 (1)) 3 2 0 0 0 1,
  ix_e 39 (.goto (85)) 3 124 0 0 0 0,
  ix_e 42 (.aload_n (0)) 1 0 0 0 0 0,
  ix_e 43 (.getfield (9)) 3 7 0 2 0 0,
  ix_e 46 (.iload_n (2)) 1 2 0 0 0 0,
  ix_e 47 .baload 1 0 0 0 0 0,
  ix_e 48 (.invokestatic (34)) 3 137 1 1 0 0,
  ix_e 51 (.ifCond .eq (13)) 3 64 0 0 0 0,
  ix_e 54 (.aload_n (0)) 1 0 0 0 0 0,
  ix_e 55 (.iload_n (2)) 1 2 0 0 0 0,
  ix_e 56 (.aload_n (1)) 1 1 0 0 0 0,
  ix_e 57 (.invokevirtual (37)) 3 138 3 1 7 0,
  ix_e 60 (.istore_n (2)) 1 2 0 0 0 0,
  ix_e 61 (.goto (63)) 3 124 0 0 0 0,
  ix_e 64 (.aload_n (0)) 1 0 0 0 0 0,
  ix_e 65 (.getfield (9)) 3 7 0 2 0 0,
  ix_e 68 (.iload_n (2)) 1 2 0 0 0 0,
  ix_e 69 .baload 1 0 0 0 0 0,
  ix_e 70 (.invokestatic (41)) 3 139 1 1 0 0,
  ix_e 73 (.ifCond .eq (12)) 3 85 0 0 0 0,
  ix_e 76 (.aload_n (0)) 1 0 0 0 0 0,
  ix_e 77 (.iload_n (2)) 1 2 0 0 0 0,
  ix_e 78 (.invokevirtual (44)) 3 140 2 1 7 0,
  ix_e 81 (.istore_n (2)) 1 2 0 0 0 0,
  ix_e 82 (.goto (42)) 3 124 0 0 0 0,
  ix_e 85 (.aload_n (0)) 1 0 0 0 0 0,
  ix_e 86 (.getfield (9)) 3 7 0 2 0 0,
  ix_e 89 (.iload_n (2)) 1 2 0 0 0 0,
  ix_e 90 .baload 1 0 0 0 0 0,
  ix_e 91 (.sipush (255)) 3 0 0 0 0 255,
  ix_e 94 .iand 1 0 0 0 0 0,
  ix_e 95 (.istore (4)) 2 4 0 0 0 0,
  ix_e 97 (.aload_n (0)) 1 0 0 0 0 0,
  ix_e 98 (.ldc (48)) 2 1006 1 0 0 0,
  ix_e 100 (.iload (4)) 2 4 0 0 0 0,
  ix_e 102 .i2c 1 0 0 0 0 0,
  ix_e 103 (.invokevirtual (50)) 3 288 2 1 99 0,
  ix_e 106 (.ifCond .lt (8)) 3 114 0 0 0 0,
  ix_e 109 (.iload (4)) 2 4 0 0 0 0,
  ix_e 111 (.goto (5)) 3 116 0 0 0 0,
  ix_e 114 (.bipush (31)) 2 0 0 0 0 31,
  ix_e 116 (.iconst (0)) 1 0 0 0 0 0,
  ix_e 117 (.iload_n (2)) 1 2 0 0 0 0,
  ix_e 118 (.invokevirtual (55)) 3 141 4 0 7 0,
  ix_e 121 (.iinc 2 (1)) 3 2 0 0 0 1,
  ix_e 124 (.iinc 3 (1)) 3 3 0 0 0 1,
  ix_e 127 (.goto (-118)) 3 9 0 0 0 0,
  ix_e 130 (.aload_n (0)) 1 0 0 0 0 0,
  ix_e 131 (.bipush (32)) 2 0 0 0 0 32,
  ix_e 133 (.iconst (0)) 1 0 0 0 0 0,
  ix_e 134 (.aload_n (0)) 1 0 0 0 0 0,
  ix_e 135 (.getfield (23)) 3 7 1 0 0 0,
  ix_e 138 (.invokevirtual (55)) 3 141 4 0 7 0,
  ix_e 141 (.aload_n (0)) 1 0 0 0 0 0,
  ix_e 142 (.iconst (-1)) 1 0 0 0 0 (-1),
  ix_e 143 (.putfield (59)) 3 7 6 0 0 0,
  ix_e 146 (.aload_n (0)) 1 0 0 0 0 0,
  ix_e 147 (.invokevirtual (62)) 3 142 1 0 7 0,
  ix_e 150 .return_ 1 0 0 0 0 0]
/-- VotedBank$Tape.isBlank (I)Z -/
def ix_t136 : List ix_E := [ix_e 0 (.iload_n (0)) 1 0 0 0 0 0,
  ix_e 1 (.bipush (32)) 2 0 0 0 0 32,
  ix_e 3 (.if_icmp .eq (9)) 3 12 0 0 0 0,
  ix_e 6 (.iload_n (0)) 1 0 0 0 0 0,
  ix_e 7 (.bipush (10)) 2 0 0 0 0 10,
  ix_e 9 (.if_icmp .ne (7)) 3 16 0 0 0 0,
  ix_e 12 (.iconst (1)) 1 0 0 0 0 1,
  ix_e 13 (.goto (4)) 3 17 0 0 0 0,
  ix_e 16 (.iconst (0)) 1 0 0 0 0 0,
  ix_e 17 .ireturn 1 1 0 0 0 0]
/-- VotedBank$Tape.isLetter (I)Z -/
def ix_t137 : List ix_E := [ix_e 0 (.iload_n (0)) 1 0 0 0 0 0,
  ix_e 1 (.bipush (97)) 2 0 0 0 0 97,
  ix_e 3 (.if_icmp .lt (9)) 3 12 0 0 0 0,
  ix_e 6 (.iload_n (0)) 1 0 0 0 0 0,
  ix_e 7 (.bipush (122)) 2 0 0 0 0 122,
  ix_e 9 (.if_icmp .le (15)) 3 24 0 0 0 0,
  ix_e 12 (.iload_n (0)) 1 0 0 0 0 0,
  ix_e 13 (.bipush (65)) 2 0 0 0 0 65,
  ix_e 15 (.if_icmp .lt (13)) 3 28 0 0 0 0,
  ix_e 18 (.iload_n (0)) 1 0 0 0 0 0,
  ix_e 19 (.bipush (90)) 2 0 0 0 0 90,
  ix_e 21 (.if_icmp .gt (7)) 3 28 0 0 0 0,
  ix_e 24 (.iconst (1)) 1 0 0 0 0 1,
  ix_e 25 (.goto (4)) 3 29 0 0 0 0,
  ix_e 28 (.iconst (0)) 1 0 0 0 0 0,
  ix_e 29 .ireturn 1 1 0 0 0 0]
/-- VotedBank$Tape.addWord (ILjava/lang/String;)I -/
def ix_t138 : List ix_E := [ix_e 0 (.iload_n (1)) 1 1 0 0 0 0,
  ix_e 1 (.istore_n (3)) 1 3 0 0 0 0,
  ix_c 2 (.iload_n (3)) 1 [true, true, true, true, false, false, false, false] 3 0 0 0 0,
  ix_e 3 (.aload_n (0)) 1 0 0 0 0 0,
  ix_e 4 (.getfield (23)) 3 7 1 0 0 0,
  ix_e 7 (.if_icmp .ge (21)) 3 28 0 0 0 0,
  ix_e 10 (.aload_n (0)) 1 0 0 0 0 0,
  ix_e 11 (.getfield (9)) 3 7 0 2 0 0,
  ix_e 14 (.iload_n (3)) 1 3 0 0 0 0,
  ix_e 15 .baload 1 0 0 0 0 0,
  ix_e 16 (.invokestatic (34)) 3 137 1 1 0 0,
  ix_e 19 (.ifCond .eq (9)) 3 28 0 0 0 0,
  ix_e 22 (.iinc 3 (1)) 3 3 0 0 0 1,
  ix_e 25 (.goto (-23)) 3 2 0 0 0 0,
  ix_e 28 (.bipush (31)) 2 0 0 0 0 31,
  ix_e 30 (.istore (4)) 2 4 0 0 0 0,
  ix_e 32 (.iconst (0)) 1 0 0 0 0 0,
  ix_e 33 (.istore (5)) 2 5 0 0 0 0,
  ix_e 35 (.iconst (0)) 1 0 0 0 0 0,
  ix_e 36 (.istore (6)) 2 6 0 0 0 0,
  ix_e 38 (.iconst (0)) 1 0 0 0 0 0,
  ix_e 39 (.istore (7)) 2 7 0 0 0 0,
  ix_c 41 (.iload (7)) 2 [true, true, true, true, true, true, true, true] 7 0 0 0 0,
  ix_e 43 (.aload_n (2)) 1 2 0 0 0 0,
  ix_e 44 (.invokevirtual (74)) 3 290 1 1 99 0,
  ix_e 47 (.if_icmp .gt (72)) 3 119 0 0 0 0,
  ix_e 50 (.iload (4)) 2 4 0 0 0 0,
  ix_e 52 (.bipush (31)) 2 0 0 0 0 31,
  ix_e 54 (.if_icmp .ne (65)) 3 119 0 0 0 0,
  ix_e 57 (.iload (7)) 2 7 0 0 0 0,
  ix_e 59 (.aload_n (2)) 1 2 0 0 0 0,
  ix_e 60 (.invokevirtual (74)) 3 290 1 1 99 0,
  ix_e 63 (.if_icmp .eq (14)) 3 77 0 0 0 0,
  ix_e 66 (.aload_n (2)) 1 2 0 0 0 0,
  ix_e 67 (.iload (7)) 2 7 0 0 0 0,
  ix_e 69 (.invokevirtual (78)) 3 291 2 1 99 0,
  ix_e 72 (.bipush (32)) 2 0 0 0 0 32,
  ix_e 74 (.if_icmp .ne (39)) 3 113 0 0 0 0,
  ix_e 77 (.iload (7)) 2 7 0 0 0 0,
  ix_e 79 (.iload (6)) 2 6 0 0 0 0,
  ix_e 81 .isub 1 0 0 0 0 0,
  ix_e 82 (.iload_n (3)) 1 3 0 0 0 0,
  ix_e 83 (.iload_n (1)) 1 1 0 0 0 0,
  ix_e 84 .isub 1 0 0 0 0 0,
  ix_e 85 (.if_icmp .ne (19)) 3 104 0 0 0 0,
  ix_e 88 (.aload_n (0)) 1 0 0 0 0 0,
  ix_e 89 (.iload_n (1)) 1 1 0 0 0 0,
  ix_e 90 (.iload_n (3)) 1 3 0 0 0 0,
  ix_e 91 (.aload_n (2)) 1 2 0 0 0 0,
  ix_e 92 (.iload (6)) 2 6 0 0 0 0,
  ix_e 94 (.invokevirtual (82)) 3 143 5 1 7 0,
  ix_e 97 (.ifCond .eq (7)) 3 104 0 0 0 0,
  ix_e 100 (.iload (5)) 2 5 0 0 0 0,
  ix_e 102 (.istore (4)) 2 4 0 0 0 0,
  ix_e 104 (.iinc 5 (1)) 3 5 0 0 0 1,
  ix_e 107 (.iload (7)) 2 7 0 0 0 0,
  ix_e 109 (.iconst (1)) 1 0 0 0 0 1,
  ix_e 110 .iadd 1 0 0 0 0 0,
  ix_e 111 (.istore (6)) 2 6 0 0 0 0,
  ix_e 113 (.iinc 7 (1)) 3 7 0 0 0 1,
  ix_e 116 (.goto (-75)) 3 41 0 0 0 0,
  ix_e 119 (.aload_n (0)) 1 0 0 0 0 0,
  ix_e 120 (.iload (4)) 2 4 0 0 0 0,
  ix_e 122 (.iconst (0)) 1 0 0 0 0 0,
  ix_e 123 (.iload_n (1)) 1 1 0 0 0 0,
  ix_e 124 (.invokevirtual (55)) 3 141 4 0 7 0,
  ix_e 127 (.iload_n (3)) 1 3 0 0 0 0,
  ix_e 128 .ireturn 1 0 0 0 0 0]
/-- VotedBank$Tape.isFigure (I)Z -/
def ix_t139 : List ix_E := [ix_e 0 (.iload_n (0)) 1 0 0 0 0 0,
  ix_e 1 (.bipush (48)) 2 0 0 0 0 48,
  ix_e 3 (.if_icmp .lt (13)) 3 16 0 0 0 0,
  ix_e 6 (.iload_n (0)) 1 0 0 0 0 0,
  ix_e 7 (.bipush (57)) 2 0 0 0 0 57,
  ix_e 9 (.if_icmp .gt (7)) 3 16 0 0 0 0,
  ix_e 12 (.iconst (1)) 1 0 0 0 0 1,
  ix_e 13 (.goto (4)) 3 17 0 0 0 0,
  ix_e 16 (.iconst (0)) 1 0 0 0 0 0,
  ix_e 17 .ireturn 1 1 0 0 0 0]
/-- VotedBank$Tape.addNumber (I)I -/
def ix_t140 : List ix_E := [ix_e 0 (.iload_n (1)) 1 1 0 0 0 0,
  ix_e 1 (.istore_n (2)) 1 2 0 0 0 0,
  ix_e 2 (.iconst (0)) 1 0 0 0 0 0,
  ix_e 3 (.istore_n (3)) 1 3 0 0 0 0,
  ix_c 4 (.iload_n (2)) 1 [true, true, true, true] 2 0 0 0 0,
  ix_e 5 (.aload_n (0)) 1 0 0 0 0 0,
  ix_e 6 (.getfield (23)) 3 7 1 0 0 0,
  ix_e 9 (.if_icmp .ge (36)) 3 45 0 0 0 0,
  ix_e 12 (.aload_n (0)) 1 0 0 0 0 0,
  ix_e 13 (.getfield (9)) 3 7 0 2 0 0,
  ix_e 16 (.iload_n (2)) 1 2 0 0 0 0,
  ix_e 17 .baload 1 0 0 0 0 0,
  ix_e 18 (.invokestatic (41)) 3 139 1 1 0 0,
  ix_e 21 (.ifCond .eq (24)) 3 45 0 0 0 0,
  ix_e 24 (.iload_n (3)) 1 3 0 0 0 0,
  ix_e 25 (.bipush (10)) 2 0 0 0 0 10,
  ix_e 27 .imul 1 0 0 0 0 0,
  ix_e 28 (.aload_n (0)) 1 0 0 0 0 0,
  ix_e 29 (.getfield (9)) 3 7 0 2 0 0,
  ix_e 32 (.iload_n (2)) 1 2 0 0 0 0,
  ix_e 33 .baload 1 0 0 0 0 0,
  ix_e 34 .iadd 1 0 0 0 0 0,
  ix_e 35 (.bipush (48)) 2 0 0 0 0 48,
  ix_e 37 .isub 1 0 0 0 0 0,
  ix_e 38 (.istore_n (3)) 1 3 0 0 0 0,
  ix_e 39 (.iinc 2 (1)) 3 2 0 0 0 1,
  ix_e 42 (.goto (-38)) 3 4 0 0 0 0,
  ix_e 45 (.aload_n (0)) 1 0 0 0 0 0,
  ix_e 46 (.iload_n (2)) 1 2 0 0 0 0,
  ix_e 47 (.iload_n (1)) 1 1 0 0 0 0,
  ix_e 48 .isub 1 0 0 0 0 0,
  ix_e 49 (.iconst (4)) 1 0 0 0 0 4,
  ix_e 50 (.if_icmp .gt (8)) 3 58 0 0 0 0,
  ix_e 53 (.bipush (33)) 2 0 0 0 0 33,
  ix_e 55 (.goto (5)) 3 60 0 0 0 0,
  ix_e 58 (.bipush (31)) 2 0 0 0 0 31,
  ix_e 60 (.iload_n (3)) 1 3 0 0 0 0,
  ix_e 61 (.iload_n (1)) 1 1 0 0 0 0,
  ix_e 62 (.invokevirtual (55)) 3 141 4 0 7 0,
  ix_e 65 (.iload_n (2)) 1 2 0 0 0 0,
  ix_e 66 .ireturn 1 0 0 0 0 0]
/-- VotedBank$Tape.addToken (III)V -/
def ix_t141 : List ix_E := [ix_e 0 (.aload_n (0)) 1 0 0 0 0 0,
  ix_e 1 (.getfield (27)) 3 7 5 0 0 0,
  ix_e 4 (.sipush (400)) 3 0 0 0 0 400,
  ix_e 7 (.if_icmp .gt (43)) 3 50 0 0 0 0,
  ix_e 10 (.aload_n (0)) 1 0 0 0 0 0,
  ix_e 11 (.getfield (13)) 3 7 2 2 0 0,
  ix_e 14 (.aload_n (0)) 1 0 0 0 0 0,
  ix_e 15 (.getfield (27)) 3 7 5 0 0 0,
  ix_e 18 (.iload_n (1)) 1 1 0 0 0 0,
  ix_e 19 .iastore 1 0 0 0 0 0,
  ix_e 20 (.aload_n (0)) 1 0 0 0 0 0,
  ix_e 21 (.getfield (17)) 3 7 3 2 0 0,
  ix_e 24 (.aload_n (0)) 1 0 0 0 0 0,
  ix_e 25 (.getfield (27)) 3 7 5 0 0 0,
  ix_e 28 (.iload_n (2)) 1 2 0 0 0 0,
  ix_e 29 .iastore 1 0 0 0 0 0,
  ix_e 30 (.aload_n (0)) 1 0 0 0 0 0,
  ix_e 31 (.getfield (20)) 3 7 4 2 0 0,
  ix_e 34 (.aload_n (0)) 1 0 0 0 0 0,
  ix_e 35 (.getfield (27)) 3 7 5 0 0 0,
  ix_e 38 (.iload_n (3)) 1 3 0 0 0 0,
  ix_e 39 .iastore 1 0 0 0 0 0,
  ix_e 40 (.aload_n (0)) 1 0 0 0 0 0,
  ix_e 41 .dup 1 0 0 0 0 0,
  ix_e 42 (.getfield (27)) 3 7 5 0 0 0,
  ix_e 45 (.iconst (1)) 1 0 0 0 0 1,
  ix_e 46 .iadd 1 0 0 0 0 0,
  ix_e 47 (.putfield (27)) 3 7 5 0 0 0,
  ix_e 50 .return_ 1 0 0 0 0 0]
/-- VotedBank$Tape.advance ()V -/
def ix_t142 : List ix_E := [ix_e 0 (.aload_n (0)) 1 0 0 0 0 0,
  ix_e 1 (.getfield (59)) 3 7 6 0 0 0,
  ix_e 4 (.iconst (1)) 1 0 0 0 0 1,
  ix_e 5 .iadd 1 0 0 0 0 0,
  ix_e 6 (.aload_n (0)) 1 0 0 0 0 0,
  ix_e 7 (.getfield (27)) 3 7 5 0 0 0,
  ix_e 10 (.if_icmp .ge (52)) 3 62 0 0 0 0,
  ix_e 13 (.aload_n (0)) 1 0 0 0 0 0,
  ix_e 14 .dup 1 0 0 0 0 0,
  ix_e 15 (.getfield (59)) 3 7 6 0 0 0,
  ix_e 18 (.iconst (1)) 1 0 0 0 0 1,
  ix_e 19 .iadd 1 0 0 0 0 0,
  ix_e 20 (.putfield (59)) 3 7 6 0 0 0,
  ix_e 23 (.aload_n (0)) 1 0 0 0 0 0,
  ix_e 24 (.aload_n (0)) 1 0 0 0 0 0,
  ix_e 25 (.getfield (13)) 3 7 2 2 0 0,
  ix_e 28 (.aload_n (0)) 1 0 0 0 0 0,
  ix_e 29 (.getfield (59)) 3 7 6 0 0 0,
  ix_e 32 .iaload 1 0 0 0 0 0,
  ix_e 33 (.putfield (65)) 3 7 7 0 0 0,
  ix_e 36 (.aload_n (0)) 1 0 0 0 0 0,
  ix_e 37 (.aload_n (0)) 1 0 0 0 0 0,
  ix_e 38 (.getfield (17)) 3 7 3 2 0 0,
  ix_e 41 (.aload_n (0)) 1 0 0 0 0 0,
  ix_e 42 (.getfield (59)) 3 7 6 0 0 0,
  ix_e 45 .iaload 1 0 0 0 0 0,
  ix_e 46 (.putfield (68)) 3 7 8 0 0 0,
  ix_e 49 (.aload_n (0)) 1 0 0 0 0 0,
  ix_e 50 (.aload_n (0)) 1 0 0 0 0 0,
  ix_e 51 (.getfield (20)) 3 7 4 2 0 0,
  ix_e 54 (.aload_n (0)) 1 0 0 0 0 0,
  ix_e 55 (.getfield (59)) 3 7 6 0 0 0,
  ix_e 58 .iaload 1 0 0 0 0 0,
  ix_e 59 (.putfield (71)) 3 7 9 0 0 0,
  ix_e 62 .return_ 1 0 0 0 0 0]
/-- VotedBank$Tape.isSpelled (IILjava/lang/String;I)Z -/
def ix_t143 : List ix_E := [ix_e 0 (.iload_n (1)) 1 1 0 0 0 0,
  ix_e 1 (.istore (5)) 2 5 0 0 0 0,
  ix_c 3 (.iload (5)) 2 [true, true, true, true, true, true] 5 0 0 0 0,
  ix_e 5 (.iload_n (2)) 1 2 0 0 0 0,
  ix_e 6 (.if_icmp .ge (32)) 3 38 0 0 0 0,
  ix_e 9 (.aload_n (3)) 1 3 0 0 0 0,
  ix_e 10 (.iload (4)) 2 4 0 0 0 0,
  ix_e 12 (.iload (5)) 2 5 0 0 0 0,
  ix_e 14 .iadd 1 0 0 0 0 0,
  ix_e 15 (.iload_n (1)) 1 1 0 0 0 0,
  ix_e 16 .isub 1 0 0 0 0 0,
  ix_e 17 (.invokevirtual (78)) 3 291 2 1 99 0,
  ix_e 20 (.aload_n (0)) 1 0 0 0 0 0,
  ix_e 21 (.getfield (9)) 3 7 0 2 0 0,
  ix_e 24 (.iload (5)) 2 5 0 0 0 0,
  ix_e 26 .baload 1 0 0 0 0 0,
  ix_e 27 (.if_icmp .eq (5)) 3 32 0 0 0 0,
  ix_e 30 (.iconst (0)) 1 0 0 0 0 0,
  ix_e 31 .ireturn 1 1 0 0 0 0,
  ix_e 32 (.iinc 5 (1)) 3 5 0 0 0 1,
  ix_e 35 (.goto (-32)) 3 3 0 0 0 0,
  ix_e 38 (.iconst (1)) 1 0 0 0 0 1,
  ix_e 39 .ireturn 1 1 0 0 0 0]
/-- VotedBank$Texts.take (ILVotedBank$Texts;)V -/
def ix_t144 : List ix_E := [ix_e 0 (.aload_n (0)) 1 0 0 0 0 0,
  ix_e 1 (.getfield (34)) 3 8 6 2 0 0,
  ix_e 4 (.iload_n (1)) 1 1 0 0 0 0,
  ix_e 5 (.aload_n (2)) 1 2 0 0 0 0,
  ix_e 6 (.getfield (34)) 3 8 6 2 0 0,
  ix_e 9 (.iload_n (1)) 1 1 0 0 0 0,
  ix_e 10 .iaload 1 0 0 0 0 0,
  ix_e 11 .iastore 1 0 0 0 0 0,
  ix_e 12 (.iload_n (1)) 1 1 0 0 0 0,
  ix_e 13 (.ifCond .ne (17)) 3 30 0 0 0 0,
  ix_e 16 (.aload_n (0)) 1 0 0 0 0 0,
  ix_e 17 (.getfield (12)) 3 8 0 2 0 0,
  ix_e 20 (.aload_n (2)) 1 2 0 0 0 0,
  ix_e 21 (.getfield (12)) 3 8 0 2 0 0,
  ix_e 24 (.invokevirtual (46)) 3 53 2 0 2 0,
  ix_e 27 (.goto (94)) 3 121 0 0 0 0,
  ix_e 30 (.iload_n (1)) 1 1 0 0 0 0,
  ix_e 31 (.iconst (1)) 1 0 0 0 0 1,
  ix_e 32 (.if_icmp .ne (21)) 3 53 0 0 0 0,
  ix_e 35 (.aload_n (2)) 1 2 0 0 0 0,
  ix_e 36 (.getfield (18)) 3 8 1 2 0 0,
  ix_e 39 (.iconst (0)) 1 0 0 0 0 0,
  ix_e 40 (.aload_n (0)) 1 0 0 0 0 0,
  ix_e 41 (.getfield (18)) 3 8 1 2 0 0,
  ix_e 44 (.iconst (0)) 1 0 0 0 0 0,
  ix_e 45 (.bipush (12)) 2 0 0 0 0 12,
  ix_e 47 (.invokestatic (50)) 3 0 0 2 0 0,
  ix_e 50 (.goto (71)) 3 121 0 0 0 0,
  ix_e 53 (.iload_n (1)) 1 1 0 0 0 0,
  ix_e 54 (.iconst (2)) 1 0 0 0 0 2,
  ix_e 55 (.if_icmp .ne (36)) 3 91 0 0 0 0,
  ix_e 58 (.aload_n (2)) 1 2 0 0 0 0,
  ix_e 59 (.getfield (22)) 3 8 2 2 0 0,
  ix_e 62 (.iconst (0)) 1 0 0 0 0 0,
  ix_e 63 (.aload_n (0)) 1 0 0 0 0 0,
  ix_e 64 (.getfield (22)) 3 8 2 2 0 0,
  ix_e 67 (.iconst (0)) 1 0 0 0 0 0,
  ix_e 68 (.bipush (16)) 2 0 0 0 0 16,
  ix_e 70 (.invokestatic (50)) 3 0 0 2 0 0,
  ix_e 73 (.aload_n (2)) 1 2 0 0 0 0,
  ix_e 74 (.getfield (25)) 3 8 3 2 0 0,
  ix_e 77 (.iconst (0)) 1 0 0 0 0 0,
  ix_e 78 (.aload_n (0)) 1 0 0 0 0 0,
  ix_e 79 (.getfield (25)) 3 8 3 2 0 0,
  ix_e 82 (.iconst (0)) 1 0 0 0 0 0,
  ix_e 83 (.bipush (16)) 2 0 0 0 0 16,
  ix_e 85 (.invokestatic (50)) 3 0 0 2 0 0,
  ix_e 88 (.goto (33)) 3 121 0 0 0 0,
  ix_e 91 (.aload_n (2)) 1 2 0 0 0 0,
  ix_e 92 (.getfield (28)) 3 8 4 2 0 0,
  ix_e 95 (.iconst (0)) 1 0 0 0 0 0,
  ix_e 96 (.aload_n (0)) 1 0 0 0 0 0,
  ix_e 97 (.getfield (28)) 3 8 4 2 0 0,
  ix_e 100 (.iconst (0)) 1 0 0 0 0 0,
  ix_e 101 (.bipush (6)) 2 0 0 0 0 6,
  ix_e 103 (.invokestatic (50)) 3 0 0 2 0 0,
  ix_e 106 (.aload_n (2)) 1 2 0 0 0 0,
  ix_e 107 (.getfield (31)) 3 8 5 2 0 0,
  ix_e 110 (.iconst (0)) 1 0 0 0 0 0,
  ix_e 111 (.aload_n (0)) 1 0 0 0 0 0,
  ix_e 112 (.getfield (31)) 3 8 5 2 0 0,
  ix_e 115 (.iconst (0)) 1 0 0 0 0 0,
  ix_e 116 (.bipush (6)) 2 0 0 0 0 6,
  ix_e 118 (.invokestatic (50)) 3 0 0 2 0 0,
  ix_e 121 .return_ 1 0 0 0 0 0]
/-- VotedBank$Texts.reachedBy (I)I -/
def ix_t145 : List ix_E := [ix_e 0 (.aload_n (0)) 1 0 0 0 0 0,
  ix_e 1 (.iconst (1)) 1 0 0 0 0 1,
  ix_e 2 (.iload_n (1)) 1 1 0 0 0 0,
  ix_e 3 .ishl 1 0 0 0 0 0,
  ix_e 4 (.invokevirtual (56)) 3 149 2 1 8 0,
  ix_e 7 (.istore_n (2)) 1 2 0 0 0 0,
  ix_e 8 (.iconst (0)) 1 0 0 0 0 0,
  ix_e 9 (.istore_n (3)) 1 3 0 0 0 0,
  ix_c 10 (.iload_n (3)) 1 [true, false, true, true] 3 0 0 0 0,
  ix_e 11 (.bipush (12)) 2 0 0 0 0 12,
  ix_e 13 (.if_icmp .ge (17)) 3 30 0 0 0 0,
  ix_e 16 (.iload_n (2)) 1 2 0 0 0 0,
  ix_e 17 (.aload_n (0)) 1 0 0 0 0 0,
  ix_e 18 (.iload_n (2)) 1 2 0 0 0 0,
  ix_e 19 (.invokevirtual (56)) 3 149 2 1 8 0,
  ix_e 22 .ior 1 0 0 0 0 0,
  ix_e 23 (.istore_n (2)) 1 2 0 0 0 0,
  ix_e 24 (.iinc 3 (1)) 3 3 0 0 0 1,
  ix_e 27 (.goto (-17)) 3 10 0 0 0 0,
  ix_e 30 (.iload_n (2)) 1 2 0 0 0 0,
  ix_e 31 .ireturn 1 0 0 0 0 0]
/-- VotedBank$Texts.<init> ()V -/
def ix_t146 : List ix_E := [ix_e 0 (.aload_n (0)) 1 0 0 0 0 0,
  ix_e 1 (.invokespecial (3)) 3 0 0 2 0 0,
  ix_e 4 (.aload_n (0)) 1 0 0 0 0 0,
  ix_e 5 (.new (9)) 3 2 0 0 0 0,
  ix_e 8 .dup 1 0 0 0 0 0,
  ix_e 9 (.invokespecial (11)) 3 55 1 0 2 1,
  ix_e 12 (.putfield (12)) 3 8 0 2 0 0,
  ix_e 15 (.aload_n (0)) 1 0 0 0 0 0,
  ix_e 16 (.bipush (12)) 2 0 0 0 0 12,
  ix_e 18 (.newarray .int) 2 0 0 0 0 0,
  ix_e 20 (.putfield (18)) 3 8 1 2 0 0,
  ix_e 23 (.aload_n (0)) 1 0 0 0 0 0,
  ix_e 24 (.bipush (16)) 2 0 0 0 0 16,
  ix_e 26 (.newarray .int) 2 0 0 0 0 0,
  ix_e 28 (.putfield (22)) 3 8 2 2 0 0,
  ix_e 31 (.aload_n (0)) 1 0 0 0 0 0,
  ix_e 32 (.bipush (16)) 2 0 0 0 0 16,
  ix_e 34 (.newarray .int) 2 0 0 0 0 0,
  ix_e 36 (.putfield (25)) 3 8 3 2 0 0,
  ix_e 39 (.aload_n (0)) 1 0 0 0 0 0,
  ix_e 40 (.bipush (6)) 2 0 0 0 0 6,
  ix_e 42 (.newarray .int) 2 0 0 0 0 0,
  ix_e 44 (.putfield (28)) 3 8 4 2 0 0,
  ix_e 47 (.aload_n (0)) 1 0 0 0 0 0,
  ix_e 48 (.bipush (6)) 2 0 0 0 0 6,
  ix_e 50 (.newarray .int) 2 0 0 0 0 0,
  ix_e 52 (.putfield (31)) 3 8 5 2 0 0,
  ix_e 55 (.aload_n (0)) 1 0 0 0 0 0,
  ix_e 56 (.iconst (4)) 1 0 0 0 0 4,
  ix_e 57 (.newarray .int) 2 0 0 0 0 0,
  ix_e 59 (.putfield (34)) 3 8 6 2 0 0,
  ix_e 62 .return_ 1 0 0 0 0 0]
/-- VotedBank$Texts.turnsAt (II)Z -/
def ix_t147 : List ix_E := [ix_e 0 (.aload_n (0)) 1 0 0 0 0 0,
  ix_e 1 (.getfield (28)) 3 8 4 2 0 0,
  ix_e 4 (.iload_n (1)) 1 1 0 0 0 0,
  ix_e 5 .iaload 1 0 0 0 0 0,
  ix_e 6 (.ifCond .le (17)) 3 23 0 0 0 0,
  ix_e 9 (.iload_n (2)) 1 2 0 0 0 0,
  ix_e 10 (.aload_n (0)) 1 0 0 0 0 0,
  ix_e 11 (.getfield (28)) 3 8 4 2 0 0,
  ix_e 14 (.iload_n (1)) 1 1 0 0 0 0,
  ix_e 15 .iaload 1 0 0 0 0 0,
  ix_e 16 (.if_icmp .lt (7)) 3 23 0 0 0 0,
  ix_e 19 (.iconst (1)) 1 0 0 0 0 1,
  ix_e 20 (.goto (4)) 3 24 0 0 0 0,
  ix_e 23 (.iconst (0)) 1 0 0 0 0 0,
  ix_e 24 .ireturn 1 1 0 0 0 0]
/-- VotedBank$Texts.clear (I)V -/
def ix_t148 : List ix_E := [ix_e 0 (.aload_n (0)) 1 0 0 0 0 0,
  ix_e 1 (.getfield (34)) 3 8 6 2 0 0,
  ix_e 4 (.iload_n (1)) 1 1 0 0 0 0,
  ix_e 5 (.iconst (0)) 1 0 0 0 0 0,
  ix_e 6 .iastore 1 0 0 0 0 0,
  ix_e 7 (.iload_n (1)) 1 1 0 0 0 0,
  ix_e 8 (.ifCond .ne (13)) 3 21 0 0 0 0,
  ix_e 11 (.aload_n (0)) 1 0 0 0 0 0,
  ix_e 12 (.getfield (12)) 3 8 0 2 0 0,
  ix_e 15 (.invokevirtual (37)) 3 56 1 0 2 0,
  ix_e 18 (.goto (32)) 3 50 0 0 0 0,
  ix_e 21 (.iload_n (1)) 1 1 0 0 0 0,
  ix_e 22 (.iconst (1)) 1 0 0 0 0 1,
  ix_e 23 (.if_icmp .ne (14)) 3 37 0 0 0 0,
  ix_e 26 (.aload_n (0)) 1 0 0 0 0 0,
  ix_e 27 (.getfield (18)) 3 8 1 2 0 0,
  ix_e 30 (.iconst (0)) 1 0 0 0 0 0,
  ix_e 31 (.invokestatic (40)) 3 284 2 0 0 0,
  ix_e 34 (.goto (16)) 3 50 0 0 0 0,
  ix_e 37 (.iload_n (1)) 1 1 0 0 0 0,
  ix_e 38 (.iconst (3)) 1 0 0 0 0 3,
  ix_e 39 (.if_icmp .ne (11)) 3 50 0 0 0 0,
  ix_e 42 (.aload_n (0)) 1 0 0 0 0 0,
  ix_e 43 (.getfield (28)) 3 8 4 2 0 0,
  ix_e 46 (.iconst (0)) 1 0 0 0 0 0,
  ix_e 47 (.invokestatic (40)) 3 284 2 0 0 0,
  ix_e 50 .return_ 1 0 0 0 0 0]
/-- VotedBank$Texts.hearersOf (I)I -/
def ix_t149 : List ix_E := [ix_e 0 (.iconst (0)) 1 0 0 0 0 0,
  ix_e 1 (.istore_n (2)) 1 2 0 0 0 0,
  ix_e 2 (.iconst (0)) 1 0 0 0 0 0,
  ix_e 3 (.istore_n (3)) 1 3 0 0 0 0,
  ix_c 4 (.iload_n (3)) 1 [true, true, true, true] 3 0 0 0 0,
  ix_e 5 (.bipush (12)) 2 0 0 0 0 12,
  ix_e 7 (.if_icmp .ge (26)) 3 33 0 0 0 0,
  ix_e 10 (.aload_n (0)) 1 0 0 0 0 0,
  ix_e 11 (.getfield (18)) 3 8 1 2 0 0,
  ix_e 14 (.iload_n (3)) 1 3 0 0 0 0,
  ix_e 15 .iaload 1 0 0 0 0 0,
  ix_e 16 (.iload_n (1)) 1 1 0 0 0 0,
  ix_e 17 .iand 1 0 0 0 0 0,
  ix_e 18 (.ifCond .eq (9)) 3 27 0 0 0 0,
  ix_e 21 (.iload_n (2)) 1 2 0 0 0 0,
  ix_e 22 (.iconst (1)) 1 0 0 0 0 1,
  ix_e 23 (.iload_n (3)) 1 3 0 0 0 0,
  ix_e 24 .ishl 1 0 0 0 0 0,
  ix_e 25 .ior 1 0 0 0 0 0,
  ix_e 26 (.istore_n (2)) 1 2 0 0 0 0,
  ix_e 27 (.iinc 3 (1)) 3 3 0 0 0 1,
  ix_e 30 (.goto (-26)) 3 4 0 0 0 0,
  ix_e 33 (.iload_n (2)) 1 2 0 0 0 0,
  ix_e 34 .ireturn 1 0 0 0 0 0]
/-- VotedBank$World.<init> ()V -/
def ix_t150 : List ix_E := [ix_e 0 (.aload_n (0)) 1 0 0 0 0 0,
  ix_e 1 (.invokespecial (3)) 3 0 0 2 0 0,
  ix_e 4 (.aload_n (0)) 1 0 0 0 0 0,
  ix_e 5 (.new (9)) 3 6 0 0 0 0,
  ix_e 8 .dup 1 0 0 0 0 0,
  ix_e 9 (.invokespecial (11)) 3 126 1 0 6 1,
  ix_e 12 (.putfield (12)) 3 9 0 2 0 0,
  ix_e 15 (.aload_n (0)) 1 0 0 0 0 0,
  ix_e 16 (.new (18)) 3 0 0 0 0 0,
  ix_e 19 .dup 1 0 0 0 0 0,
  ix_e 20 (.invokespecial (20)) 3 42 1 0 0 1,
  ix_e 23 (.putfield (21)) 3 9 1 2 0 0,
  ix_e 26 (.aload_n (0)) 1 0 0 0 0 0,
  ix_e 27 (.new (25)) 3 8 0 0 0 0,
  ix_e 30 .dup 1 0 0 0 0 0,
  ix_e 31 (.invokespecial (27)) 3 146 1 0 8 1,
  ix_e 34 (.putfield (28)) 3 9 2 2 0 0,
  ix_e 37 (.aload_n (0)) 1 0 0 0 0 0,
  ix_e 38 (.bipush (12)) 2 0 0 0 0 12,
  ix_e 40 (.newarray .int) 2 0 0 0 0 0,
  ix_e 42 (.putfield (32)) 3 9 3 2 0 0,
  ix_e 45 (.aload_n (0)) 1 0 0 0 0 0,
  ix_e 46 (.bipush (20)) 2 0 0 0 0 20,
  ix_e 48 (.newarray .int) 2 0 0 0 0 0,
  ix_e 50 (.putfield (36)) 3 9 4 2 0 0,
  ix_e 53 (.aload_n (0)) 1 0 0 0 0 0,
  ix_e 54 (.getfield (32)) 3 9 3 2 0 0,
  ix_e 57 (.iconst (1)) 1 0 0 0 0 1,
  ix_e 58 (.invokestatic (39)) 3 284 2 0 0 0,
  ix_e 61 .return_ 1 0 0 0 0 0]
/-- VotedBank$World.leaveOver (I)V -/
def ix_t151 : List ix_E := [ix_e 0 (.iconst (0)) 1 0 0 0 0 0,
  ix_e 1 (.istore_n (2)) 1 2 0 0 0 0,
  ix_c 2 (.iload_n (2)) 1 [true, true, true] 2 0 0 0 0,
  ix_e 3 (.aload_n (0)) 1 0 0 0 0 0,
  ix_e 4 (.getfield (12)) 3 9 0 2 0 0,
  ix_e 7 (.getfield (66)) 3 6 6 0 0 0,
  ix_e 10 (.if_icmp .ge (61)) 3 71 0 0 0 0,
  ix_e 13 (.iload_n (1)) 1 1 0 0 0 0,
  ix_e 14 (.iload_n (2)) 1 2 0 0 0 0,
  ix_e 15 .ishr 1 0 0 0 0 0,
  ix_e 16 (.iconst (1)) 1 0 0 0 0 1,
  ix_e 17 .iand 1 0 0 0 0 0,
  ix_e 18 (.iconst (1)) 1 0 0 0 0 1,
  ix_e 19 (.if_icmp .ne (46)) 3 65 0 0 0 0,
  ix_e 22 (.aload_n (0)) 1 0 0 0 0 0,
  ix_e 23 (.getfield (12)) 3 9 0 2 0 0,
  ix_e 26 (.iload_n (2)) 1 2 0 0 0 0,
  ix_e 27 (.invokevirtual (69)) 3 121 2 1 6 0,
  ix_e 30 (.ifCond .ne (35)) 3 65 0 0 0 0,
  ix_e 33 (.aload_n (0)) 1 0 0 0 0 0,
  ix_e 34 (.getfield (12)) 3 9 0 2 0 0,
  ix_e 37 .dup 1 0 0 0 0 0,
  ix_e 38 (.getfield (73)) 3 6 7 0 0 0,
  ix_e 41 (.iconst (1)) 1 0 0 0 0 1,
  ix_e 42 (.iload_n (2)) 1 2 0 0 0 0,
  ix_e 43 .ishl 1 0 0 0 0 0,
  ix_e 44 .ior 1 0 0 0 0 0,
  ix_e 45 (.putfield (73)) 3 6 7 0 0 0,
  ix_e 48 (.aload_n (0)) 1 0 0 0 0 0,
  ix_e 49 (.getfield (21)) 3 9 1 2 0 0,
  ix_e 52 (.aload_n (0)) 1 0 0 0 0 0,
  ix_e 53 (.getfield (12)) 3 9 0 2 0 0,
  ix_e 56 (.getfield (76)) 3 6 5 0 0 0,
  ix_e 59 (.iconst (4)) 1 0 0 0 0 4,
  ix_e 60 (.iload_n (2)) 1 2 0 0 0 0,
  ix_e 61 (.iconst (0)) 1 0 0 0 0 0,
  ix_e 62 (.invokevirtual (79)) 3 43 5 0 0 0,
  ix_e 65 (.iinc 2 (1)) 3 2 0 0 0 1,
  ix_e 68 (.goto (-66)) 3 2 0 0 0 0,
  ix_e 71 .return_ 1 0 0 0 0 0]
/-- VotedBank$World.see (I)I -/
def ix_t152 : List ix_E := [ix_e 0 (.iload_n (1)) 1 1 0 0 0 0,
  ix_e 1 (.iconst (-1)) 1 0 0 0 0 (-1),
  ix_e 2 (.if_icmp .ne (10)) 3 12 0 0 0 0,
  ix_e 5 (.aload_n (0)) 1 0 0 0 0 0,
  ix_e 6 (.iconst (0)) 1 0 0 0 0 0,
  ix_e 7 (.putfield (62)) 3 9 5 0 0 0,
  ix_e 10 (.iconst (0)) 1 0 0 0 0 0,
  ix_e 11 .ireturn 1 0 0 0 0 0,
  ix_e 12 (.iload_n (1)) 1 1 0 0 0 0,
  ix_e 13 (.ifCond .lt (18)) 3 31 0 0 0 0,
  ix_e 16 (.iload_n (1)) 1 1 0 0 0 0,
  ix_e 17 (.bipush (6)) 2 0 0 0 0 6,
  ix_e 19 (.if_icmp .ge (12)) 3 31 0 0 0 0,
  ix_e 22 (.aload_n (0)) 1 0 0 0 0 0,
  ix_e 23 (.getfield (62)) 3 9 5 0 0 0,
  ix_e 26 (.bipush (20)) 2 0 0 0 0 20,
  ix_e 28 (.if_icmp .lt (5)) 3 33 0 0 0 0,
  ix_e 31 (.iconst (-1)) 1 0 0 0 0 (-1),
  ix_e 32 .ireturn 1 0 0 0 0 0,
  ix_e 33 (.aload_n (0)) 1 0 0 0 0 0,
  ix_e 34 (.getfield (36)) 3 9 4 2 0 0,
  ix_e 37 (.aload_n (0)) 1 0 0 0 0 0,
  ix_e 38 (.getfield (62)) 3 9 5 0 0 0,
  ix_e 41 (.iload_n (1)) 1 1 0 0 0 0,
  ix_e 42 .iastore 1 0 0 0 0 0,
  ix_e 43 (.aload_n (0)) 1 0 0 0 0 0,
  ix_e 44 .dup 1 0 0 0 0 0,
  ix_e 45 (.getfield (62)) 3 9 5 0 0 0,
  ix_e 48 (.iconst (1)) 1 0 0 0 0 1,
  ix_e 49 .iadd 1 0 0 0 0 0,
  ix_e 50 (.putfield (62)) 3 9 5 0 0 0,
  ix_e 53 (.aload_n (0)) 1 0 0 0 0 0,
  ix_e 54 (.getfield (62)) 3 9 5 0 0 0,
  ix_e 57 .ireturn 1 0 0 0 0 0]
/-- VotedBank$World.beginnings (I)I -/
def ix_t153 : List ix_E := [ix_e 0 (.iconst (0)) 1 0 0 0 0 0,
  ix_e 1 (.istore_n (2)) 1 2 0 0 0 0,
  ix_e 2 (.iconst (-1)) 1 0 0 0 0 (-1),
  ix_e 3 (.istore_n (3)) 1 3 0 0 0 0,
  ix_e 4 (.iconst (0)) 1 0 0 0 0 0,
  ix_e 5 (.istore (4)) 2 4 0 0 0 0,
  ix_c 7 (.iload (4)) 2 [true, true, true, true, true, false] 4 0 0 0 0,
  ix_e 9 (.bipush (6)) 2 0 0 0 0 6,
  ix_e 11 (.if_icmp .ge (57)) 3 68 0 0 0 0,
  ix_e 14 (.iconst (0)) 1 0 0 0 0 0,
  ix_e 15 (.istore (5)) 2 5 0 0 0 0,
  ix_c 17 (.iload (5)) 2 [true, true, true, true, true, true] 5 0 0 0 0,
  ix_e 19 (.bipush (98)) 2 0 0 0 0 98,
  ix_e 21 (.if_icmp .gt (41)) 3 62 0 0 0 0,
  ix_e 24 (.aload_n (0)) 1 0 0 0 0 0,
  ix_e 25 (.iload (4)) 2 4 0 0 0 0,
  ix_e 27 (.iload (5)) 2 5 0 0 0 0,
  ix_e 29 (.invokevirtual (83)) 3 155 3 1 9 0,
  ix_e 32 (.ifCond .eq (24)) 3 56 0 0 0 0,
  ix_e 35 (.iinc 2 (1)) 3 2 0 0 0 1,
  ix_e 38 (.iload_n (3)) 1 3 0 0 0 0,
  ix_e 39 (.iconst (-1)) 1 0 0 0 0 (-1),
  ix_e 40 (.if_icmp .ne (14)) 3 54 0 0 0 0,
  ix_e 43 (.bipush (100)) 2 0 0 0 0 100,
  ix_e 45 (.iload (4)) 2 4 0 0 0 0,
  ix_e 47 .imul 1 0 0 0 0 0,
  ix_e 48 (.iload (5)) 2 5 0 0 0 0,
  ix_e 50 .iadd 1 0 0 0 0 0,
  ix_e 51 (.goto (4)) 3 55 0 0 0 0,
  ix_e 54 (.iload_n (3)) 1 3 0 0 0 0,
  ix_e 55 (.istore_n (3)) 1 3 0 0 0 0,
  ix_e 56 (.iinc 5 (1)) 3 5 0 0 0 1,
  ix_e 59 (.goto (-42)) 3 17 0 0 0 0,
  ix_e 62 (.iinc 4 (1)) 3 4 0 0 0 1,
  ix_e 65 (.goto (-58)) 3 7 0 0 0 0,
  ix_e 68 (.iload_n (1)) 1 1 0 0 0 0,
  ix_e 69 (.ifCond .ne (7)) 3 76 0 0 0 0,
  ix_e 72 (.iload_n (2)) 1 2 0 0 0 0,
  ix_e 73 (.goto (4)) 3 77 0 0 0 0,
  ix_e 76 (.iload_n (3)) 1 3 0 0 0 0,
  ix_e 77 .ireturn 1 0 0 0 0 0]
/-- VotedBank$World.copyFrom (LVotedBank$World;)V -/
def ix_t154 : List ix_E := [ix_e 0 (.aload_n (0)) 1 0 0 0 0 0,
  ix_e 1 (.getfield (12)) 3 9 0 2 0 0,
  ix_e 4 (.aload_n (1)) 1 1 0 0 0 0,
  ix_e 5 (.getfield (12)) 3 9 0 2 0 0,
  ix_e 8 (.invokevirtual (45)) 3 127 2 0 6 0,
  ix_e 11 (.aload_n (0)) 1 0 0 0 0 0,
  ix_e 12 (.getfield (21)) 3 9 1 2 0 0,
  ix_e 15 (.aload_n (1)) 1 1 0 0 0 0,
  ix_e 16 (.getfield (21)) 3 9 1 2 0 0,
  ix_e 19 (.invokevirtual (49)) 3 44 2 0 0 0,
  ix_e 22 (.iconst (0)) 1 0 0 0 0 0,
  ix_e 23 (.istore_n (2)) 1 2 0 0 0 0,
  ix_c 24 (.iload_n (2)) 1 [true, true, true] 2 0 0 0 0,
  ix_e 25 (.iconst (3)) 1 0 0 0 0 3,
  ix_e 26 (.if_icmp .gt (21)) 3 47 0 0 0 0,
  ix_e 29 (.aload_n (0)) 1 0 0 0 0 0,
  ix_e 30 (.getfield (28)) 3 9 2 2 0 0,
  ix_e 33 (.iload_n (2)) 1 2 0 0 0 0,
  ix_e 34 (.aload_n (1)) 1 1 0 0 0 0,
  ix_e 35 (.getfield (28)) 3 9 2 2 0 0,
  ix_e 38 (.invokevirtual (52)) 3 144 3 0 8 0,
  ix_e 41 (.iinc 2 (1)) 3 2 0 0 0 1,
  ix_e 44 (.goto (-20)) 3 24 0 0 0 0,
  ix_e 47 (.aload_n (1)) 1 1 0 0 0 0,
  ix_e 48 (.getfield (32)) 3 9 3 2 0 0,
  ix_e 51 (.iconst (0)) 1 0 0 0 0 0,
  ix_e 52 (.aload_n (0)) 1 0 0 0 0 0,
  ix_e 53 (.getfield (32)) 3 9 3 2 0 0,
  ix_e 56 (.iconst (0)) 1 0 0 0 0 0,
  ix_e 57 (.bipush (12)) 2 0 0 0 0 12,
  ix_e 59 (.invokestatic (56)) 3 0 0 2 0 0,
  ix_e 62 (.aload_n (1)) 1 1 0 0 0 0,
  ix_e 63 (.getfield (36)) 3 9 4 2 0 0,
  ix_e 66 (.iconst (0)) 1 0 0 0 0 0,
  ix_e 67 (.aload_n (0)) 1 0 0 0 0 0,
  ix_e 68 (.getfield (36)) 3 9 4 2 0 0,
  ix_e 71 (.iconst (0)) 1 0 0 0 0 0,
  ix_e 72 (.bipush (20)) 2 0 0 0 0 20,
  ix_e 74 (.invokestatic (56)) 3 0 0 2 0 0,
  ix_e 77 (.aload_n (0)) 1 0 0 0 0 0,
  ix_e 78 (.aload_n (1)) 1 1 0 0 0 0,
  ix_e 79 (.getfield (62)) 3 9 5 0 0 0,
  ix_e 82 (.putfield (62)) 3 9 5 0 0 0,
  ix_e 85 .return_ 1 0 0 0 0 0]
/-- VotedBank$World.couldBegin (II)Z -/
def ix_t155 : List ix_E := [ix_e 0 (.iload_n (1)) 1 1 0 0 0 0,
  ix_e 1 (.istore_n (3)) 1 3 0 0 0 0,
  ix_e 2 (.iload_n (2)) 1 2 0 0 0 0,
  ix_e 3 (.istore (4)) 2 4 0 0 0 0,
  ix_e 5 (.iconst (0)) 1 0 0 0 0 0,
  ix_e 6 (.istore (5)) 2 5 0 0 0 0,
  ix_c 8 (.iload (5)) 2 [true, false, false, true, true, true] 5 0 0 0 0,
  ix_e 10 (.aload_n (0)) 1 0 0 0 0 0,
  ix_e 11 (.getfield (62)) 3 9 5 0 0 0,
  ix_e 14 (.if_icmp .ge (56)) 3 70 0 0 0 0,
  ix_e 17 (.iload (5)) 2 5 0 0 0 0,
  ix_e 19 (.ifCond .le (32)) 3 51 0 0 0 0,
  ix_e 22 (.iinc 4 (1)) 3 4 0 0 0 1,
  ix_e 25 (.aload_n (0)) 1 0 0 0 0 0,
  ix_e 26 (.getfield (28)) 3 9 2 2 0 0,
  ix_e 29 (.iload_n (3)) 1 3 0 0 0 0,
  ix_e 30 (.iload (4)) 2 4 0 0 0 0,
  ix_e 32 (.invokevirtual (87)) 3 147 3 1 8 0,
  ix_e 35 (.ifCond .eq (16)) 3 51 0 0 0 0,
  ix_e 38 (.aload_n (0)) 1 0 0 0 0 0,
  ix_e 39 (.getfield (28)) 3 9 2 2 0 0,
  ix_e 42 (.getfield (90)) 3 8 5 2 0 0,
  ix_e 45 (.iload_n (3)) 1 3 0 0 0 0,
  ix_e 46 .iaload 1 0 0 0 0 0,
  ix_e 47 (.istore_n (3)) 1 3 0 0 0 0,
  ix_e 48 (.iconst (0)) 1 0 0 0 0 0,
  ix_e 49 (.istore (4)) 2 4 0 0 0 0,
  ix_e 51 (.iload_n (3)) 1 3 0 0 0 0,
  ix_e 52 (.aload_n (0)) 1 0 0 0 0 0,
  ix_e 53 (.getfield (36)) 3 9 4 2 0 0,
  ix_e 56 (.iload (5)) 2 5 0 0 0 0,
  ix_e 58 .iaload 1 0 0 0 0 0,
  ix_e 59 (.if_icmp .eq (5)) 3 64 0 0 0 0,
  ix_e 62 (.iconst (0)) 1 0 0 0 0 0,
  ix_e 63 .ireturn 1 1 0 0 0 0,
  ix_e 64 (.iinc 5 (1)) 3 5 0 0 0 1,
  ix_e 67 (.goto (-59)) 3 8 0 0 0 0,
  ix_e 70 (.iconst (1)) 1 0 0 0 0 1,
  ix_e 71 .ireturn 1 1 0 0 0 0]
/-- java/util/Arrays.fill ([II)V -/
def ix_t284 : List ix_E := [ix_e 0 (.iconst (0)) 1 0 0 0 0 0,
  ix_e 1 (.istore_n (2)) 1 2 0 0 0 0,
  ix_e 2 (.aload_n (0)) 1 0 0 0 0 0,
  ix_e 3 .arraylength 1 0 0 0 0 0,
  ix_e 4 (.istore_n (3)) 1 3 0 0 0 0,
  ix_c 5 (.iload_n (2)) 1 [true, true, true, true] 2 0 0 0 0,
  ix_e 6 (.iload_n (3)) 1 3 0 0 0 0,
  ix_e 7 (.if_icmp .ge (13)) 3 20 0 0 0 0,
  ix_e 10 (.aload_n (0)) 1 0 0 0 0 0,
  ix_e 11 (.iload_n (2)) 1 2 0 0 0 0,
  ix_e 12 (.iload_n (1)) 1 1 0 0 0 0,
  ix_e 13 .iastore 1 0 0 0 0 0,
  ix_e 14 (.iinc 2 (1)) 3 2 0 0 0 1,
  ix_e 17 (.goto (-12)) 3 5 0 0 0 0,
  ix_e 20 .return_ 1 0 0 0 0 0]
/-- java/lang/Math.min (II)I -/
def ix_t285 : List ix_E := [ix_e 0 (.iload_n (0)) 1 0 0 0 0 0,
  ix_e 1 (.iload_n (1)) 1 1 0 0 0 0,
  ix_e 2 (.if_icmp .gt (7)) 3 9 0 0 0 0,
  ix_e 5 (.iload_n (0)) 1 0 0 0 0 0,
  ix_e 6 (.goto (4)) 3 10 0 0 0 0,
  ix_e 9 (.iload_n (1)) 1 1 0 0 0 0,
  ix_e 10 .ireturn 1 0 0 0 0 0]
/-- java/lang/Integer.bitCount (I)I -/
def ix_t286 : List ix_E := [ix_e 0 (.iload_n (0)) 1 0 0 0 0 0,
  ix_e 1 (.iload_n (0)) 1 0 0 0 0 0,
  ix_e 2 (.iconst (1)) 1 0 0 0 0 1,
  ix_e 3 .iushr 1 0 0 0 0 0,
  ix_e 4 (.ldc_w (265)) 3 0 0 0 0 1431655765,
  ix_e 7 .iand 1 0 0 0 0 0,
  ix_e 8 .isub 1 0 0 0 0 0,
  ix_e 9 (.istore_n (0)) 1 0 0 0 0 0,
  ix_e 10 (.iload_n (0)) 1 0 0 0 0 0,
  ix_e 11 (.ldc_w (266)) 3 0 0 0 0 858993459,
  ix_e 14 .iand 1 0 0 0 0 0,
  ix_e 15 (.iload_n (0)) 1 0 0 0 0 0,
  ix_e 16 (.iconst (2)) 1 0 0 0 0 2,
  ix_e 17 .iushr 1 0 0 0 0 0,
  ix_e 18 (.ldc_w (266)) 3 0 0 0 0 858993459,
  ix_e 21 .iand 1 0 0 0 0 0,
  ix_e 22 .iadd 1 0 0 0 0 0,
  ix_e 23 (.istore_n (0)) 1 0 0 0 0 0,
  ix_e 24 (.iload_n (0)) 1 0 0 0 0 0,
  ix_e 25 (.iload_n (0)) 1 0 0 0 0 0,
  ix_e 26 (.iconst (4)) 1 0 0 0 0 4,
  ix_e 27 .iushr 1 0 0 0 0 0,
  ix_e 28 .iadd 1 0 0 0 0 0,
  ix_e 29 (.ldc_w (267)) 3 0 0 0 0 252645135,
  ix_e 32 .iand 1 0 0 0 0 0,
  ix_e 33 (.istore_n (0)) 1 0 0 0 0 0,
  ix_e 34 (.iload_n (0)) 1 0 0 0 0 0,
  ix_e 35 (.iload_n (0)) 1 0 0 0 0 0,
  ix_e 36 (.bipush (8)) 2 0 0 0 0 8,
  ix_e 38 .iushr 1 0 0 0 0 0,
  ix_e 39 .iadd 1 0 0 0 0 0,
  ix_e 40 (.istore_n (0)) 1 0 0 0 0 0,
  ix_e 41 (.iload_n (0)) 1 0 0 0 0 0,
  ix_e 42 (.iload_n (0)) 1 0 0 0 0 0,
  ix_e 43 (.bipush (16)) 2 0 0 0 0 16,
  ix_e 45 .iushr 1 0 0 0 0 0,
  ix_e 46 .iadd 1 0 0 0 0 0,
  ix_e 47 (.istore_n (0)) 1 0 0 0 0 0,
  ix_e 48 (.iload_n (0)) 1 0 0 0 0 0,
  ix_e 49 (.bipush (63)) 2 0 0 0 0 63,
  ix_e 51 .iand 1 0 0 0 0 0,
  ix_e 52 .ireturn 1 0 0 0 0 0]
/-- java/lang/Integer.numberOfTrailingZeros (I)I -/
def ix_t287 : List ix_E := [ix_e 0 (.iload_n (0)) 1 0 0 0 0 0,
  ix_e 1 (.iconst (-1)) 1 0 0 0 0 (-1),
  ix_e 2 .ixor 1 0 0 0 0 0,
  ix_e 3 (.iload_n (0)) 1 0 0 0 0 0,
  ix_e 4 (.iconst (1)) 1 0 0 0 0 1,
  ix_e 5 .isub 1 0 0 0 0 0,
  ix_e 6 .iand 1 0 0 0 0 0,
  ix_e 7 (.istore_n (0)) 1 0 0 0 0 0,
  ix_e 8 (.iload_n (0)) 1 0 0 0 0 0,
  ix_e 9 (.ifCond .gt (8)) 3 17 0 0 0 0,
  ix_e 12 (.iload_n (0)) 1 0 0 0 0 0,
  ix_e 13 (.bipush (32)) 2 0 0 0 0 32,
  ix_e 15 .iand 1 0 0 0 0 0,
  ix_e 16 .ireturn 1 0 0 0 0 0,
  ix_e 17 (.iconst (1)) 1 0 0 0 0 1,
  ix_e 18 (.istore_n (1)) 1 1 0 0 0 0,
  ix_e 19 (.iload_n (0)) 1 0 0 0 0 0,
  ix_e 20 (.ldc_w (264)) 3 0 0 0 0 65536,
  ix_e 23 (.if_icmp .le (11)) 3 34 0 0 0 0,
  ix_e 26 (.iinc 1 (16)) 3 1 0 0 0 16,
  ix_e 29 (.iload_n (0)) 1 0 0 0 0 0,
  ix_e 30 (.bipush (16)) 2 0 0 0 0 16,
  ix_e 32 .iushr 1 0 0 0 0 0,
  ix_e 33 (.istore_n (0)) 1 0 0 0 0 0,
  ix_e 34 (.iload_n (0)) 1 0 0 0 0 0,
  ix_e 35 (.sipush (256)) 3 0 0 0 0 256,
  ix_e 38 (.if_icmp .le (11)) 3 49 0 0 0 0,
  ix_e 41 (.iinc 1 (8)) 3 1 0 0 0 8,
  ix_e 44 (.iload_n (0)) 1 0 0 0 0 0,
  ix_e 45 (.bipush (8)) 2 0 0 0 0 8,
  ix_e 47 .iushr 1 0 0 0 0 0,
  ix_e 48 (.istore_n (0)) 1 0 0 0 0 0,
  ix_e 49 (.iload_n (0)) 1 0 0 0 0 0,
  ix_e 50 (.bipush (16)) 2 0 0 0 0 16,
  ix_e 52 (.if_icmp .le (10)) 3 62 0 0 0 0,
  ix_e 55 (.iinc 1 (4)) 3 1 0 0 0 4,
  ix_e 58 (.iload_n (0)) 1 0 0 0 0 0,
  ix_e 59 (.iconst (4)) 1 0 0 0 0 4,
  ix_e 60 .iushr 1 0 0 0 0 0,
  ix_e 61 (.istore_n (0)) 1 0 0 0 0 0,
  ix_e 62 (.iload_n (0)) 1 0 0 0 0 0,
  ix_e 63 (.iconst (4)) 1 0 0 0 0 4,
  ix_e 64 (.if_icmp .le (10)) 3 74 0 0 0 0,
  ix_e 67 (.iinc 1 (2)) 3 1 0 0 0 2,
  ix_e 70 (.iload_n (0)) 1 0 0 0 0 0,
  ix_e 71 (.iconst (2)) 1 0 0 0 0 2,
  ix_e 72 .iushr 1 0 0 0 0 0,
  ix_e 73 (.istore_n (0)) 1 0 0 0 0 0,
  ix_e 74 (.iload_n (1)) 1 1 0 0 0 0,
  ix_e 75 (.iload_n (0)) 1 0 0 0 0 0,
  ix_e 76 (.iconst (1)) 1 0 0 0 0 1,
  ix_e 77 .iushr 1 0 0 0 0 0,
  ix_e 78 .iadd 1 0 0 0 0 0,
  ix_e 79 .ireturn 1 0 0 0 0 0]
/-- java/lang/String.indexOf (I)I -/
def ix_t288 : List ix_E := [ix_e 0 (.aload_n (0)) 1 0 0 0 0 0,
  ix_e 1 (.iload_n (1)) 1 1 0 0 0 0,
  ix_e 2 (.iconst (0)) 1 0 0 0 0 0,
  ix_e 3 (.invokevirtual (633)) 3 292 3 1 99 0,
  ix_e 6 .ireturn 1 0 0 0 0 0]
/-- java/lang/Math.max (II)I -/
def ix_t289 : List ix_E := [ix_e 0 (.iload_n (0)) 1 0 0 0 0 0,
  ix_e 1 (.iload_n (1)) 1 1 0 0 0 0,
  ix_e 2 (.if_icmp .lt (7)) 3 9 0 0 0 0,
  ix_e 5 (.iload_n (0)) 1 0 0 0 0 0,
  ix_e 6 (.goto (4)) 3 10 0 0 0 0,
  ix_e 9 (.iload_n (1)) 1 1 0 0 0 0,
  ix_e 10 .ireturn 1 0 0 0 0 0]
/-- java/lang/String.length ()I -/
def ix_t290 : List ix_E := [ix_e 0 (.aload_n (0)) 1 0 0 0 0 0,
  ix_e 1 (.getfield (9)) 3 99 0 0 0 0,
  ix_e 4 .arraylength 1 0 0 0 0 0,
  ix_e 5 (.aload_n (0)) 1 0 0 0 0 0,
  ix_e 6 (.invokevirtual (335)) 3 293 1 1 99 0,
  ix_e 9 .ishr 1 0 0 0 0 0,
  ix_e 10 .ireturn 1 0 0 0 0 0]
/-- java/lang/String.charAt (I)C -/
def ix_t291 : List ix_E := [ix_e 0 (.aload_n (0)) 1 0 0 0 0 0,
  ix_e 1 (.invokevirtual (492)) 3 294 1 1 99 0,
  ix_e 4 (.ifCond .eq (12)) 3 16 0 0 0 0,
  ix_e 7 (.aload_n (0)) 1 0 0 0 0 0,
  ix_e 8 (.getfield (9)) 3 99 0 0 0 0,
  ix_e 11 (.iload_n (1)) 1 1 0 0 0 0,
  ix_e 12 (.invokestatic (495)) 3 295 2 1 0 0,
  ix_e 15 .ireturn 1 3 0 0 0 0,
  ix_e 16 (.aload_n (0)) 1 0 0 0 0 0,
  ix_e 17 (.getfield (9)) 3 99 0 0 0 0,
  ix_e 20 (.iload_n (1)) 1 1 0 0 0 0]
/-- java/lang/String.indexOf (II)I -/
def ix_t292 : List ix_E := [ix_e 0 (.aload_n (0)) 1 0 0 0 0 0,
  ix_e 1 (.invokevirtual (492)) 3 294 1 1 99 0,
  ix_e 4 (.ifCond .eq (19)) 3 23 0 0 0 0,
  ix_e 7 (.aload_n (0)) 1 0 0 0 0 0,
  ix_e 8 (.getfield (9)) 3 99 0 0 0 0,
  ix_e 11 (.iload_n (1)) 1 1 0 0 0 0,
  ix_e 12 (.iload_n (2)) 1 2 0 0 0 0,
  ix_e 13 (.aload_n (0)) 1 0 0 0 0 0,
  ix_e 14 (.invokevirtual (505)) 3 290 1 1 99 0,
  ix_e 17 (.invokestatic (637)) 3 296 4 1 0 0,
  ix_e 20 (.goto (16)) 3 36 0 0 0 0,
  ix_e 23 (.aload_n (0)) 1 0 0 0 0 0,
  ix_e 24 (.getfield (9)) 3 99 0 0 0 0,
  ix_e 27 (.iload_n (1)) 1 1 0 0 0 0,
  ix_e 28 (.iload_n (2)) 1 2 0 0 0 0,
  ix_e 29 (.aload_n (0)) 1 0 0 0 0 0,
  ix_e 30 (.invokevirtual (505)) 3 290 1 1 99 0,
  ix_e 36 .ireturn 1 0 0 0 0 0]
/-- java/lang/String.coder ()B -/
def ix_t293 : List ix_E := [ix_e 0 (.getstatic (38)) 3 0 0 0 0 1,
  ix_e 3 (.ifCond .eq (10)) 3 13 0 0 0 0,
  ix_e 6 (.aload_n (0)) 1 0 0 0 0 0,
  ix_e 7 (.getfield (15)) 3 99 1 0 0 0,
  ix_e 10 (.goto (4)) 3 14 0 0 0 0,
  ix_e 13 (.iconst (1)) 1 0 0 0 0 1,
  ix_e 14 .ireturn 1 2 0 0 0 0]
/-- java/lang/String.isLatin1 ()Z -/
def ix_t294 : List ix_E := [ix_e 0 (.getstatic (38)) 3 0 0 0 0 1,
  ix_e 3 (.ifCond .eq (14)) 3 17 0 0 0 0,
  ix_e 6 (.aload_n (0)) 1 0 0 0 0 0,
  ix_e 7 (.getfield (15)) 3 99 1 0 0 0,
  ix_e 10 (.ifCond .ne (7)) 3 17 0 0 0 0,
  ix_e 13 (.iconst (1)) 1 0 0 0 0 1,
  ix_e 14 (.goto (4)) 3 18 0 0 0 0,
  ix_e 17 (.iconst (0)) 1 0 0 0 0 0,
  ix_e 18 .ireturn 1 1 0 0 0 0]
/-- java/lang/StringLatin1.charAt ([BI)C -/
def ix_t295 : List ix_E := [ix_e 0 (.iload_n (1)) 1 1 0 0 0 0,
  ix_e 1 (.aload_n (0)) 1 0 0 0 0 0,
  ix_e 2 .arraylength 1 0 0 0 0 0]
/-- java/lang/StringLatin1.indexOf ([BIII)I -/
def ix_t296 : List ix_E := [ix_e 0 (.iload_n (1)) 1 1 0 0 0 0,
  ix_e 1 (.invokestatic (88)) 3 297 1 1 0 0,
  ix_e 4 (.ifCond .ne (5)) 3 9 0 0 0 0,
  ix_e 7 (.iconst (-1)) 1 0 0 0 0 (-1),
  ix_e 8 .ireturn 1 0 0 0 0 0,
  ix_e 9 (.iload_n (2)) 1 2 0 0 0 0,
  ix_e 10 (.iconst (0)) 1 0 0 0 0 0,
  ix_e 11 (.invokestatic (92)) 3 289 2 1 0 0,
  ix_e 14 (.istore_n (2)) 1 2 0 0 0 0,
  ix_e 15 (.iload_n (3)) 1 3 0 0 0 0,
  ix_e 16 (.aload_n (0)) 1 0 0 0 0 0,
  ix_e 17 .arraylength 1 0 0 0 0 0,
  ix_e 18 (.invokestatic (38)) 3 285 2 1 0 0,
  ix_e 21 (.istore_n (3)) 1 3 0 0 0 0,
  ix_e 22 (.iload_n (2)) 1 2 0 0 0 0,
  ix_e 23 (.iload_n (3)) 1 3 0 0 0 0,
  ix_e 24 (.if_icmp .lt (5)) 3 29 0 0 0 0,
  ix_e 27 (.iconst (-1)) 1 0 0 0 0 (-1),
  ix_e 28 .ireturn 1 0 0 0 0 0,
  ix_e 29 (.aload_n (0)) 1 0 0 0 0 0,
  ix_e 30 (.iload_n (1)) 1 1 0 0 0 0,
  ix_e 31 (.iload_n (2)) 1 2 0 0 0 0,
  ix_e 32 (.iload_n (3)) 1 3 0 0 0 0,
  ix_e 33 (.invokestatic (95)) 3 298 4 1 0 0,
  ix_e 36 .ireturn 1 0 0 0 0 0]
/-- java/lang/StringLatin1.canEncode (I)Z -/
def ix_t297 : List ix_E := [ix_e 0 (.iload_n (0)) 1 0 0 0 0 0,
  ix_e 1 (.ifCond .lt (14)) 3 15 0 0 0 0,
  ix_e 4 (.iload_n (0)) 1 0 0 0 0 0,
  ix_e 5 (.sipush (255)) 3 0 0 0 0 255,
  ix_e 8 (.if_icmp .gt (7)) 3 15 0 0 0 0,
  ix_e 11 (.iconst (1)) 1 0 0 0 0 1,
  ix_e 12 (.goto (4)) 3 16 0 0 0 0,
  ix_e 15 (.iconst (0)) 1 0 0 0 0 0,
  ix_e 16 .ireturn 1 1 0 0 0 0]
/-- java/lang/StringLatin1.indexOfChar ([BIII)I -/
def ix_t298 : List ix_E := [ix_e 0 (.iload_n (1)) 1 1 0 0 0 0,
  ix_e 1 .i2b 1 0 0 0 0 0,
  ix_e 2 (.istore (4)) 2 4 0 0 0 0,
  ix_e 4 (.iload_n (2)) 1 2 0 0 0 0,
  ix_e 5 (.istore (5)) 2 5 0 0 0 0,
  ix_c 7 (.iload (5)) 2 [true, false, false, true, true, true] 5 0 0 0 0,
  ix_e 9 (.iload_n (3)) 1 3 0 0 0 0,
  ix_e 10 (.if_icmp .ge (21)) 3 31 0 0 0 0,
  ix_e 13 (.aload_n (0)) 1 0 0 0 0 0,
  ix_e 14 (.iload (5)) 2 5 0 0 0 0,
  ix_e 16 .baload 1 0 0 0 0 0,
  ix_e 17 (.iload (4)) 2 4 0 0 0 0,
  ix_e 19 (.if_icmp .ne (6)) 3 25 0 0 0 0,
  ix_e 22 (.iload (5)) 2 5 0 0 0 0,
  ix_e 24 .ireturn 1 0 0 0 0 0,
  ix_e 25 (.iinc 5 (1)) 3 5 0 0 0 1,
  ix_e 28 (.goto (-21)) 3 7 0 0 0 0,
  ix_e 31 (.iconst (-1)) 1 0 0 0 0 (-1),
  ix_e 32 .ireturn 1 0 0 0 0 0]
end
section
/-- VotedBankModel.<init> ()V -/
def ix_t156 : List ix_E := [ix_e 0 (.aload_n (0)) 1 0 0 0 0 0,
  ix_e 1 (.invokespecial (1)) 3 0 0 2 0 0,
  ix_e 4 (.aload_n (0)) 1 0 0 0 0 0,
  ix_e 5 (.bipush (54)) 2 0 0 0 0 54,
  ix_e 7 (.newarray .int) 2 0 0 0 0 0,
  ix_e 9 (.putfield (7)) 3 11 1 2 0 0,
  ix_e 12 (.aload_n (0)) 1 0 0 0 0 0,
  ix_e 13 (.sipush (324)) 3 0 0 0 0 324,
  ix_e 16 (.newarray .int) 2 0 0 0 0 0,
  ix_e 18 (.putfield (13)) 3 11 2 2 0 0,
  ix_e 21 (.aload_n (0)) 1 0 0 0 0 0,
  ix_e 22 (.bipush (54)) 2 0 0 0 0 54,
  ix_e 24 (.newarray .int) 2 0 0 0 0 0,
  ix_e 26 (.putfield (16)) 3 11 4 2 0 0,
  ix_e 29 (.aload_n (0)) 1 0 0 0 0 0,
  ix_e 30 (.bipush (12)) 2 0 0 0 0 12,
  ix_e 32 (.newarray .int) 2 0 0 0 0 0,
  ix_e 34 (.putfield (19)) 3 11 8 2 0 0,
  ix_e 37 (.aload_n (0)) 1 0 0 0 0 0,
  ix_e 38 (.bipush (12)) 2 0 0 0 0 12,
  ix_e 40 (.newarray .int) 2 0 0 0 0 0,
  ix_e 42 (.putfield (22)) 3 11 9 2 0 0,
  ix_e 45 (.aload_n (0)) 1 0 0 0 0 0,
  ix_e 46 (.bipush (12)) 2 0 0 0 0 12,
  ix_e 48 (.newarray .int) 2 0 0 0 0 0,
  ix_e 50 (.putfield (25)) 3 11 10 2 0 0,
  ix_e 53 (.aload_n (0)) 1 0 0 0 0 0,
  ix_e 54 (.sipush (600)) 3 0 0 0 0 600,
  ix_e 57 (.newarray .int) 2 0 0 0 0 0,
  ix_e 59 (.putfield (28)) 3 11 11 2 0 0,
  ix_e 62 (.aload_n (0)) 1 0 0 0 0 0,
  ix_e 63 (.sipush (400)) 3 0 0 0 0 400,
  ix_e 66 (.newarray .int) 2 0 0 0 0 0,
  ix_e 68 (.putfield (31)) 3 11 12 2 0 0,
  ix_e 71 (.aload_n (0)) 1 0 0 0 0 0,
  ix_e 72 (.sipush (135)) 3 0 0 0 0 135,
  ix_e 75 (.newarray .int) 2 0 0 0 0 0,
  ix_e 77 .dup 1 0 0 0 0 0,
  ix_e 78 (.iconst (0)) 1 0 0 0 0 0,
  ix_e 79 (.bipush (32)) 2 0 0 0 0 32,
  ix_e 81 .iastore 1 0 0 0 0 0,
  ix_e 82 .dup 1 0 0 0 0 0,
  ix_e 83 (.iconst (1)) 1 0 0 0 0 1,
  ix_e 84 (.bipush (115)) 2 0 0 0 0 115,
  ix_e 86 .iastore 1 0 0 0 0 0,
  ix_e 87 .dup 1 0 0 0 0 0,
  ix_e 88 (.iconst (2)) 1 0 0 0 0 2,
  ix_e 89 (.bipush (119)) 2 0 0 0 0 119,
  ix_e 91 .iastore 1 0 0 0 0 0,
  ix_e 92 .dup 1 0 0 0 0 0,
  ix_e 93 (.iconst (3)) 1 0 0 0 0 3,
  ix_e 94 (.bipush (97)) 2 0 0 0 0 97,
  ix_e 96 .iastore 1 0 0 0 0 0,
  ix_e 97 .dup 1 0 0 0 0 0,
  ix_e 98 (.iconst (4)) 1 0 0 0 0 4,
  ix_e 99 (.bipush (121)) 2 0 0 0 0 121,
  ix_e 101 .iastore 1 0 0 0 0 0,
  ix_e 102 .dup 1 0 0 0 0 0,
  ix_e 103 (.iconst (5)) 1 0 0 0 0 5,
  ix_e 104 (.bipush (32)) 2 0 0 0 0 32,
  ix_e 106 .iastore 1 0 0 0 0 0,
  ix_e 107 .dup 1 0 0 0 0 0,
  ix_e 108 (.bipush (6)) 2 0 0 0 0 6,
  ix_e 110 (.bipush (97)) 2 0 0 0 0 97,
  ix_e 112 .iastore 1 0 0 0 0 0,
  ix_e 113 .dup 1 0 0 0 0 0,
  ix_e 114 (.bipush (7)) 2 0 0 0 0 7,
  ix_e 116 (.bipush (98)) 2 0 0 0 0 98,
  ix_e 118 .iastore 1 0 0 0 0 0,
  ix_e 119 .dup 1 0 0 0 0 0,
  ix_e 120 (.bipush (8)) 2 0 0 0 0 8,
  ix_e 122 (.bipush (115)) 2 0 0 0 0 115,
  ix_e 124 .iastore 1 0 0 0 0 0,
  ix_e 125 .dup 1 0 0 0 0 0,
  ix_e 126 (.bipush (9)) 2 0 0 0 0 9,
  ix_e 128 (.bipush (116)) 2 0 0 0 0 116,
  ix_e 130 .iastore 1 0 0 0 0 0,
  ix_e 131 .dup 1 0 0 0 0 0,
  ix_e 132 (.bipush (10)) 2 0 0 0 0 10,
  ix_e 134 (.bipush (97)) 2 0 0 0 0 97,
  ix_e 136 .iastore 1 0 0 0 0 0,
  ix_e 137 .dup 1 0 0 0 0 0,
  ix_e 138 (.bipush (11)) 2 0 0 0 0 11,
  ix_e 140 (.bipush (105)) 2 0 0 0 0 105,
  ix_e 142 .iastore 1 0 0 0 0 0,
  ix_e 143 .dup 1 0 0 0 0 0,
  ix_e 144 (.bipush (12)) 2 0 0 0 0 12,
  ix_e 146 (.bipush (110)) 2 0 0 0 0 110,
  ix_e 148 .iastore 1 0 0 0 0 0,
  ix_e 149 .dup 1 0 0 0 0 0,
  ix_e 150 (.bipush (13)) 2 0 0 0 0 13,
  ix_e 152 (.bipush (32)) 2 0 0 0 0 32,
  ix_e 154 .iastore 1 0 0 0 0 0,
  ix_e 155 .dup 1 0 0 0 0 0,
  ix_e 156 (.bipush (14)) 2 0 0 0 0 14,
  ix_e 158 (.bipush (115)) 2 0 0 0 0 115,
  ix_e 160 .iastore 1 0 0 0 0 0,
  ix_e 161 .dup 1 0 0 0 0 0,
  ix_e 162 (.bipush (15)) 2 0 0 0 0 15,
  ix_e 164 (.bipush (104)) 2 0 0 0 0 104,
  ix_e 166 .iastore 1 0 0 0 0 0,
  ix_e 167 .dup 1 0 0 0 0 0,
  ix_e 168 (.bipush (16)) 2 0 0 0 0 16,
  ix_e 170 (.bipush (101)) 2 0 0 0 0 101,
  ix_e 172 .iastore 1 0 0 0 0 0,
  ix_e 173 .dup 1 0 0 0 0 0,
  ix_e 174 (.bipush (17)) 2 0 0 0 0 17,
  ix_e 176 (.bipush (108)) 2 0 0 0 0 108,
  ix_e 178 .iastore 1 0 0 0 0 0,
  ix_e 179 .dup 1 0 0 0 0 0,
  ix_e 180 (.bipush (18)) 2 0 0 0 0 18,
  ix_e 182 (.bipush (108)) 2 0 0 0 0 108,
  ix_e 184 .iastore 1 0 0 0 0 0,
  ix_e 185 .dup 1 0 0 0 0 0,
  ix_e 186 (.bipush (19)) 2 0 0 0 0 19,
  ix_e 188 (.bipush (115)) 2 0 0 0 0 115,
  ix_e 190 .iastore 1 0 0 0 0 0,
  ix_e 191 .dup 1 0 0 0 0 0,
  ix_e 192 (.bipush (20)) 2 0 0 0 0 20,
  ix_e 194 (.bipush (32)) 2 0 0 0 0 32,
  ix_e 196 .iastore 1 0 0 0 0 0,
  ix_e 197 .dup 1 0 0 0 0 0,
  ix_e 198 (.bipush (21)) 2 0 0 0 0 21,
  ix_e 200 (.bipush (119)) 2 0 0 0 0 119,
  ix_e 202 .iastore 1 0 0 0 0 0,
  ix_e 203 .dup 1 0 0 0 0 0,
  ix_e 204 (.bipush (22)) 2 0 0 0 0 22,
  ix_e 206 (.bipush (104)) 2 0 0 0 0 104,
  ix_e 208 .iastore 1 0 0 0 0 0,
  ix_e 209 .dup 1 0 0 0 0 0,
  ix_e 210 (.bipush (23)) 2 0 0 0 0 23,
  ix_e 212 (.bipush (101)) 2 0 0 0 0 101,
  ix_e 214 .iastore 1 0 0 0 0 0,
  ix_e 215 .dup 1 0 0 0 0 0,
  ix_e 216 (.bipush (24)) 2 0 0 0 0 24,
  ix_e 218 (.bipush (110)) 2 0 0 0 0 110,
  ix_e 220 .iastore 1 0 0 0 0 0,
  ix_e 221 .dup 1 0 0 0 0 0,
  ix_e 222 (.bipush (25)) 2 0 0 0 0 25,
  ix_e 224 (.bipush (32)) 2 0 0 0 0 32,
  ix_e 226 .iastore 1 0 0 0 0 0,
  ix_e 227 .dup 1 0 0 0 0 0,
  ix_e 228 (.bipush (26)) 2 0 0 0 0 26,
  ix_e 230 (.bipush (111)) 2 0 0 0 0 111,
  ix_e 232 .iastore 1 0 0 0 0 0,
  ix_e 233 .dup 1 0 0 0 0 0,
  ix_e 234 (.bipush (27)) 2 0 0 0 0 27,
  ix_e 236 (.bipush (114)) 2 0 0 0 0 114,
  ix_e 238 .iastore 1 0 0 0 0 0,
  ix_e 239 .dup 1 0 0 0 0 0,
  ix_e 240 (.bipush (28)) 2 0 0 0 0 28,
  ix_e 242 (.bipush (32)) 2 0 0 0 0 32,
  ix_e 244 .iastore 1 0 0 0 0 0,
  ix_e 245 .dup 1 0 0 0 0 0,
  ix_e 246 (.bipush (29)) 2 0 0 0 0 29,
  ix_e 248 (.bipush (97)) 2 0 0 0 0 97,
  ix_e 250 .iastore 1 0 0 0 0 0,
  ix_e 251 .dup 1 0 0 0 0 0,
  ix_e 252 (.bipush (30)) 2 0 0 0 0 30,
  ix_e 254 (.bipush (110)) 2 0 0 0 0 110,
  ix_e 256 .iastore 1 0 0 0 0 0,
  ix_e 257 .dup 1 0 0 0 0 0,
  ix_e 258 (.bipush (31)) 2 0 0 0 0 31,
  ix_e 260 (.bipush (100)) 2 0 0 0 0 100,
  ix_e 262 .iastore 1 0 0 0 0 0,
  ix_e 263 .dup 1 0 0 0 0 0,
  ix_e 264 (.bipush (32)) 2 0 0 0 0 32,
  ix_e 266 (.bipush (32)) 2 0 0 0 0 32,
  ix_e 268 .iastore 1 0 0 0 0 0,
  ix_e 269 .dup 1 0 0 0 0 0,
  ix_e 270 (.bipush (33)) 2 0 0 0 0 33,
  ix_e 272 (.bipush (110)) 2 0 0 0 0 110,
  ix_e 274 .iastore 1 0 0 0 0 0,
  ix_e 275 .dup 1 0 0 0 0 0,
  ix_e 276 (.bipush (34)) 2 0 0 0 0 34,
  ix_e 278 (.bipush (111)) 2 0 0 0 0 111,
  ix_e 280 .iastore 1 0 0 0 0 0,
  ix_e 281 .dup 1 0 0 0 0 0,
  ix_e 282 (.bipush (35)) 2 0 0 0 0 35,
  ix_e 284 (.bipush (116)) 2 0 0 0 0 116,
  ix_e 286 .iastore 1 0 0 0 0 0,
  ix_e 287 .dup 1 0 0 0 0 0,
  ix_e 288 (.bipush (36)) 2 0 0 0 0 36,
  ix_e 290 (.bipush (32)) 2 0 0 0 0 32,
  ix_e 292 .iastore 1 0 0 0 0 0,
  ix_e 293 .dup 1 0 0 0 0 0,
  ix_e 294 (.bipush (37)) 2 0 0 0 0 37,
  ix_e 296 (.bipush (99)) 2 0 0 0 0 99,
  ix_e 298 .iastore 1 0 0 0 0 0,
  ix_e 299 .dup 1 0 0 0 0 0,
  ix_e 300 (.bipush (38)) 2 0 0 0 0 38,
  ix_e 302 (.bipush (104)) 2 0 0 0 0 104,
  ix_e 304 .iastore 1 0 0 0 0 0,
  ix_e 305 .dup 1 0 0 0 0 0,
  ix_e 306 (.bipush (39)) 2 0 0 0 0 39,
  ix_e 308 (.bipush (105)) 2 0 0 0 0 105,
  ix_e 310 .iastore 1 0 0 0 0 0,
  ix_e 311 .dup 1 0 0 0 0 0,
  ix_e 312 (.bipush (40)) 2 0 0 0 0 40,
  ix_e 314 (.bipush (108)) 2 0 0 0 0 108,
  ix_e 316 .iastore 1 0 0 0 0 0,
  ix_e 317 .dup 1 0 0 0 0 0,
  ix_e 318 (.bipush (41)) 2 0 0 0 0 41,
  ix_e 320 (.bipush (100)) 2 0 0 0 0 100,
  ix_e 322 .iastore 1 0 0 0 0 0,
  ix_e 323 .dup 1 0 0 0 0 0,
  ix_e 324 (.bipush (42)) 2 0 0 0 0 42,
  ix_e 326 (.bipush (32)) 2 0 0 0 0 32,
  ix_e 328 .iastore 1 0 0 0 0 0,
  ix_e 329 .dup 1 0 0 0 0 0,
  ix_e 330 (.bipush (43)) 2 0 0 0 0 43,
  ix_e 332 (.bipush (116)) 2 0 0 0 0 116,
  ix_e 334 .iastore 1 0 0 0 0 0,
  ix_e 335 .dup 1 0 0 0 0 0,
  ix_e 336 (.bipush (44)) 2 0 0 0 0 44,
  ix_e 338 (.bipush (97)) 2 0 0 0 0 97,
  ix_e 340 .iastore 1 0 0 0 0 0,
  ix_e 341 .dup 1 0 0 0 0 0,
  ix_e 342 (.bipush (45)) 2 0 0 0 0 45,
  ix_e 344 (.bipush (108)) 2 0 0 0 0 108,
  ix_e 346 .iastore 1 0 0 0 0 0,
  ix_e 347 .dup 1 0 0 0 0 0,
  ix_e 348 (.bipush (46)) 2 0 0 0 0 46,
  ix_e 350 (.bipush (107)) 2 0 0 0 0 107,
  ix_e 352 .iastore 1 0 0 0 0 0,
  ix_e 353 .dup 1 0 0 0 0 0,
  ix_e 354 (.bipush (47)) 2 0 0 0 0 47,
  ix_e 356 (.bipush (32)) 2 0 0 0 0 32,
  ix_e 358 .iastore 1 0 0 0 0 0,
  ix_e 359 .dup 1 0 0 0 0 0,
  ix_e 360 (.bipush (48)) 2 0 0 0 0 48,
  ix_e 362 (.bipush (102)) 2 0 0 0 0 102,
  ix_e 364 .iastore 1 0 0 0 0 0,
  ix_e 365 .dup 1 0 0 0 0 0,
  ix_e 366 (.bipush (49)) 2 0 0 0 0 49,
  ix_e 368 (.bipush (105)) 2 0 0 0 0 105,
  ix_e 370 .iastore 1 0 0 0 0 0,
  ix_e 371 .dup 1 0 0 0 0 0,
  ix_e 372 (.bipush (50)) 2 0 0 0 0 50,
  ix_e 374 (.bipush (114)) 2 0 0 0 0 114,
  ix_e 376 .iastore 1 0 0 0 0 0,
  ix_e 377 .dup 1 0 0 0 0 0,
  ix_e 378 (.bipush (51)) 2 0 0 0 0 51,
  ix_e 380 (.bipush (109)) 2 0 0 0 0 109,
  ix_e 382 .iastore 1 0 0 0 0 0,
  ix_e 383 .dup 1 0 0 0 0 0,
  ix_e 384 (.bipush (52)) 2 0 0 0 0 52,
  ix_e 386 (.bipush (32)) 2 0 0 0 0 32,
  ix_e 388 .iastore 1 0 0 0 0 0,
  ix_e 389 .dup 1 0 0 0 0 0,
  ix_e 390 (.bipush (53)) 2 0 0 0 0 53,
  ix_e 392 (.bipush (119)) 2 0 0 0 0 119,
  ix_e 394 .iastore 1 0 0 0 0 0,
  ix_e 395 .dup 1 0 0 0 0 0,
  ix_e 396 (.bipush (54)) 2 0 0 0 0 54,
  ix_e 398 (.bipush (97)) 2 0 0 0 0 97,
  ix_e 400 .iastore 1 0 0 0 0 0,
  ix_e 401 .dup 1 0 0 0 0 0,
  ix_e 402 (.bipush (55)) 2 0 0 0 0 55,
  ix_e 404 (.bipush (100)) 2 0 0 0 0 100,
  ix_e 406 .iastore 1 0 0 0 0 0,
  ix_e 407 .dup 1 0 0 0 0 0,
  ix_e 408 (.bipush (56)) 2 0 0 0 0 56,
  ix_e 410 (.bipush (101)) 2 0 0 0 0 101,
  ix_e 412 .iastore 1 0 0 0 0 0,
  ix_e 413 .dup 1 0 0 0 0 0,
  ix_e 414 (.bipush (57)) 2 0 0 0 0 57,
  ix_e 416 (.bipush (100)) 2 0 0 0 0 100,
  ix_e 418 .iastore 1 0 0 0 0 0,
  ix_e 419 .dup 1 0 0 0 0 0,
  ix_e 420 (.bipush (58)) 2 0 0 0 0 58,
  ix_e 422 (.bipush (32)) 2 0 0 0 0 32,
  ix_e 424 .iastore 1 0 0 0 0 0,
  ix_e 425 .dup 1 0 0 0 0 0,
  ix_e 426 (.bipush (59)) 2 0 0 0 0 59,
  ix_e 428 (.bipush (116)) 2 0 0 0 0 116,
  ix_e 430 .iastore 1 0 0 0 0 0,
  ix_e 431 .dup 1 0 0 0 0 0,
  ix_e 432 (.bipush (60)) 2 0 0 0 0 60,
  ix_e 434 (.bipush (117)) 2 0 0 0 0 117,
  ix_e 436 .iastore 1 0 0 0 0 0,
  ix_e 437 .dup 1 0 0 0 0 0,
  ix_e 438 (.bipush (61)) 2 0 0 0 0 61,
  ix_e 440 (.bipush (114)) 2 0 0 0 0 114,
  ix_e 442 .iastore 1 0 0 0 0 0,
  ix_e 443 .dup 1 0 0 0 0 0,
  ix_e 444 (.bipush (62)) 2 0 0 0 0 62,
  ix_e 446 (.bipush (110)) 2 0 0 0 0 110,
  ix_e 448 .iastore 1 0 0 0 0 0,
  ix_e 449 .dup 1 0 0 0 0 0,
  ix_e 450 (.bipush (63)) 2 0 0 0 0 63,
  ix_e 452 (.bipush (101)) 2 0 0 0 0 101,
  ix_e 454 .iastore 1 0 0 0 0 0,
  ix_e 455 .dup 1 0 0 0 0 0,
  ix_e 456 (.bipush (64)) 2 0 0 0 0 64,
  ix_e 458 (.bipush (100)) 2 0 0 0 0 100,
  ix_e 460 .iastore 1 0 0 0 0 0,
  ix_e 461 .dup 1 0 0 0 0 0,
  ix_e 462 (.bipush (65)) 2 0 0 0 0 65,
  ix_e 464 (.bipush (32)) 2 0 0 0 0 32,
  ix_e 466 .iastore 1 0 0 0 0 0,
  ix_e 467 .dup 1 0 0 0 0 0,
  ix_e 468 (.bipush (66)) 2 0 0 0 0 66,
  ix_e 470 (.bipush (98)) 2 0 0 0 0 98,
  ix_e 472 .iastore 1 0 0 0 0 0,
  ix_e 473 .dup 1 0 0 0 0 0,
  ix_e 474 (.bipush (67)) 2 0 0 0 0 67,
  ix_e 476 (.bipush (97)) 2 0 0 0 0 97,
  ix_e 478 .iastore 1 0 0 0 0 0,
  ix_e 479 .dup 1 0 0 0 0 0,
  ix_e 480 (.bipush (68)) 2 0 0 0 0 68,
  ix_e 482 (.bipush (110)) 2 0 0 0 0 110,
  ix_e 484 .iastore 1 0 0 0 0 0,
  ix_e 485 .dup 1 0 0 0 0 0,
  ix_e 486 (.bipush (69)) 2 0 0 0 0 69,
  ix_e 488 (.bipush (107)) 2 0 0 0 0 107,
  ix_e 490 .iastore 1 0 0 0 0 0,
  ix_e 491 .dup 1 0 0 0 0 0,
  ix_e 492 (.bipush (70)) 2 0 0 0 0 70,
  ix_e 494 (.bipush (32)) 2 0 0 0 0 32,
  ix_e 496 .iastore 1 0 0 0 0 0,
  ix_e 497 .dup 1 0 0 0 0 0,
  ix_e 498 (.bipush (71)) 2 0 0 0 0 71,
  ix_e 500 (.bipush (97)) 2 0 0 0 0 97,
  ix_e 502 .iastore 1 0 0 0 0 0,
  ix_e 503 .dup 1 0 0 0 0 0,
  ix_e 504 (.bipush (72)) 2 0 0 0 0 72,
  ix_e 506 (.bipush (103)) 2 0 0 0 0 103,
  ix_e 508 .iastore 1 0 0 0 0 0,
  ix_e 509 .dup 1 0 0 0 0 0,
  ix_e 510 (.bipush (73)) 2 0 0 0 0 73,
  ix_e 512 (.bipush (101)) 2 0 0 0 0 101,
  ix_e 514 .iastore 1 0 0 0 0 0,
  ix_e 515 .dup 1 0 0 0 0 0,
  ix_e 516 (.bipush (74)) 2 0 0 0 0 74,
  ix_e 518 (.bipush (32)) 2 0 0 0 0 32,
  ix_e 520 .iastore 1 0 0 0 0 0,
  ix_e 521 .dup 1 0 0 0 0 0,
  ix_e 522 (.bipush (75)) 2 0 0 0 0 75,
  ix_e 524 (.bipush (115)) 2 0 0 0 0 115,
  ix_e 526 .iastore 1 0 0 0 0 0,
  ix_e 527 .dup 1 0 0 0 0 0,
  ix_e 528 (.bipush (76)) 2 0 0 0 0 76,
  ix_e 530 (.bipush (116)) 2 0 0 0 0 116,
  ix_e 532 .iastore 1 0 0 0 0 0,
  ix_e 533 .dup 1 0 0 0 0 0,
  ix_e 534 (.bipush (77)) 2 0 0 0 0 77,
  ix_e 536 (.bipush (114)) 2 0 0 0 0 114,
  ix_e 538 .iastore 1 0 0 0 0 0,
  ix_e 539 .dup 1 0 0 0 0 0,
  ix_e 540 (.bipush (78)) 2 0 0 0 0 78,
  ix_e 542 (.bipush (101)) 2 0 0 0 0 101,
  ix_e 544 .iastore 1 0 0 0 0 0,
  ix_e 545 .dup 1 0 0 0 0 0,
  ix_e 546 (.bipush (79)) 2 0 0 0 0 79,
  ix_e 548 (.bipush (97)) 2 0 0 0 0 97,
  ix_e 550 .iastore 1 0 0 0 0 0,
  ix_e 551 .dup 1 0 0 0 0 0,
  ix_e 552 (.bipush (80)) 2 0 0 0 0 80,
  ix_e 554 (.bipush (109)) 2 0 0 0 0 109,
  ix_e 556 .iastore 1 0 0 0 0 0,
  ix_e 557 .dup 1 0 0 0 0 0,
  ix_e 558 (.bipush (81)) 2 0 0 0 0 81,
  ix_e 560 (.bipush (32)) 2 0 0 0 0 32,
  ix_e 562 .iastore 1 0 0 0 0 0,
  ix_e 563 .dup 1 0 0 0 0 0,
  ix_e 564 (.bipush (82)) 2 0 0 0 0 82,
  ix_e 566 (.bipush (109)) 2 0 0 0 0 109,
  ix_e 568 .iastore 1 0 0 0 0 0,
  ix_e 569 .dup 1 0 0 0 0 0,
  ix_e 570 (.bipush (83)) 2 0 0 0 0 83,
  ix_e 572 (.bipush (105)) 2 0 0 0 0 105,
  ix_e 574 .iastore 1 0 0 0 0 0,
  ix_e 575 .dup 1 0 0 0 0 0,
  ix_e 576 (.bipush (84)) 2 0 0 0 0 84,
  ix_e 578 (.bipush (110)) 2 0 0 0 0 110,
  ix_e 580 .iastore 1 0 0 0 0 0,
  ix_e 581 .dup 1 0 0 0 0 0,
  ix_e 582 (.bipush (85)) 2 0 0 0 0 85,
  ix_e 584 (.bipush (117)) 2 0 0 0 0 117,
  ix_e 586 .iastore 1 0 0 0 0 0,
  ix_e 587 .dup 1 0 0 0 0 0,
  ix_e 588 (.bipush (86)) 2 0 0 0 0 86,
  ix_e 590 (.bipush (116)) 2 0 0 0 0 116,
  ix_e 592 .iastore 1 0 0 0 0 0,
  ix_e 593 .dup 1 0 0 0 0 0,
  ix_e 594 (.bipush (87)) 2 0 0 0 0 87,
  ix_e 596 (.bipush (101)) 2 0 0 0 0 101,
  ix_e 598 .iastore 1 0 0 0 0 0,
  ix_e 599 .dup 1 0 0 0 0 0,
  ix_e 600 (.bipush (88)) 2 0 0 0 0 88,
  ix_e 602 (.bipush (32)) 2 0 0 0 0 32,
  ix_e 604 .iastore 1 0 0 0 0 0,
  ix_e 605 .dup 1 0 0 0 0 0,
  ix_e 606 (.bipush (89)) 2 0 0 0 0 89,
  ix_e 608 (.bipush (97)) 2 0 0 0 0 97,
  ix_e 610 .iastore 1 0 0 0 0 0,
  ix_e 611 .dup 1 0 0 0 0 0,
  ix_e 612 (.bipush (90)) 2 0 0 0 0 90,
  ix_e 614 (.bipush (98)) 2 0 0 0 0 98,
  ix_e 616 .iastore 1 0 0 0 0 0,
  ix_e 617 .dup 1 0 0 0 0 0,
  ix_e 618 (.bipush (91)) 2 0 0 0 0 91,
  ix_e 620 (.bipush (111)) 2 0 0 0 0 111,
  ix_e 622 .iastore 1 0 0 0 0 0,
  ix_e 623 .dup 1 0 0 0 0 0,
  ix_e 624 (.bipush (92)) 2 0 0 0 0 92,
  ix_e 626 (.bipush (97)) 2 0 0 0 0 97,
  ix_e 628 .iastore 1 0 0 0 0 0,
  ix_e 629 .dup 1 0 0 0 0 0,
  ix_e 630 (.bipush (93)) 2 0 0 0 0 93,
  ix_e 632 (.bipush (114)) 2 0 0 0 0 114,
  ix_e 634 .iastore 1 0 0 0 0 0,
  ix_e 635 .dup 1 0 0 0 0 0,
  ix_e 636 (.bipush (94)) 2 0 0 0 0 94,
  ix_e 638 (.bipush (100)) 2 0 0 0 0 100,
  ix_e 640 .iastore 1 0 0 0 0 0,
  ix_e 641 .dup 1 0 0 0 0 0,
  ix_e 642 (.bipush (95)) 2 0 0 0 0 95,
  ix_e 644 (.bipush (32)) 2 0 0 0 0 32,
  ix_e 646 .iastore 1 0 0 0 0 0,
  ix_e 647 .dup 1 0 0 0 0 0,
  ix_e 648 (.bipush (96)) 2 0 0 0 0 96,
  ix_e 650 (.bipush (102)) 2 0 0 0 0 102,
  ix_e 652 .iastore 1 0 0 0 0 0,
  ix_e 653 .dup 1 0 0 0 0 0,
  ix_e 654 (.bipush (97)) 2 0 0 0 0 97,
  ix_e 656 (.bipush (111)) 2 0 0 0 0 111,
  ix_e 658 .iastore 1 0 0 0 0 0,
  ix_e 659 .dup 1 0 0 0 0 0,
  ix_e 660 (.bipush (98)) 2 0 0 0 0 98,
  ix_e 662 (.bipush (114)) 2 0 0 0 0 114,
  ix_e 664 .iastore 1 0 0 0 0 0,
  ix_e 665 .dup 1 0 0 0 0 0,
  ix_e 666 (.bipush (99)) 2 0 0 0 0 99,
  ix_e 668 (.bipush (32)) 2 0 0 0 0 32,
  ix_e 670 .iastore 1 0 0 0 0 0,
  ix_e 671 .dup 1 0 0 0 0 0,
  ix_e 672 (.bipush (100)) 2 0 0 0 0 100,
  ix_e 674 (.bipush (112)) 2 0 0 0 0 112,
  ix_e 676 .iastore 1 0 0 0 0 0,
  ix_e 677 .dup 1 0 0 0 0 0,
  ix_e 678 (.bipush (101)) 2 0 0 0 0 101,
  ix_e 680 (.bipush (97)) 2 0 0 0 0 97,
  ix_e 682 .iastore 1 0 0 0 0 0,
  ix_e 683 .dup 1 0 0 0 0 0,
  ix_e 684 (.bipush (102)) 2 0 0 0 0 102,
  ix_e 686 (.bipush (115)) 2 0 0 0 0 115,
  ix_e 688 .iastore 1 0 0 0 0 0,
  ix_e 689 .dup 1 0 0 0 0 0,
  ix_e 690 (.bipush (103)) 2 0 0 0 0 103,
  ix_e 692 (.bipush (115)) 2 0 0 0 0 115,
  ix_e 694 .iastore 1 0 0 0 0 0,
  ix_e 695 .dup 1 0 0 0 0 0,
  ix_e 696 (.bipush (104)) 2 0 0 0 0 104,
  ix_e 698 (.bipush (101)) 2 0 0 0 0 101,
  ix_e 700 .iastore 1 0 0 0 0 0,
  ix_e 701 .dup 1 0 0 0 0 0,
  ix_e 702 (.bipush (105)) 2 0 0 0 0 105,
  ix_e 704 (.bipush (110)) 2 0 0 0 0 110,
  ix_e 706 .iastore 1 0 0 0 0 0,
  ix_e 707 .dup 1 0 0 0 0 0,
  ix_e 708 (.bipush (106)) 2 0 0 0 0 106,
  ix_e 710 (.bipush (103)) 2 0 0 0 0 103,
  ix_e 712 .iastore 1 0 0 0 0 0,
  ix_e 713 .dup 1 0 0 0 0 0,
  ix_e 714 (.bipush (107)) 2 0 0 0 0 107,
  ix_e 716 (.bipush (101)) 2 0 0 0 0 101,
  ix_e 718 .iastore 1 0 0 0 0 0,
  ix_e 719 .dup 1 0 0 0 0 0,
  ix_e 720 (.bipush (108)) 2 0 0 0 0 108,
  ix_e 722 (.bipush (114)) 2 0 0 0 0 114,
  ix_e 724 .iastore 1 0 0 0 0 0,
  ix_e 725 .dup 1 0 0 0 0 0,
  ix_e 726 (.bipush (109)) 2 0 0 0 0 109,
  ix_e 728 (.bipush (32)) 2 0 0 0 0 32,
  ix_e 730 .iastore 1 0 0 0 0 0,
  ix_e 731 .dup 1 0 0 0 0 0,
  ix_e 732 (.bipush (110)) 2 0 0 0 0 110,
  ix_e 734 (.bipush (104)) 2 0 0 0 0 104,
  ix_e 736 .iastore 1 0 0 0 0 0,
  ix_e 737 .dup 1 0 0 0 0 0,
  ix_e 738 (.bipush (111)) 2 0 0 0 0 111,
  ix_e 740 (.bipush (101)) 2 0 0 0 0 101,
  ix_e 742 .iastore 1 0 0 0 0 0,
  ix_e 743 .dup 1 0 0 0 0 0,
  ix_e 744 (.bipush (112)) 2 0 0 0 0 112,
  ix_e 746 (.bipush (97)) 2 0 0 0 0 97,
  ix_e 748 .iastore 1 0 0 0 0 0,
  ix_e 749 .dup 1 0 0 0 0 0,
  ix_e 750 (.bipush (113)) 2 0 0 0 0 113,
  ix_e 752 (.bipush (114)) 2 0 0 0 0 114,
  ix_e 754 .iastore 1 0 0 0 0 0,
  ix_e 755 .dup 1 0 0 0 0 0,
  ix_e 756 (.bipush (114)) 2 0 0 0 0 114,
  ix_e 758 (.bipush (115)) 2 0 0 0 0 115,
  ix_e 760 .iastore 1 0 0 0 0 0,
  ix_e 761 .dup 1 0 0 0 0 0,
  ix_e 762 (.bipush (115)) 2 0 0 0 0 115,
  ix_e 764 (.bipush (32)) 2 0 0 0 0 32,
  ix_e 766 .iastore 1 0 0 0 0 0,
  ix_e 767 .dup 1 0 0 0 0 0,
  ix_e 768 (.bipush (116)) 2 0 0 0 0 116,
  ix_e 770 (.bipush (114)) 2 0 0 0 0 114,
  ix_e 772 .iastore 1 0 0 0 0 0,
  ix_e 773 .dup 1 0 0 0 0 0,
  ix_e 774 (.bipush (117)) 2 0 0 0 0 117,
  ix_e 776 (.bipush (111)) 2 0 0 0 0 111,
  ix_e 778 .iastore 1 0 0 0 0 0,
  ix_e 779 .dup 1 0 0 0 0 0,
  ix_e 780 (.bipush (118)) 2 0 0 0 0 118,
  ix_e 782 (.bipush (119)) 2 0 0 0 0 119,
  ix_e 784 .iastore 1 0 0 0 0 0,
  ix_e 785 .dup 1 0 0 0 0 0,
  ix_e 786 (.bipush (119)) 2 0 0 0 0 119,
  ix_e 788 (.bipush (32)) 2 0 0 0 0 32,
  ix_e 790 .iastore 1 0 0 0 0 0,
  ix_e 791 .dup 1 0 0 0 0 0,
  ix_e 792 (.bipush (120)) 2 0 0 0 0 120,
  ix_e 794 (.bipush (115)) 2 0 0 0 0 115,
  ix_e 796 .iastore 1 0 0 0 0 0,
  ix_e 797 .dup 1 0 0 0 0 0,
  ix_e 798 (.bipush (121)) 2 0 0 0 0 121,
  ix_e 800 (.bipush (116)) 2 0 0 0 0 116,
  ix_e 802 .iastore 1 0 0 0 0 0,
  ix_e 803 .dup 1 0 0 0 0 0,
  ix_e 804 (.bipush (122)) 2 0 0 0 0 122,
  ix_e 806 (.bipush (97)) 2 0 0 0 0 97,
  ix_e 808 .iastore 1 0 0 0 0 0,
  ix_e 809 .dup 1 0 0 0 0 0,
  ix_e 810 (.bipush (123)) 2 0 0 0 0 123,
  ix_e 812 (.bipush (121)) 2 0 0 0 0 121,
  ix_e 814 .iastore 1 0 0 0 0 0,
  ix_e 815 .dup 1 0 0 0 0 0,
  ix_e 816 (.bipush (124)) 2 0 0 0 0 124,
  ix_e 818 (.bipush (32)) 2 0 0 0 0 32,
  ix_e 820 .iastore 1 0 0 0 0 0,
  ix_e 821 .dup 1 0 0 0 0 0,
  ix_e 822 (.bipush (125)) 2 0 0 0 0 125,
  ix_e 824 (.bipush (98)) 2 0 0 0 0 98,
  ix_e 826 .iastore 1 0 0 0 0 0,
  ix_e 827 .dup 1 0 0 0 0 0,
  ix_e 828 (.bipush (126)) 2 0 0 0 0 126,
  ix_e 830 (.bipush (101)) 2 0 0 0 0 101,
  ix_e 832 .iastore 1 0 0 0 0 0,
  ix_e 833 .dup 1 0 0 0 0 0,
  ix_e 834 (.bipush (127)) 2 0 0 0 0 127,
  ix_e 836 (.bipush (104)) 2 0 0 0 0 104,
  ix_e 838 .iastore 1 0 0 0 0 0,
  ix_e 839 .dup 1 0 0 0 0 0,
  ix_e 840 (.sipush (128)) 3 0 0 0 0 128,
  ix_e 843 (.bipush (105)) 2 0 0 0 0 105,
  ix_e 845 .iastore 1 0 0 0 0 0,
  ix_e 846 .dup 1 0 0 0 0 0,
  ix_e 847 (.sipush (129)) 3 0 0 0 0 129,
  ix_e 850 (.bipush (110)) 2 0 0 0 0 110,
  ix_e 852 .iastore 1 0 0 0 0 0,
  ix_e 853 .dup 1 0 0 0 0 0,
  ix_e 854 (.sipush (130)) 3 0 0 0 0 130,
  ix_e 857 (.bipush (100)) 2 0 0 0 0 100,
  ix_e 859 .iastore 1 0 0 0 0 0,
  ix_e 860 .dup 1 0 0 0 0 0,
  ix_e 861 (.sipush (131)) 3 0 0 0 0 131,
  ix_e 864 (.bipush (32)) 2 0 0 0 0 32,
  ix_e 866 .iastore 1 0 0 0 0 0,
  ix_e 867 .dup 1 0 0 0 0 0,
  ix_e 868 (.sipush (132)) 3 0 0 0 0 132,
  ix_e 871 (.bipush (105)) 2 0 0 0 0 105,
  ix_e 873 .iastore 1 0 0 0 0 0,
  ix_e 874 .dup 1 0 0 0 0 0,
  ix_e 875 (.sipush (133)) 3 0 0 0 0 133,
  ix_e 878 (.bipush (115)) 2 0 0 0 0 115,
  ix_e 880 .iastore 1 0 0 0 0 0,
  ix_e 881 .dup 1 0 0 0 0 0,
  ix_e 882 (.sipush (134)) 3 0 0 0 0 134,
  ix_e 885 (.bipush (32)) 2 0 0 0 0 32,
  ix_e 887 .iastore 1 0 0 0 0 0,
  ix_e 888 (.putfield (34)) 3 11 18 2 0 0,
  ix_e 891 (.aload_n (0)) 1 0 0 0 0 0,
  ix_e 892 (.iconst (2)) 1 0 0 0 0 2,
  ix_e 893 (.newarray .int) 2 0 0 0 0 0,
  ix_e 895 (.putfield (37)) 3 11 19 2 0 0,
  ix_e 898 (.aload_n (0)) 1 0 0 0 0 0,
  ix_e 899 (.bipush (48)) 2 0 0 0 0 48,
  ix_e 901 (.newarray .int) 2 0 0 0 0 0,
  ix_e 903 (.putfield (40)) 3 11 20 2 0 0,
  ix_e 906 (.aload_n (0)) 1 0 0 0 0 0,
  ix_e 907 (.bipush (48)) 2 0 0 0 0 48,
  ix_e 909 (.newarray .int) 2 0 0 0 0 0,
  ix_e 911 (.putfield (43)) 3 11 21 2 0 0,
  ix_e 914 (.aload_n (0)) 1 0 0 0 0 0,
  ix_e 915 (.bipush (48)) 2 0 0 0 0 48,
  ix_e 917 (.newarray .int) 2 0 0 0 0 0,
  ix_e 919 (.putfield (46)) 3 11 22 2 0 0,
  ix_e 922 (.aload_n (0)) 1 0 0 0 0 0,
  ix_e 923 (.bipush (48)) 2 0 0 0 0 48,
  ix_e 925 (.newarray .int) 2 0 0 0 0 0,
  ix_e 927 (.putfield (49)) 3 11 23 2 0 0,
  ix_e 930 (.aload_n (0)) 1 0 0 0 0 0,
  ix_e 931 (.sipush (1200)) 3 0 0 0 0 1200,
  ix_e 934 (.newarray .int) 2 0 0 0 0 0,
  ix_e 936 (.putfield (52)) 3 11 24 2 0 0,
  ix_e 939 (.aload_n (0)) 1 0 0 0 0 0,
  ix_e 940 (.sipush (1200)) 3 0 0 0 0 1200,
  ix_e 943 (.newarray .int) 2 0 0 0 0 0,
  ix_e 945 (.putfield (55)) 3 11 25 2 0 0,
  ix_e 948 (.aload_n (0)) 1 0 0 0 0 0,
  ix_e 949 (.bipush (40)) 2 0 0 0 0 40,
  ix_e 951 (.newarray .int) 2 0 0 0 0 0,
  ix_e 953 (.putfield (58)) 3 11 29 2 0 0,
  ix_e 956 (.aload_n (0)) 1 0 0 0 0 0,
  ix_e 957 (.iconst (-1)) 1 0 0 0 0 (-1),
  ix_e 958 (.putfield (61)) 3 11 34 0 0 0,
  ix_e 961 (.aload_n (0)) 1 0 0 0 0 0,
  ix_e 962 (.bipush (24)) 2 0 0 0 0 24,
  ix_e 964 (.newarray .int) 2 0 0 0 0 0,
  ix_e 966 (.putfield (65)) 3 11 36 2 0 0,
  ix_e 969 (.aload_n (0)) 1 0 0 0 0 0,
  ix_e 970 (.bipush (64)) 2 0 0 0 0 64,
  ix_e 972 (.newarray .int) 2 0 0 0 0 0,
  ix_e 974 (.putfield (68)) 3 11 38 2 0 0,
  ix_e 977 (.aload_n (0)) 1 0 0 0 0 0,
  ix_e 978 (.bipush (96)) 2 0 0 0 0 96,
  ix_e 980 (.newarray .int) 2 0 0 0 0 0,
  ix_e 982 (.putfield (71)) 3 11 40 2 0 0,
  ix_e 985 (.aload_n (0)) 1 0 0 0 0 0,
  ix_e 986 (.bipush (11)) 2 0 0 0 0 11,
  ix_e 988 (.newarray .int) 2 0 0 0 0 0,
  ix_e 990 (.putfield (74)) 3 11 41 2 0 0,
  ix_e 993 (.aload_n (0)) 1 0 0 0 0 0,
  ix_e 994 (.sipush (420)) 3 0 0 0 0 420,
  ix_e 997 (.newarray .int) 2 0 0 0 0 0,
  ix_e 999 (.putfield (77)) 3 11 42 2 0 0,
  ix_e 1002 (.aload_n (0)) 1 0 0 0 0 0,
  ix_e 1003 (.bipush (6)) 2 0 0 0 0 6,
  ix_e 1005 (.newarray .int) 2 0 0 0 0 0,
  ix_e 1007 (.putfield (80)) 3 11 44 2 0 0,
  ix_e 1010 (.aload_n (0)) 1 0 0 0 0 0,
  ix_e 1011 (.bipush (12)) 2 0 0 0 0 12,
  ix_e 1013 (.newarray .int) 2 0 0 0 0 0,
  ix_e 1015 (.putfield (83)) 3 11 45 2 0 0,
  ix_e 1018 (.aload_n (0)) 1 0 0 0 0 0,
  ix_e 1019 (.bipush (36)) 2 0 0 0 0 36,
  ix_e 1021 (.newarray .int) 2 0 0 0 0 0,
  ix_e 1023 (.putfield (86)) 3 11 46 2 0 0,
  ix_e 1026 (.aload_n (0)) 1 0 0 0 0 0,
  ix_e 1027 (.bipush (20)) 2 0 0 0 0 20,
  ix_e 1029 (.newarray .int) 2 0 0 0 0 0,
  ix_e 1031 (.putfield (89)) 3 11 48 2 0 0,
  ix_e 1034 (.aload_n (0)) 1 0 0 0 0 0,
  ix_e 1035 (.bipush (12)) 2 0 0 0 0 12,
  ix_e 1037 (.newarray .int) 2 0 0 0 0 0,
  ix_e 1039 (.putfield (92)) 3 11 49 2 0 0,
  ix_e 1042 (.aload_n (0)) 1 0 0 0 0 0,
  ix_e 1043 (.sipush (2100)) 3 0 0 0 0 2100,
  ix_e 1046 (.newarray .int) 2 0 0 0 0 0,
  ix_e 1048 (.putfield (95)) 3 11 53 2 0 0,
  ix_e 1051 .return_ 1 0 0 0 0 0]
/-- VotedBankModel.state (I)I -/
def ix_t157 : List ix_E := [ix_e 0 (.aload_n (0)) 1 0 0 0 0 0,
  ix_e 1 (.iconst (0)) 1 0 0 0 0 0,
  ix_e 2 (.putfield (98)) 3 11 0 0 0 0,
  ix_e 5 (.aload_n (0)) 1 0 0 0 0 0,
  ix_e 6 (.getfield (7)) 3 11 1 2 0 0,
  ix_e 9 (.iconst (1)) 1 0 0 0 0 1,
  ix_e 10 .iaload 1 0 0 0 0 0,
  ix_e 11 (.istore_n (2)) 1 2 0 0 0 0,
  ix_e 12 (.aload_n (0)) 1 0 0 0 0 0,
  ix_e 13 (.getfield (7)) 3 11 1 2 0 0,
  ix_e 16 (.iconst (1)) 1 0 0 0 0 1,
  ix_e 17 (.iload_n (1)) 1 1 0 0 0 0,
  ix_e 18 .iastore 1 0 0 0 0 0,
  ix_e 19 (.aload_n (0)) 1 0 0 0 0 0,
  ix_e 20 (.iconst (0)) 1 0 0 0 0 0,
  ix_e 21 (.putfield (101)) 3 11 3 0 0 0,
  ix_e 24 (.iload_n (2)) 1 2 0 0 0 0,
  ix_e 25 .ireturn 1 0 0 0 0 0]
/-- VotedBankModel.passenger (IZII)I -/
def ix_t158 : List ix_E := [ix_e 0 (.aload_n (0)) 1 0 0 0 0 0,
  ix_e 1 (.iconst (0)) 1 0 0 0 0 0,
  ix_e 2 (.putfield (98)) 3 11 0 0 0 0,
  ix_e 5 (.aload_n (0)) 1 0 0 0 0 0,
  ix_e 6 (.iload_n (1)) 1 1 0 0 0 0,
  ix_e 7 (.invokevirtual (132)) 3 188 2 1 11 0,
  ix_e 10 (.ifCond .eq (35)) 3 45 0 0 0 0,
  ix_e 13 (.aload_n (0)) 1 0 0 0 0 0,
  ix_e 14 (.iload_n (3)) 1 3 0 0 0 0,
  ix_e 15 (.iconst (0)) 1 0 0 0 0 0,
  ix_e 16 (.bipush (9)) 2 0 0 0 0 9,
  ix_e 18 (.invokevirtual (115)) 3 189 4 1 11 0,
  ix_e 21 (.ifCond .eq (24)) 3 45 0 0 0 0,
  ix_e 24 (.aload_n (0)) 1 0 0 0 0 0,
  ix_e 25 (.iload (4)) 2 4 0 0 0 0,
  ix_e 27 (.iconst (0)) 1 0 0 0 0 0,
  ix_e 28 (.bipush (9)) 2 0 0 0 0 9,
  ix_e 30 (.invokevirtual (115)) 3 189 4 1 11 0,
  ix_e 33 (.ifCond .eq (12)) 3 45 0 0 0 0,
  ix_e 36 (.aload_n (0)) 1 0 0 0 0 0,
  ix_e 37 (.getfield (125)) 3 11 7 0 0 0,
  ix_e 40 (.bipush (12)) 2 0 0 0 0 12,
  ix_e 42 (.if_icmp .ne (5)) 3 47 0 0 0 0,
  ix_e 45 (.iconst (-1)) 1 0 0 0 0 (-1),
  ix_e 46 .ireturn 1 0 0 0 0 0,
  ix_e 47 (.aload_n (0)) 1 0 0 0 0 0,
  ix_e 48 (.getfield (125)) 3 11 7 0 0 0,
  ix_e 51 (.istore (5)) 2 5 0 0 0 0,
  ix_e 53 (.aload_n (0)) 1 0 0 0 0 0,
  ix_e 54 (.getfield (7)) 3 11 1 2 0 0,
  ix_e 57 (.bipush (6)) 2 0 0 0 0 6,
  ix_e 59 (.iload (5)) 2 5 0 0 0 0,
  ix_e 61 .iadd 1 0 0 0 0 0,
  ix_e 62 (.iload_n (1)) 1 1 0 0 0 0,
  ix_e 63 .iastore 1 0 0 0 0 0,
  ix_e 64 (.aload_n (0)) 1 0 0 0 0 0,
  ix_e 65 (.getfield (7)) 3 11 1 2 0 0,
  ix_e 68 (.bipush (18)) 2 0 0 0 0 18,
  ix_e 70 (.iload (5)) 2 5 0 0 0 0,
  ix_e 72 .iadd 1 0 0 0 0 0,
  ix_e 73 (.iconst (0)) 1 0 0 0 0 0,
  ix_e 74 .iastore 1 0 0 0 0 0,
  ix_e 75 (.aload_n (0)) 1 0 0 0 0 0,
  ix_e 76 (.getfield (7)) 3 11 1 2 0 0,
  ix_e 79 (.bipush (30)) 2 0 0 0 0 30,
  ix_e 81 (.iload (5)) 2 5 0 0 0 0,
  ix_e 83 .iadd 1 0 0 0 0 0,
  ix_e 84 (.iconst (0)) 1 0 0 0 0 0,
  ix_e 85 .iastore 1 0 0 0 0 0,
  ix_e 86 (.aload_n (0)) 1 0 0 0 0 0,
  ix_e 87 (.getfield (7)) 3 11 1 2 0 0,
  ix_e 90 (.bipush (42)) 2 0 0 0 0 42,
  ix_e 92 (.iload (5)) 2 5 0 0 0 0,
  ix_e 94 .iadd 1 0 0 0 0 0,
  ix_e 95 (.iconst (0)) 1 0 0 0 0 0,
  ix_e 96 .iastore 1 0 0 0 0 0,
  ix_e 97 (.aload_n (0)) 1 0 0 0 0 0,
  ix_e 98 (.getfield (19)) 3 11 8 2 0 0,
  ix_e 101 (.iload (5)) 2 5 0 0 0 0,
  ix_e 103 (.iload_n (2)) 1 2 0 0 0 0,
  ix_e 104 (.ifCond .eq (7)) 3 111 0 0 0 0,
  ix_e 107 (.iconst (1)) 1 0 0 0 0 1,
  ix_e 108 (.goto (4)) 3 112 0 0 0 0,
  ix_e 111 (.iconst (0)) 1 0 0 0 0 0,
  ix_e 112 .iastore 1 0 0 0 0 0,
  ix_e 113 (.aload_n (0)) 1 0 0 0 0 0,
  ix_e 114 (.getfield (22)) 3 11 9 2 0 0,
  ix_e 117 (.iload (5)) 2 5 0 0 0 0,
  ix_e 119 (.iload_n (3)) 1 3 0 0 0 0,
  ix_e 120 .iastore 1 0 0 0 0 0,
  ix_e 121 (.aload_n (0)) 1 0 0 0 0 0,
  ix_e 122 (.getfield (25)) 3 11 10 2 0 0,
  ix_e 125 (.iload (5)) 2 5 0 0 0 0,
  ix_e 127 (.iload (4)) 2 4 0 0 0 0,
  ix_e 129 .iastore 1 0 0 0 0 0,
  ix_e 130 (.aload_n (0)) 1 0 0 0 0 0,
  ix_e 131 (.iload (5)) 2 5 0 0 0 0,
  ix_e 133 (.iconst (1)) 1 0 0 0 0 1,
  ix_e 134 .iadd 1 0 0 0 0 0,
  ix_e 135 (.putfield (125)) 3 11 7 0 0 0,
  ix_e 138 (.aload_n (0)) 1 0 0 0 0 0,
  ix_e 139 (.iconst (0)) 1 0 0 0 0 0,
  ix_e 140 (.putfield (101)) 3 11 3 0 0 0,
  ix_e 143 (.iload (5)) 2 5 0 0 0 0,
  ix_e 145 .ireturn 1 0 0 0 0 0]
/-- VotedBankModel.set (III)Z -/
def ix_t159 : List ix_E := [ix_e 0 (.aload_n (0)) 1 0 0 0 0 0,
  ix_e 1 (.iconst (0)) 1 0 0 0 0 0,
  ix_e 2 (.putfield (98)) 3 11 0 0 0 0,
  ix_e 5 (.aload_n (0)) 1 0 0 0 0 0,
  ix_e 6 (.iload_n (1)) 1 1 0 0 0 0,
  ix_e 7 (.iload_n (2)) 1 2 0 0 0 0,
  ix_e 8 (.iload_n (3)) 1 3 0 0 0 0,
  ix_e 9 (.invokevirtual (139)) 3 190 4 1 11 0,
  ix_e 12 (.ifCond .ne (5)) 3 17 0 0 0 0,
  ix_e 15 (.iconst (0)) 1 0 0 0 0 0,
  ix_e 16 .ireturn 1 1 0 0 0 0,
  ix_e 17 (.iload_n (1)) 1 1 0 0 0 0,
  ix_e 18 (.ifCond .ne (8)) 3 26 0 0 0 0,
  ix_e 21 (.aload_n (0)) 1 0 0 0 0 0,
  ix_e 22 (.iload_n (3)) 1 3 0 0 0 0,
  ix_e 23 (.putfield (142)) 3 11 6 0 0 0,
  ix_c 26 (.iload_n (1)) 1 [true, true, true, true] 1 0 0 0 0,
  ix_e 27 (.iconst (1)) 1 0 0 0 0 1,
  ix_e 28 (.if_icmp .ne (10)) 3 38 0 0 0 0,
  ix_e 31 (.aload_n (0)) 1 0 0 0 0 0,
  ix_e 32 (.getfield (7)) 3 11 1 2 0 0,
  ix_e 35 (.iconst (3)) 1 0 0 0 0 3,
  ix_e 36 (.iload_n (3)) 1 3 0 0 0 0,
  ix_e 37 .iastore 1 0 0 0 0 0,
  ix_c 38 (.iload_n (1)) 1 [true, true, true, true] 1 0 0 0 0,
  ix_e 39 (.iconst (2)) 1 0 0 0 0 2,
  ix_e 40 (.if_icmp .ne (10)) 3 50 0 0 0 0,
  ix_e 43 (.aload_n (0)) 1 0 0 0 0 0,
  ix_e 44 (.getfield (7)) 3 11 1 2 0 0,
  ix_e 47 (.iconst (4)) 1 0 0 0 0 4,
  ix_e 48 (.iload_n (3)) 1 3 0 0 0 0,
  ix_e 49 .iastore 1 0 0 0 0 0,
  ix_c 50 (.iload_n (1)) 1 [true, true, true, true] 1 0 0 0 0,
  ix_e 51 (.iconst (3)) 1 0 0 0 0 3,
  ix_e 52 (.if_icmp .ne (13)) 3 65 0 0 0 0,
  ix_e 55 (.aload_n (0)) 1 0 0 0 0 0,
  ix_e 56 (.getfield (7)) 3 11 1 2 0 0,
  ix_e 59 (.bipush (6)) 2 0 0 0 0 6,
  ix_e 61 (.iload_n (2)) 1 2 0 0 0 0,
  ix_e 62 .iadd 1 0 0 0 0 0,
  ix_e 63 (.iload_n (3)) 1 3 0 0 0 0,
  ix_e 64 .iastore 1 0 0 0 0 0,
  ix_c 65 (.iload_n (1)) 1 [true, true, true, true] 1 0 0 0 0,
  ix_e 66 (.iconst (4)) 1 0 0 0 0 4,
  ix_e 67 (.if_icmp .ne (10)) 3 77 0 0 0 0,
  ix_e 70 (.aload_n (0)) 1 0 0 0 0 0,
  ix_e 71 (.getfield (22)) 3 11 9 2 0 0,
  ix_e 74 (.iload_n (2)) 1 2 0 0 0 0,
  ix_e 75 (.iload_n (3)) 1 3 0 0 0 0,
  ix_e 76 .iastore 1 0 0 0 0 0,
  ix_c 77 (.iload_n (1)) 1 [true, true, true, true] 1 0 0 0 0,
  ix_e 78 (.iconst (5)) 1 0 0 0 0 5,
  ix_e 79 (.if_icmp .ne (10)) 3 89 0 0 0 0,
  ix_e 82 (.aload_n (0)) 1 0 0 0 0 0,
  ix_e 83 (.getfield (25)) 3 11 10 2 0 0,
  ix_e 86 (.iload_n (2)) 1 2 0 0 0 0,
  ix_e 87 (.iload_n (3)) 1 3 0 0 0 0,
  ix_e 88 .iastore 1 0 0 0 0 0,
  ix_c 89 (.aload_n (0)) 1 [true, false, false, false] 0 0 0 0 0,
  ix_e 90 (.iconst (0)) 1 0 0 0 0 0,
  ix_e 91 (.putfield (101)) 3 11 3 0 0 0,
  ix_e 94 (.iconst (1)) 1 0 0 0 0 1,
  ix_e 95 .ireturn 1 1 0 0 0 0]
/-- VotedBankModel.cross (I)I -/
def ix_t160 : List ix_E := [ix_e 0 (.aload_n (0)) 1 0 0 0 0 0,
  ix_e 1 (.iconst (0)) 1 0 0 0 0 0,
  ix_e 2 (.putfield (98)) 3 11 0 0 0 0,
  ix_e 5 (.aload_n (0)) 1 0 0 0 0 0,
  ix_e 6 (.iload_n (1)) 1 1 0 0 0 0,
  ix_e 7 (.invokevirtual (382)) 3 191 2 1 11 0,
  ix_e 10 (.ifCond .ne (5)) 3 15 0 0 0 0,
  ix_e 13 (.iconst (-1)) 1 0 0 0 0 (-1),
  ix_e 14 .ireturn 1 0 0 0 0 0,
  ix_e 15 (.aload_n (0)) 1 0 0 0 0 0,
  ix_e 16 (.invokevirtual (385)) 3 192 1 0 11 0,
  ix_e 19 (.aload_n (0)) 1 0 0 0 0 0,
  ix_e 20 (.iload_n (1)) 1 1 0 0 0 0,
  ix_e 21 (.invokevirtual (388)) 3 193 2 1 11 0,
  ix_e 24 .ireturn 1 0 0 0 0 0]
/-- VotedBankModel.stay (IZ)Z -/
def ix_t161 : List ix_E := [ix_e 0 (.aload_n (0)) 1 0 0 0 0 0,
  ix_e 1 (.iconst (0)) 1 0 0 0 0 0,
  ix_e 2 (.putfield (98)) 3 11 0 0 0 0,
  ix_e 5 (.aload_n (0)) 1 0 0 0 0 0,
  ix_e 6 (.iload_n (1)) 1 1 0 0 0 0,
  ix_e 7 (.invokevirtual (136)) 3 194 2 1 11 0,
  ix_e 10 (.ifCond .eq (25)) 3 35 0 0 0 0,
  ix_e 13 (.aload_n (0)) 1 0 0 0 0 0,
  ix_e 14 (.getfield (7)) 3 11 1 2 0 0,
  ix_e 17 (.bipush (18)) 2 0 0 0 0 18,
  ix_e 19 (.iload_n (1)) 1 1 0 0 0 0,
  ix_e 20 .iadd 1 0 0 0 0 0,
  ix_e 21 .iaload 1 0 0 0 0 0,
  ix_e 22 (.iconst (1)) 1 0 0 0 0 1,
  ix_e 23 (.if_icmp .ne (7)) 3 30 0 0 0 0,
  ix_e 26 (.iconst (1)) 1 0 0 0 0 1,
  ix_e 27 (.goto (4)) 3 31 0 0 0 0,
  ix_e 30 (.iconst (0)) 1 0 0 0 0 0,
  ix_e 31 (.iload_n (2)) 1 2 0 0 0 0,
  ix_e 32 (.if_icmp .ne (5)) 3 37 0 0 0 0,
  ix_e 35 (.iconst (0)) 1 0 0 0 0 0,
  ix_e 36 .ireturn 1 1 0 0 0 0,
  ix_e 37 (.aload_n (0)) 1 0 0 0 0 0,
  ix_e 38 (.invokevirtual (385)) 3 192 1 0 11 0,
  ix_e 41 (.iload_n (2)) 1 2 0 0 0 0,
  ix_e 42 (.ifCond .eq (11)) 3 53 0 0 0 0,
  ix_e 45 (.aload_n (0)) 1 0 0 0 0 0,
  ix_e 46 (.iload_n (1)) 1 1 0 0 0 0,
  ix_e 47 (.invokevirtual (391)) 3 195 2 0 11 0,
  ix_e 50 (.goto (13)) 3 63 0 0 0 0,
  ix_e 53 (.aload_n (0)) 1 0 0 0 0 0,
  ix_e 54 (.getfield (7)) 3 11 1 2 0 0,
  ix_e 57 (.bipush (18)) 2 0 0 0 0 18,
  ix_e 59 (.iload_n (1)) 1 1 0 0 0 0,
  ix_e 60 .iadd 1 0 0 0 0 0,
  ix_e 61 (.iconst (0)) 1 0 0 0 0 0,
  ix_e 62 .iastore 1 0 0 0 0 0,
  ix_e 63 (.iconst (1)) 1 0 0 0 0 1,
  ix_e 64 .ireturn 1 1 0 0 0 0]
/-- VotedBankModel.log ()I -/
def ix_t162 : List ix_E := [ix_e 0 (.aload_n (0)) 1 0 0 0 0 0,
  ix_e 1 (.iconst (0)) 1 0 0 0 0 0,
  ix_e 2 (.putfield (98)) 3 11 0 0 0 0,
  ix_e 5 (.aload_n (0)) 1 0 0 0 0 0,
  ix_e 6 (.invokevirtual (385)) 3 192 1 0 11 0,
  ix_e 9 (.iconst (0)) 1 0 0 0 0 0,
  ix_e 10 (.istore_n (1)) 1 1 0 0 0 0,
  ix_e 11 (.iconst (0)) 1 0 0 0 0 0,
  ix_e 12 (.istore_n (2)) 1 2 0 0 0 0,
  ix_c 13 (.iload_n (2)) 1 [true, true, true, false, false] 2 0 0 0 0,
  ix_e 14 (.aload_n (0)) 1 0 0 0 0 0,
  ix_e 15 (.getfield (286)) 3 11 37 0 0 0,
  ix_e 18 (.if_icmp .ge (80)) 3 98 0 0 0 0,
  ix_e 21 (.aload_n (0)) 1 0 0 0 0 0,
  ix_e 22 (.getfield (68)) 3 11 38 2 0 0,
  ix_e 25 (.iconst (2)) 1 0 0 0 0 2,
  ix_e 26 (.iload_n (2)) 1 2 0 0 0 0,
  ix_e 27 .imul 1 0 0 0 0 0,
  ix_e 28 .iaload 1 0 0 0 0 0,
  ix_e 29 (.aload_n (0)) 1 0 0 0 0 0,
  ix_e 30 (.invokevirtual (326)) 3 196 1 1 11 0,
  ix_e 33 .iand 1 0 0 0 0 0,
  ix_e 34 (.istore_n (3)) 1 3 0 0 0 0,
  ix_e 35 (.iload_n (3)) 1 3 0 0 0 0,
  ix_e 36 (.ifCond .eq (13)) 3 49 0 0 0 0,
  ix_e 39 (.aload_n (0)) 1 0 0 0 0 0,
  ix_e 40 (.iload_n (3)) 1 3 0 0 0 0,
  ix_e 41 (.invokevirtual (388)) 3 193 2 1 11 0,
  ix_e 44 .pop 1 0 0 0 0 0,
  ix_e 45 (.iload_n (1)) 1 1 0 0 0 0,
  ix_e 46 (.iconst (1)) 1 0 0 0 0 1,
  ix_e 47 .iadd 1 0 0 0 0 0,
  ix_e 48 (.istore_n (1)) 1 1 0 0 0 0,
  ix_e 49 (.iconst (0)) 1 0 0 0 0 0,
  ix_e 50 (.istore (4)) 2 4 0 0 0 0,
  ix_c 52 (.iload (4)) 2 [true, true, true, false, true] 4 0 0 0 0,
  ix_e 54 (.aload_n (0)) 1 0 0 0 0 0,
  ix_e 55 (.getfield (125)) 3 11 7 0 0 0,
  ix_e 58 (.if_icmp .ge (34)) 3 92 0 0 0 0,
  ix_e 61 (.aload_n (0)) 1 0 0 0 0 0,
  ix_e 62 (.aload_n (0)) 1 0 0 0 0 0,
  ix_e 63 (.getfield (68)) 3 11 38 2 0 0,
  ix_e 66 (.iconst (2)) 1 0 0 0 0 2,
  ix_e 67 (.iload_n (2)) 1 2 0 0 0 0,
  ix_e 68 .imul 1 0 0 0 0 0,
  ix_e 69 (.iconst (1)) 1 0 0 0 0 1,
  ix_e 70 .iadd 1 0 0 0 0 0,
  ix_e 71 .iaload 1 0 0 0 0 0,
  ix_e 72 (.iload (4)) 2 4 0 0 0 0,
  ix_e 74 (.invokevirtual (255)) 3 197 3 1 11 0,
  ix_e 77 (.ifCond .eq (9)) 3 86 0 0 0 0,
  ix_e 80 (.aload_n (0)) 1 0 0 0 0 0,
  ix_e 81 (.iload (4)) 2 4 0 0 0 0,
  ix_e 83 (.invokevirtual (391)) 3 195 2 0 11 0,
  ix_e 86 (.iinc 4 (1)) 3 4 0 0 0 1,
  ix_e 89 (.goto (-37)) 3 52 0 0 0 0,
  ix_e 92 (.iinc 2 (1)) 3 2 0 0 0 1,
  ix_e 95 (.goto (-82)) 3 13 0 0 0 0,
  ix_e 98 (.iload_n (1)) 1 1 0 0 0 0,
  ix_e 99 .ireturn 1 0 0 0 0 0]
/-- VotedBankModel.feed (IIIII)I -/
def ix_t163 : List ix_E := [ix_e 0 (.aload_n (0)) 1 0 0 0 0 0,
  ix_e 1 (.iconst (0)) 1 0 0 0 0 0,
  ix_e 2 (.putfield (98)) 3 11 0 0 0 0,
  ix_e 5 (.aload_n (0)) 1 0 0 0 0 0,
  ix_e 6 (.getfield (145)) 3 11 13 0 0 0,
  ix_e 9 (.sipush (380)) 3 0 0 0 0 380,
  ix_e 12 (.if_icmp .le (5)) 3 17 0 0 0 0,
  ix_e 15 (.iconst (-1)) 1 0 0 0 0 (-1),
  ix_e 16 .ireturn 1 0 0 0 0 0,
  ix_e 17 (.aload_n (0)) 1 0 0 0 0 0,
  ix_e 18 (.iload_n (1)) 1 1 0 0 0 0,
  ix_e 19 (.invokevirtual (148)) 3 198 2 0 11 0,
  ix_e 22 (.aload_n (0)) 1 0 0 0 0 0,
  ix_e 23 (.iload_n (2)) 1 2 0 0 0 0,
  ix_e 24 (.invokevirtual (148)) 3 198 2 0 11 0,
  ix_e 27 (.aload_n (0)) 1 0 0 0 0 0,
  ix_e 28 (.iload_n (3)) 1 3 0 0 0 0,
  ix_e 29 (.invokevirtual (148)) 3 198 2 0 11 0,
  ix_e 32 (.aload_n (0)) 1 0 0 0 0 0,
  ix_e 33 (.iload (4)) 2 4 0 0 0 0,
  ix_e 35 (.invokevirtual (148)) 3 198 2 0 11 0,
  ix_e 38 (.aload_n (0)) 1 0 0 0 0 0,
  ix_e 39 (.iload (5)) 2 5 0 0 0 0,
  ix_e 41 (.invokevirtual (148)) 3 198 2 0 11 0,
  ix_e 44 (.aload_n (0)) 1 0 0 0 0 0,
  ix_e 45 (.getfield (145)) 3 11 13 0 0 0,
  ix_e 48 .ireturn 1 0 0 0 0 0]
/-- VotedBankModel.end (I)Z -/
def ix_t164 : List ix_E := [ix_e 0 (.aload_n (0)) 1 0 0 0 0 0,
  ix_e 1 (.iconst (0)) 1 0 0 0 0 0,
  ix_e 2 (.putfield (98)) 3 11 0 0 0 0,
  ix_e 5 (.aload_n (0)) 1 0 0 0 0 0,
  ix_e 6 (.iload_n (1)) 1 1 0 0 0 0,
  ix_e 7 (.iconst (0)) 1 0 0 0 0 0,
  ix_e 8 (.aload_n (0)) 1 0 0 0 0 0,
  ix_e 9 (.getfield (145)) 3 11 13 0 0 0,
  ix_e 12 (.invokevirtual (115)) 3 189 4 1 11 0,
  ix_e 15 (.ifCond .ne (5)) 3 20 0 0 0 0,
  ix_e 18 (.iconst (0)) 1 0 0 0 0 0,
  ix_e 19 .ireturn 1 1 0 0 0 0,
  ix_e 20 (.aload_n (0)) 1 0 0 0 0 0,
  ix_e 21 (.iload_n (1)) 1 1 0 0 0 0,
  ix_e 22 (.putfield (145)) 3 11 13 0 0 0,
  ix_e 25 (.iconst (1)) 1 0 0 0 0 1,
  ix_e 26 .ireturn 1 1 0 0 0 0]
/-- VotedBankModel.text (I)I -/
def ix_t165 : List ix_E := [ix_e 0 (.aload_n (0)) 1 0 0 0 0 0,
  ix_e 1 (.iconst (0)) 1 0 0 0 0 0,
  ix_e 2 (.putfield (98)) 3 11 0 0 0 0,
  ix_e 5 (.aload_n (0)) 1 0 0 0 0 0,
  ix_e 6 (.iconst (0)) 1 0 0 0 0 0,
  ix_e 7 (.putfield (289)) 3 11 33 0 0 0,
  ix_e 10 (.aload_n (0)) 1 0 0 0 0 0,
  ix_e 11 (.iconst (-1)) 1 0 0 0 0 (-1),
  ix_e 12 (.putfield (61)) 3 11 34 0 0 0,
  ix_e 15 (.aload_n (0)) 1 0 0 0 0 0,
  ix_e 16 (.iconst (0)) 1 0 0 0 0 0,
  ix_e 17 (.putfield (152)) 3 11 14 0 0 0,
  ix_e 20 (.aload_n (0)) 1 0 0 0 0 0,
  ix_e 21 (.iconst (0)) 1 0 0 0 0 0,
  ix_e 22 (.putfield (186)) 3 11 27 0 0 0,
  ix_e 25 (.aload_n (0)) 1 0 0 0 0 0,
  ix_e 26 (.iconst (0)) 1 0 0 0 0 0,
  ix_e 27 (.putfield (217)) 3 11 28 0 0 0,
  ix_e 30 (.iconst (-1)) 1 0 0 0 0 (-1),
  ix_e 31 (.istore_n (2)) 1 2 0 0 0 0,
  ix_e 32 (.aload_n (0)) 1 0 0 0 0 0,
  ix_e 33 (.iload_n (1)) 1 1 0 0 0 0,
  ix_e 34 (.iconst (0)) 1 0 0 0 0 0,
  ix_e 35 (.iconst (3)) 1 0 0 0 0 3,
  ix_e 36 (.invokevirtual (115)) 3 189 4 1 11 0,
  ix_e 39 (.ifCond .eq (30)) 3 69 0 0 0 0,
  ix_e 42 (.aload_n (0)) 1 0 0 0 0 0,
  ix_e 43 (.iload_n (1)) 1 1 0 0 0 0,
  ix_e 44 (.invokevirtual (292)) 3 199 2 1 11 0,
  ix_e 47 (.istore_n (2)) 1 2 0 0 0 0,
  ix_e 48 (.iload_n (2)) 1 2 0 0 0 0,
  ix_e 49 (.iconst (-1)) 1 0 0 0 0 (-1),
  ix_e 50 (.if_icmp .ne (19)) 3 69 0 0 0 0,
  ix_e 53 (.aload_n (0)) 1 0 0 0 0 0,
  ix_e 54 (.aload_n (0)) 1 0 0 0 0 0,
  ix_e 55 (.getfield (180)) 3 11 31 0 0 0,
  ix_e 58 (.putfield (289)) 3 11 33 0 0 0,
  ix_e 61 (.aload_n (0)) 1 0 0 0 0 0,
  ix_e 62 (.aload_n (0)) 1 0 0 0 0 0,
  ix_e 63 (.getfield (183)) 3 11 32 0 0 0,
  ix_e 66 (.putfield (61)) 3 11 34 0 0 0,
  ix_e 69 (.aload_n (0)) 1 0 0 0 0 0,
  ix_e 70 (.iconst (0)) 1 0 0 0 0 0,
  ix_e 71 (.putfield (145)) 3 11 13 0 0 0,
  ix_e 74 (.iload_n (2)) 1 2 0 0 0 0,
  ix_e 75 (.iconst (-1)) 1 0 0 0 0 (-1),
  ix_e 76 (.if_icmp .ne (5)) 3 81 0 0 0 0,
  ix_e 79 (.iconst (-1)) 1 0 0 0 0 (-1),
  ix_e 80 .ireturn 1 0 0 0 0 0,
  ix_e 81 (.iload_n (1)) 1 1 0 0 0 0,
  ix_e 82 (.ifCond .ne (11)) 3 93 0 0 0 0,
  ix_e 85 (.aload_n (0)) 1 0 0 0 0 0,
  ix_e 86 (.iload_n (2)) 1 2 0 0 0 0,
  ix_e 87 (.invokevirtual (295)) 3 200 2 0 11 0,
  ix_e 90 (.goto (9)) 3 99 0 0 0 0,
  ix_e 93 (.aload_n (0)) 1 0 0 0 0 0,
  ix_e 94 (.iload_n (1)) 1 1 0 0 0 0,
  ix_e 95 (.iload_n (2)) 1 2 0 0 0 0,
  ix_e 96 (.invokevirtual (298)) 3 201 3 0 11 0,
  ix_e 99 (.iload_n (2)) 1 2 0 0 0 0,
  ix_e 100 .ireturn 1 0 0 0 0 0]
/-- VotedBankModel.fault (I)I -/
def ix_t166 : List ix_E := [ix_e 0 (.aload_n (0)) 1 0 0 0 0 0,
  ix_e 1 (.iconst (0)) 1 0 0 0 0 0,
  ix_e 2 (.putfield (98)) 3 11 0 0 0 0,
  ix_e 5 (.iload_n (1)) 1 1 0 0 0 0,
  ix_e 6 (.ifCond .ne (10)) 3 16 0 0 0 0,
  ix_e 9 (.aload_n (0)) 1 0 0 0 0 0,
  ix_e 10 (.getfield (289)) 3 11 33 0 0 0,
  ix_e 13 (.goto (16)) 3 29 0 0 0 0,
  ix_e 16 (.iload_n (1)) 1 1 0 0 0 0,
  ix_e 17 (.iconst (1)) 1 0 0 0 0 1,
  ix_e 18 (.if_icmp .ne (10)) 3 28 0 0 0 0,
  ix_e 21 (.aload_n (0)) 1 0 0 0 0 0,
  ix_e 22 (.getfield (61)) 3 11 34 0 0 0,
  ix_e 25 (.goto (4)) 3 29 0 0 0 0,
  ix_e 28 (.iconst (-1)) 1 0 0 0 0 (-1),
  ix_e 29 .ireturn 1 0 0 0 0 0]
/-- VotedBankModel.of (II)I -/
def ix_t167 : List ix_E := [ix_e 0 (.aload_n (0)) 1 0 0 0 0 0,
  ix_e 1 (.iconst (0)) 1 0 0 0 0 0,
  ix_e 2 (.putfield (98)) 3 11 0 0 0 0,
  ix_e 5 (.aload_n (0)) 1 0 0 0 0 0,
  ix_e 6 (.iload_n (1)) 1 1 0 0 0 0,
  ix_e 7 (.invokevirtual (136)) 3 194 2 1 11 0,
  ix_e 10 (.ifCond .ne (5)) 3 15 0 0 0 0,
  ix_e 13 (.iconst (-1)) 1 0 0 0 0 (-1),
  ix_e 14 .ireturn 1 0 0 0 0 0,
  ix_e 15 (.iload_n (2)) 1 2 0 0 0 0,
  ix_e 16 (.ifCond .ne (13)) 3 29 0 0 0 0,
  ix_e 19 (.aload_n (0)) 1 0 0 0 0 0,
  ix_e 20 (.getfield (7)) 3 11 1 2 0 0,
  ix_e 23 (.bipush (6)) 2 0 0 0 0 6,
  ix_e 25 (.iload_n (1)) 1 1 0 0 0 0,
  ix_e 26 .iadd 1 0 0 0 0 0,
  ix_e 27 .iaload 1 0 0 0 0 0,
  ix_e 28 .ireturn 1 0 0 0 0 0,
  ix_e 29 (.iload_n (2)) 1 2 0 0 0 0,
  ix_e 30 (.iconst (1)) 1 0 0 0 0 1,
  ix_e 31 (.if_icmp .ne (10)) 3 41 0 0 0 0,
  ix_e 34 (.aload_n (0)) 1 0 0 0 0 0,
  ix_e 35 (.getfield (19)) 3 11 8 2 0 0,
  ix_e 38 (.iload_n (1)) 1 1 0 0 0 0,
  ix_e 39 .iaload 1 0 0 0 0 0,
  ix_e 40 .ireturn 1 0 0 0 0 0,
  ix_e 41 (.iload_n (2)) 1 2 0 0 0 0,
  ix_e 42 (.iconst (2)) 1 0 0 0 0 2,
  ix_e 43 (.if_icmp .ne (10)) 3 53 0 0 0 0,
  ix_e 46 (.aload_n (0)) 1 0 0 0 0 0,
  ix_e 47 (.getfield (22)) 3 11 9 2 0 0,
  ix_e 50 (.iload_n (1)) 1 1 0 0 0 0,
  ix_e 51 .iaload 1 0 0 0 0 0,
  ix_e 52 .ireturn 1 0 0 0 0 0,
  ix_e 53 (.iload_n (2)) 1 2 0 0 0 0,
  ix_e 54 (.iconst (3)) 1 0 0 0 0 3,
  ix_e 55 (.if_icmp .ne (10)) 3 65 0 0 0 0,
  ix_e 58 (.aload_n (0)) 1 0 0 0 0 0,
  ix_e 59 (.getfield (25)) 3 11 10 2 0 0,
  ix_e 62 (.iload_n (1)) 1 1 0 0 0 0,
  ix_e 63 .iaload 1 0 0 0 0 0,
  ix_e 64 .ireturn 1 0 0 0 0 0,
  ix_e 65 (.iload_n (2)) 1 2 0 0 0 0,
  ix_e 66 (.iconst (4)) 1 0 0 0 0 4,
  ix_e 67 (.if_icmp .ne (13)) 3 80 0 0 0 0,
  ix_e 70 (.aload_n (0)) 1 0 0 0 0 0,
  ix_e 71 (.getfield (7)) 3 11 1 2 0 0,
  ix_e 74 (.bipush (18)) 2 0 0 0 0 18,
  ix_e 76 (.iload_n (1)) 1 1 0 0 0 0,
  ix_e 77 .iadd 1 0 0 0 0 0,
  ix_e 78 .iaload 1 0 0 0 0 0,
  ix_e 79 .ireturn 1 0 0 0 0 0,
  ix_e 80 (.iload_n (2)) 1 2 0 0 0 0,
  ix_e 81 (.iconst (5)) 1 0 0 0 0 5,
  ix_e 82 (.if_icmp .ne (13)) 3 95 0 0 0 0,
  ix_e 85 (.aload_n (0)) 1 0 0 0 0 0,
  ix_e 86 (.getfield (7)) 3 11 1 2 0 0,
  ix_e 89 (.bipush (30)) 2 0 0 0 0 30,
  ix_e 91 (.iload_n (1)) 1 1 0 0 0 0,
  ix_e 92 .iadd 1 0 0 0 0 0,
  ix_e 93 .iaload 1 0 0 0 0 0,
  ix_e 94 .ireturn 1 0 0 0 0 0,
  ix_e 95 (.iload_n (2)) 1 2 0 0 0 0,
  ix_e 96 (.bipush (6)) 2 0 0 0 0 6,
  ix_e 98 (.if_icmp .ne (13)) 3 111 0 0 0 0,
  ix_e 101 (.aload_n (0)) 1 0 0 0 0 0,
  ix_e 102 (.getfield (7)) 3 11 1 2 0 0,
  ix_e 105 (.bipush (42)) 2 0 0 0 0 42,
  ix_e 107 (.iload_n (1)) 1 1 0 0 0 0,
  ix_e 108 .iadd 1 0 0 0 0 0,
  ix_e 109 .iaload 1 0 0 0 0 0,
  ix_e 110 .ireturn 1 0 0 0 0 0,
  ix_e 111 (.iload_n (2)) 1 2 0 0 0 0,
  ix_e 112 (.bipush (7)) 2 0 0 0 0 7,
  ix_e 114 (.if_icmp .ne (10)) 3 124 0 0 0 0,
  ix_e 117 (.aload_n (0)) 1 0 0 0 0 0,
  ix_e 118 (.getfield (65)) 3 11 36 2 0 0,
  ix_e 121 (.iload_n (1)) 1 1 0 0 0 0,
  ix_e 122 .iaload 1 0 0 0 0 0,
  ix_e 123 .ireturn 1 0 0 0 0 0,
  ix_e 124 (.iload_n (2)) 1 2 0 0 0 0,
  ix_e 125 (.bipush (8)) 2 0 0 0 0 8,
  ix_e 127 (.if_icmp .ne (11)) 3 138 0 0 0 0,
  ix_e 130 (.aload_n (0)) 1 0 0 0 0 0,
  ix_e 131 (.iload_n (1)) 1 1 0 0 0 0,
  ix_e 132 (.invokevirtual (394)) 3 202 2 1 11 0,
  ix_e 135 (.goto (27)) 3 162 0 0 0 0,
  ix_e 138 (.iload_n (2)) 1 2 0 0 0 0,
  ix_e 139 (.bipush (9)) 2 0 0 0 0 9,
  ix_e 141 (.if_icmp .ne (20)) 3 161 0 0 0 0,
  ix_e 144 (.aload_n (0)) 1 0 0 0 0 0,
  ix_e 145 (.iload_n (1)) 1 1 0 0 0 0,
  ix_e 146 (.iconst (0)) 1 0 0 0 0 0,
  ix_e 147 (.aload_n (0)) 1 0 0 0 0 0,
  ix_e 148 (.invokevirtual (326)) 3 196 1 1 11 0,
  ix_e 151 (.iconst (1)) 1 0 0 0 0 1,
  ix_e 152 (.iload_n (1)) 1 1 0 0 0 0,
  ix_e 153 .ishl 1 0 0 0 0 0,
  ix_e 154 .ior 1 0 0 0 0 0,
  ix_e 155 (.invokevirtual (352)) 3 203 4 1 11 0,
  ix_e 158 (.goto (4)) 3 162 0 0 0 0,
  ix_e 161 (.iconst (-1)) 1 0 0 0 0 (-1),
  ix_e 162 .ireturn 1 0 0 0 0 0]
/-- VotedBankModel.sway (II)I -/
def ix_t168 : List ix_E := [ix_e 0 (.aload_n (0)) 1 0 0 0 0 0,
  ix_e 1 (.iconst (0)) 1 0 0 0 0 0,
  ix_e 2 (.putfield (98)) 3 11 0 0 0 0,
  ix_e 5 (.aload_n (0)) 1 0 0 0 0 0,
  ix_e 6 (.iload_n (1)) 1 1 0 0 0 0,
  ix_e 7 (.invokevirtual (136)) 3 194 2 1 11 0,
  ix_e 10 (.ifCond .eq (29)) 3 39 0 0 0 0,
  ix_e 13 (.aload_n (0)) 1 0 0 0 0 0,
  ix_e 14 (.iload_n (2)) 1 2 0 0 0 0,
  ix_e 15 (.invokevirtual (136)) 3 194 2 1 11 0,
  ix_e 18 (.ifCond .eq (21)) 3 39 0 0 0 0,
  ix_e 21 (.aload_n (0)) 1 0 0 0 0 0,
  ix_e 22 (.iload_n (1)) 1 1 0 0 0 0,
  ix_e 23 (.iload_n (2)) 1 2 0 0 0 0,
  ix_e 24 (.iconst (0)) 1 0 0 0 0 0,
  ix_e 25 (.aload_n (0)) 1 0 0 0 0 0,
  ix_e 26 (.invokevirtual (326)) 3 196 1 1 11 0,
  ix_e 29 (.iconst (1)) 1 0 0 0 0 1,
  ix_e 30 (.iload_n (1)) 1 1 0 0 0 0,
  ix_e 31 .ishl 1 0 0 0 0 0,
  ix_e 32 .ior 1 0 0 0 0 0,
  ix_e 33 (.invokevirtual (335)) 3 204 5 1 11 0,
  ix_e 36 (.goto (4)) 3 40 0 0 0 0,
  ix_e 39 (.iconst (-1)) 1 0 0 0 0 (-1),
  ix_e 40 .ireturn 1 0 0 0 0 0]
/-- VotedBankModel.season (II)I -/
def ix_t169 : List ix_E := [ix_e 0 (.aload_n (0)) 1 0 0 0 0 0,
  ix_e 1 (.iconst (0)) 1 0 0 0 0 0,
  ix_e 2 (.putfield (98)) 3 11 0 0 0 0,
  ix_e 5 (.aload_n (0)) 1 0 0 0 0 0,
  ix_e 6 (.iload_n (1)) 1 1 0 0 0 0,
  ix_e 7 (.iconst (0)) 1 0 0 0 0 0,
  ix_e 8 (.iconst (5)) 1 0 0 0 0 5,
  ix_e 9 (.invokevirtual (115)) 3 189 4 1 11 0,
  ix_e 12 (.ifCond .eq (22)) 3 34 0 0 0 0,
  ix_e 15 (.aload_n (0)) 1 0 0 0 0 0,
  ix_e 16 (.iload_n (2)) 1 2 0 0 0 0,
  ix_e 17 (.iconst (0)) 1 0 0 0 0 0,
  ix_e 18 (.iconst (1)) 1 0 0 0 0 1,
  ix_e 19 (.invokevirtual (115)) 3 189 4 1 11 0,
  ix_e 22 (.ifCond .eq (12)) 3 34 0 0 0 0,
  ix_e 25 (.aload_n (0)) 1 0 0 0 0 0,
  ix_e 26 (.iload_n (1)) 1 1 0 0 0 0,
  ix_e 27 (.invokevirtual (370)) 3 205 2 1 11 0,
  ix_e 30 (.iconst (-1)) 1 0 0 0 0 (-1),
  ix_e 31 (.if_icmp .ne (5)) 3 36 0 0 0 0,
  ix_e 34 (.iconst (-1)) 1 0 0 0 0 (-1),
  ix_e 35 .ireturn 1 0 0 0 0 0,
  ix_e 36 (.aload_n (0)) 1 0 0 0 0 0,
  ix_e 37 (.getfield (71)) 3 11 40 2 0 0,
  ix_e 40 (.aload_n (0)) 1 0 0 0 0 0,
  ix_e 41 (.iload_n (1)) 1 1 0 0 0 0,
  ix_e 42 (.invokevirtual (370)) 3 205 2 1 11 0,
  ix_e 45 (.iconst (1)) 1 0 0 0 0 1,
  ix_e 46 .iadd 1 0 0 0 0 0,
  ix_e 47 (.iload_n (2)) 1 2 0 0 0 0,
  ix_e 48 .iadd 1 0 0 0 0 0,
  ix_e 49 .iaload 1 0 0 0 0 0,
  ix_e 50 .ireturn 1 0 0 0 0 0]
/-- VotedBankModel.book (II)I -/
def ix_t170 : List ix_E := [ix_e 0 (.aload_n (0)) 1 0 0 0 0 0,
  ix_e 1 (.iconst (0)) 1 0 0 0 0 0,
  ix_e 2 (.putfield (98)) 3 11 0 0 0 0,
  ix_e 5 (.aload_n (0)) 1 0 0 0 0 0,
  ix_e 6 (.iload_n (1)) 1 1 0 0 0 0,
  ix_e 7 (.iconst (0)) 1 0 0 0 0 0,
  ix_e 8 (.aload_n (0)) 1 0 0 0 0 0,
  ix_e 9 (.getfield (7)) 3 11 1 2 0 0,
  ix_e 12 (.iconst (2)) 1 0 0 0 0 2,
  ix_e 13 .iaload 1 0 0 0 0 0,
  ix_e 14 (.iconst (1)) 1 0 0 0 0 1,
  ix_e 15 .isub 1 0 0 0 0 0,
  ix_e 16 (.invokevirtual (115)) 3 189 4 1 11 0,
  ix_e 19 (.ifCond .eq (26)) 3 45 0 0 0 0,
  ix_e 22 (.aload_n (0)) 1 0 0 0 0 0,
  ix_e 23 (.iload_n (2)) 1 2 0 0 0 0,
  ix_e 24 (.iconst (0)) 1 0 0 0 0 0,
  ix_e 25 (.iconst (3)) 1 0 0 0 0 3,
  ix_e 26 (.invokevirtual (115)) 3 189 4 1 11 0,
  ix_e 29 (.ifCond .eq (16)) 3 45 0 0 0 0,
  ix_e 32 (.aload_n (0)) 1 0 0 0 0 0,
  ix_e 33 (.getfield (28)) 3 11 11 2 0 0,
  ix_e 36 (.iconst (4)) 1 0 0 0 0 4,
  ix_e 37 (.iload_n (1)) 1 1 0 0 0 0,
  ix_e 38 .imul 1 0 0 0 0 0,
  ix_e 39 (.iload_n (2)) 1 2 0 0 0 0,
  ix_e 40 .iadd 1 0 0 0 0 0,
  ix_e 41 .iaload 1 0 0 0 0 0,
  ix_e 42 (.goto (5)) 3 47 0 0 0 0,
  ix_e 45 (.bipush (-2)) 2 0 0 0 0 (-2),
  ix_e 47 .ireturn 1 0 0 0 0 0]
/-- VotedBankModel.would (II)I -/
def ix_t171 : List ix_E := [ix_e 0 (.aload_n (0)) 1 0 0 0 0 0,
  ix_e 1 (.iconst (0)) 1 0 0 0 0 0,
  ix_e 2 (.putfield (98)) 3 11 0 0 0 0,
  ix_e 5 (.aload_n (0)) 1 0 0 0 0 0,
  ix_e 6 (.iload_n (1)) 1 1 0 0 0 0,
  ix_e 7 (.invokevirtual (382)) 3 191 2 1 11 0,
  ix_e 10 (.ifCond .eq (13)) 3 23 0 0 0 0,
  ix_e 13 (.aload_n (0)) 1 0 0 0 0 0,
  ix_e 14 (.iload_n (2)) 1 2 0 0 0 0,
  ix_e 15 (.iconst (0)) 1 0 0 0 0 0,
  ix_e 16 (.iconst (2)) 1 0 0 0 0 2,
  ix_e 17 (.invokevirtual (115)) 3 189 4 1 11 0,
  ix_e 20 (.ifCond .ne (5)) 3 25 0 0 0 0,
  ix_e 23 (.iconst (-1)) 1 0 0 0 0 (-1),
  ix_e 24 .ireturn 1 0 0 0 0 0,
  ix_e 25 (.aload_n (0)) 1 0 0 0 0 0,
  ix_e 26 (.invokevirtual (397)) 3 206 1 0 11 0,
  ix_e 29 (.aload_n (0)) 1 0 0 0 0 0,
  ix_e 30 (.iload_n (1)) 1 1 0 0 0 0,
  ix_e 31 (.invokevirtual (373)) 3 207 2 1 11 0,
  ix_e 34 (.istore_n (3)) 1 3 0 0 0 0,
  ix_e 35 (.aload_n (0)) 1 0 0 0 0 0,
  ix_e 36 (.invokevirtual (400)) 3 208 1 0 11 0,
  ix_e 39 (.iload_n (2)) 1 2 0 0 0 0,
  ix_e 40 (.ifCond .ne (7)) 3 47 0 0 0 0,
  ix_e 43 (.iload_n (3)) 1 3 0 0 0 0,
  ix_e 44 (.goto (29)) 3 73 0 0 0 0,
  ix_e 47 (.iload_n (2)) 1 2 0 0 0 0,
  ix_e 48 (.iconst (2)) 1 0 0 0 0 2,
  ix_e 49 (.if_icmp .ne (10)) 3 59 0 0 0 0,
  ix_e 52 (.aload_n (0)) 1 0 0 0 0 0,
  ix_e 53 (.getfield (345)) 3 11 43 0 0 0,
  ix_e 56 (.goto (17)) 3 73 0 0 0 0,
  ix_e 59 (.iload_n (3)) 1 3 0 0 0 0,
  ix_e 60 (.ifCond .ne (7)) 3 67 0 0 0 0,
  ix_e 63 (.iconst (0)) 1 0 0 0 0 0,
  ix_e 64 (.goto (9)) 3 73 0 0 0 0,
  ix_e 67 (.aload_n (0)) 1 0 0 0 0 0,
  ix_e 68 (.getfield (80)) 3 11 44 2 0 0,
  ix_e 71 (.iload_n (3)) 1 3 0 0 0 0,
  ix_e 72 .iaload 1 0 0 0 0 0,
  ix_e 73 .ireturn 1 0 0 0 0 0]
/-- VotedBankModel.makes (II)I -/
def ix_t172 : List ix_E := [ix_e 0 (.aload_n (0)) 1 0 0 0 0 0,
  ix_e 1 (.iconst (0)) 1 0 0 0 0 0,
  ix_e 2 (.putfield (98)) 3 11 0 0 0 0,
  ix_e 5 (.aload_n (0)) 1 0 0 0 0 0,
  ix_e 6 (.iload_n (1)) 1 1 0 0 0 0,
  ix_e 7 (.iconst (1)) 1 0 0 0 0 1,
  ix_e 8 (.iconst (5)) 1 0 0 0 0 5,
  ix_e 9 (.invokevirtual (115)) 3 189 4 1 11 0,
  ix_e 12 (.ifCond .eq (13)) 3 25 0 0 0 0,
  ix_e 15 (.aload_n (0)) 1 0 0 0 0 0,
  ix_e 16 (.iload_n (2)) 1 2 0 0 0 0,
  ix_e 17 (.iconst (0)) 1 0 0 0 0 0,
  ix_e 18 (.iconst (1)) 1 0 0 0 0 1,
  ix_e 19 (.invokevirtual (115)) 3 189 4 1 11 0,
  ix_e 22 (.ifCond .ne (5)) 3 27 0 0 0 0,
  ix_e 25 (.iconst (-1)) 1 0 0 0 0 (-1),
  ix_e 26 .ireturn 1 0 0 0 0 0,
  ix_e 27 (.aload_n (0)) 1 0 0 0 0 0,
  ix_e 28 (.invokevirtual (403)) 3 209 1 0 11 0,
  ix_e 31 (.aload_n (0)) 1 0 0 0 0 0,
  ix_e 32 (.invokevirtual (326)) 3 196 1 1 11 0,
  ix_e 35 (.istore_n (3)) 1 3 0 0 0 0,
  ix_e 36 (.iconst (-1)) 1 0 0 0 0 (-1),
  ix_e 37 (.istore (4)) 2 4 0 0 0 0,
  ix_e 39 (.iconst (0)) 1 0 0 0 0 0,
  ix_e 40 (.istore (5)) 2 5 0 0 0 0,
  ix_c 42 (.iload (5)) 2 [true, true, true, true, true, true] 5 0 0 0 0,
  ix_e 44 (.iload_n (3)) 1 3 0 0 0 0,
  ix_e 45 (.if_icmp .gt (55)) 3 100 0 0 0 0,
  ix_e 48 (.iload (5)) 2 5 0 0 0 0,
  ix_e 50 (.iload_n (3)) 1 3 0 0 0 0,
  ix_e 51 (.iconst (-1)) 1 0 0 0 0 (-1),
  ix_e 52 .ixor 1 0 0 0 0 0,
  ix_e 53 .iand 1 0 0 0 0 0,
  ix_e 54 (.ifCond .ne (40)) 3 94 0 0 0 0,
  ix_e 57 (.iload (4)) 2 4 0 0 0 0,
  ix_e 59 (.iconst (-1)) 1 0 0 0 0 (-1),
  ix_e 60 (.if_icmp .eq (18)) 3 78 0 0 0 0,
  ix_e 63 (.aload_n (0)) 1 0 0 0 0 0,
  ix_e 64 (.iload (5)) 2 5 0 0 0 0,
  ix_e 66 (.invokevirtual (307)) 3 210 2 1 11 0,
  ix_e 69 (.aload_n (0)) 1 0 0 0 0 0,
  ix_e 70 (.iload (4)) 2 4 0 0 0 0,
  ix_e 72 (.invokevirtual (307)) 3 210 2 1 11 0,
  ix_e 75 (.if_icmp .ge (19)) 3 94 0 0 0 0,
  ix_e 78 (.aload_n (0)) 1 0 0 0 0 0,
  ix_e 79 (.iload (5)) 2 5 0 0 0 0,
  ix_e 81 (.iconst (0)) 1 0 0 0 0 0,
  ix_e 82 (.iconst (0)) 1 0 0 0 0 0,
  ix_e 83 (.invokevirtual (406)) 3 211 4 1 11 0,
  ix_e 86 (.iload_n (1)) 1 1 0 0 0 0,
  ix_e 87 (.if_icmp .ne (7)) 3 94 0 0 0 0,
  ix_e 90 (.iload (5)) 2 5 0 0 0 0,
  ix_e 92 (.istore (4)) 2 4 0 0 0 0,
  ix_e 94 (.iinc 5 (1)) 3 5 0 0 0 1,
  ix_e 97 (.goto (-55)) 3 42 0 0 0 0,
  ix_e 100 (.iload (4)) 2 4 0 0 0 0,
  ix_e 102 (.iconst (-1)) 1 0 0 0 0 (-1),
  ix_e 103 (.if_icmp .eq (8)) 3 111 0 0 0 0,
  ix_e 106 (.iload_n (2)) 1 2 0 0 0 0,
  ix_e 107 (.iconst (1)) 1 0 0 0 0 1,
  ix_e 108 (.if_icmp .ne (8)) 3 116 0 0 0 0,
  ix_e 111 (.iload (4)) 2 4 0 0 0 0,
  ix_e 113 (.goto (9)) 3 122 0 0 0 0,
  ix_e 116 (.aload_n (0)) 1 0 0 0 0 0,
  ix_e 117 (.iload (4)) 2 4 0 0 0 0,
  ix_e 119 (.invokevirtual (307)) 3 210 2 1 11 0,
  ix_e 122 .ireturn 1 0 0 0 0 0]
/-- VotedBankModel.pivots (I)I -/
def ix_t173 : List ix_E := [ix_e 0 (.aload_n (0)) 1 0 0 0 0 0,
  ix_e 1 (.iconst (0)) 1 0 0 0 0 0,
  ix_e 2 (.putfield (98)) 3 11 0 0 0 0,
  ix_e 5 (.aload_n (0)) 1 0 0 0 0 0,
  ix_e 6 (.iload_n (1)) 1 1 0 0 0 0,
  ix_e 7 (.invokevirtual (136)) 3 194 2 1 11 0,
  ix_e 10 (.ifCond .eq (16)) 3 26 0 0 0 0,
  ix_e 13 (.aload_n (0)) 1 0 0 0 0 0,
  ix_e 14 (.getfield (7)) 3 11 1 2 0 0,
  ix_e 17 (.bipush (18)) 2 0 0 0 0 18,
  ix_e 19 (.iload_n (1)) 1 1 0 0 0 0,
  ix_e 20 .iadd 1 0 0 0 0 0,
  ix_e 21 .iaload 1 0 0 0 0 0,
  ix_e 22 (.iconst (1)) 1 0 0 0 0 1,
  ix_e 23 (.if_icmp .ne (5)) 3 28 0 0 0 0,
  ix_e 26 (.iconst (-1)) 1 0 0 0 0 (-1),
  ix_e 27 .ireturn 1 0 0 0 0 0,
  ix_e 28 (.aload_n (0)) 1 0 0 0 0 0,
  ix_e 29 (.invokevirtual (403)) 3 209 1 0 11 0,
  ix_e 32 (.aload_n (0)) 1 0 0 0 0 0,
  ix_e 33 (.invokevirtual (326)) 3 196 1 1 11 0,
  ix_e 36 (.iconst (1)) 1 0 0 0 0 1,
  ix_e 37 (.iload_n (1)) 1 1 0 0 0 0,
  ix_e 38 .ishl 1 0 0 0 0 0,
  ix_e 39 (.iconst (-1)) 1 0 0 0 0 (-1),
  ix_e 40 .ixor 1 0 0 0 0 0,
  ix_e 41 .iand 1 0 0 0 0 0,
  ix_e 42 (.istore_n (2)) 1 2 0 0 0 0,
  ix_e 43 (.iconst (0)) 1 0 0 0 0 0,
  ix_e 44 (.istore_n (3)) 1 3 0 0 0 0,
  ix_e 45 (.iconst (0)) 1 0 0 0 0 0,
  ix_e 46 (.istore (4)) 2 4 0 0 0 0,
  ix_c 48 (.iload (4)) 2 [true, true, true, true, true] 4 0 0 0 0,
  ix_e 50 (.iload_n (2)) 1 2 0 0 0 0,
  ix_e 51 (.if_icmp .gt (45)) 3 96 0 0 0 0,
  ix_e 54 (.iload (4)) 2 4 0 0 0 0,
  ix_e 56 (.iload_n (2)) 1 2 0 0 0 0,
  ix_e 57 (.iconst (-1)) 1 0 0 0 0 (-1),
  ix_e 58 .ixor 1 0 0 0 0 0,
  ix_e 59 .iand 1 0 0 0 0 0,
  ix_e 60 (.ifCond .ne (30)) 3 90 0 0 0 0,
  ix_e 63 (.aload_n (0)) 1 0 0 0 0 0,
  ix_e 64 (.iload (4)) 2 4 0 0 0 0,
  ix_e 66 (.iconst (0)) 1 0 0 0 0 0,
  ix_e 67 (.iconst (0)) 1 0 0 0 0 0,
  ix_e 68 (.invokevirtual (406)) 3 211 4 1 11 0,
  ix_e 71 (.aload_n (0)) 1 0 0 0 0 0,
  ix_e 72 (.iload (4)) 2 4 0 0 0 0,
  ix_e 74 (.iconst (1)) 1 0 0 0 0 1,
  ix_e 75 (.iload_n (1)) 1 1 0 0 0 0,
  ix_e 76 .ishl 1 0 0 0 0 0,
  ix_e 77 .ior 1 0 0 0 0 0,
  ix_e 78 (.iconst (0)) 1 0 0 0 0 0,
  ix_e 79 (.iconst (0)) 1 0 0 0 0 0,
  ix_e 80 (.invokevirtual (406)) 3 211 4 1 11 0,
  ix_e 83 (.if_icmp .eq (7)) 3 90 0 0 0 0,
  ix_e 86 (.iload_n (3)) 1 3 0 0 0 0,
  ix_e 87 (.iconst (1)) 1 0 0 0 0 1,
  ix_e 88 .iadd 1 0 0 0 0 0,
  ix_e 89 (.istore_n (3)) 1 3 0 0 0 0,
  ix_e 90 (.iinc 4 (1)) 3 4 0 0 0 1,
  ix_e 93 (.goto (-45)) 3 48 0 0 0 0,
  ix_e 96 (.iload_n (3)) 1 3 0 0 0 0,
  ix_e 97 .ireturn 1 0 0 0 0 0]
/-- VotedBankModel.beats (II)I -/
def ix_t174 : List ix_E := [ix_e 0 (.aload_n (0)) 1 0 0 0 0 0,
  ix_e 1 (.iconst (0)) 1 0 0 0 0 0,
  ix_e 2 (.putfield (98)) 3 11 0 0 0 0,
  ix_e 5 (.aload_n (0)) 1 0 0 0 0 0,
  ix_e 6 (.iload_n (1)) 1 1 0 0 0 0,
  ix_e 7 (.iconst (1)) 1 0 0 0 0 1,
  ix_e 8 (.iconst (5)) 1 0 0 0 0 5,
  ix_e 9 (.invokevirtual (115)) 3 189 4 1 11 0,
  ix_e 12 (.ifCond .eq (18)) 3 30 0 0 0 0,
  ix_e 15 (.aload_n (0)) 1 0 0 0 0 0,
  ix_e 16 (.iload_n (2)) 1 2 0 0 0 0,
  ix_e 17 (.iconst (1)) 1 0 0 0 0 1,
  ix_e 18 (.iconst (5)) 1 0 0 0 0 5,
  ix_e 19 (.invokevirtual (115)) 3 189 4 1 11 0,
  ix_e 22 (.ifCond .eq (8)) 3 30 0 0 0 0,
  ix_e 25 (.iload_n (1)) 1 1 0 0 0 0,
  ix_e 26 (.iload_n (2)) 1 2 0 0 0 0,
  ix_e 27 (.if_icmp .ne (7)) 3 34 0 0 0 0,
  ix_e 30 (.sipush (-1000)) 3 0 0 0 0 (-1000),
  ix_e 33 .ireturn 1 0 0 0 0 0,
  ix_e 34 (.aload_n (0)) 1 0 0 0 0 0,
  ix_e 35 (.invokevirtual (403)) 3 209 1 0 11 0,
  ix_e 38 (.aload_n (0)) 1 0 0 0 0 0,
  ix_e 39 (.iload_n (1)) 1 1 0 0 0 0,
  ix_e 40 (.iload_n (2)) 1 2 0 0 0 0,
  ix_e 41 (.invokevirtual (409)) 3 212 3 1 11 0,
  ix_e 44 .ireturn 1 0 0 0 0 0]
/-- VotedBankModel.wins (I)I -/
def ix_t175 : List ix_E := [ix_e 0 (.aload_n (0)) 1 0 0 0 0 0,
  ix_e 1 (.iconst (0)) 1 0 0 0 0 0,
  ix_e 2 (.putfield (98)) 3 11 0 0 0 0,
  ix_e 5 (.aload_n (0)) 1 0 0 0 0 0,
  ix_e 6 (.invokevirtual (403)) 3 209 1 0 11 0,
  ix_e 9 (.iload_n (1)) 1 1 0 0 0 0,
  ix_e 10 (.ifCond .ne (8)) 3 18 0 0 0 0,
  ix_e 13 (.aload_n (0)) 1 0 0 0 0 0,
  ix_e 14 (.invokevirtual (421)) 3 213 1 1 11 0,
  ix_e 17 .ireturn 1 0 0 0 0 0,
  ix_e 18 (.iload_n (1)) 1 1 0 0 0 0,
  ix_e 19 (.iconst (1)) 1 0 0 0 0 1,
  ix_e 20 (.if_icmp .ne (8)) 3 28 0 0 0 0,
  ix_e 23 (.aload_n (0)) 1 0 0 0 0 0,
  ix_e 24 (.invokevirtual (424)) 3 214 1 1 11 0,
  ix_e 27 .ireturn 1 0 0 0 0 0,
  ix_e 28 (.aload_n (0)) 1 0 0 0 0 0,
  ix_e 29 (.iload_n (1)) 1 1 0 0 0 0,
  ix_e 30 (.bipush (11)) 2 0 0 0 0 11,
  ix_e 32 (.bipush (15)) 2 0 0 0 0 15,
  ix_e 34 (.invokevirtual (115)) 3 189 4 1 11 0,
  ix_e 37 (.ifCond .eq (12)) 3 49 0 0 0 0,
  ix_e 40 (.aload_n (0)) 1 0 0 0 0 0,
  ix_e 41 (.iload_n (1)) 1 1 0 0 0 0,
  ix_e 42 (.bipush (10)) 2 0 0 0 0 10,
  ix_e 44 .isub 1 0 0 0 0 0,
  ix_e 45 (.invokevirtual (427)) 3 215 2 1 11 0,
  ix_e 48 .ireturn 1 0 0 0 0 0,
  ix_e 49 (.aload_n (0)) 1 0 0 0 0 0,
  ix_e 50 (.iload_n (1)) 1 1 0 0 0 0,
  ix_e 51 (.bipush (21)) 2 0 0 0 0 21,
  ix_e 53 (.bipush (25)) 2 0 0 0 0 25,
  ix_e 55 (.invokevirtual (115)) 3 189 4 1 11 0,
  ix_e 58 (.ifCond .eq (14)) 3 72 0 0 0 0,
  ix_e 61 (.aload_n (0)) 1 0 0 0 0 0,
  ix_e 62 (.iload_n (1)) 1 1 0 0 0 0,
  ix_e 63 (.bipush (20)) 2 0 0 0 0 20,
  ix_e 65 .isub 1 0 0 0 0 0,
  ix_e 66 (.invokevirtual (430)) 3 216 2 1 11 0,
  ix_e 69 (.goto (4)) 3 73 0 0 0 0,
  ix_e 72 (.iconst (-1)) 1 0 0 0 0 (-1),
  ix_e 73 .ireturn 1 0 0 0 0 0]
/-- VotedBankModel.boats (II)I -/
def ix_t176 : List ix_E := [ix_e 0 (.aload_n (0)) 1 0 0 0 0 0,
  ix_e 1 (.iconst (0)) 1 0 0 0 0 0,
  ix_e 2 (.putfield (98)) 3 11 0 0 0 0,
  ix_e 5 (.aload_n (0)) 1 0 0 0 0 0,
  ix_e 6 (.iload_n (1)) 1 1 0 0 0 0,
  ix_e 7 (.iconst (1)) 1 0 0 0 0 1,
  ix_e 8 (.bipush (12)) 2 0 0 0 0 12,
  ix_e 10 (.invokevirtual (115)) 3 189 4 1 11 0,
  ix_e 13 (.ifCond .eq (13)) 3 26 0 0 0 0,
  ix_e 16 (.aload_n (0)) 1 0 0 0 0 0,
  ix_e 17 (.iload_n (2)) 1 2 0 0 0 0,
  ix_e 18 (.iconst (0)) 1 0 0 0 0 0,
  ix_e 19 (.iconst (1)) 1 0 0 0 0 1,
  ix_e 20 (.invokevirtual (115)) 3 189 4 1 11 0,
  ix_e 23 (.ifCond .ne (5)) 3 28 0 0 0 0,
  ix_e 26 (.iconst (-1)) 1 0 0 0 0 (-1),
  ix_e 27 .ireturn 1 0 0 0 0 0,
  ix_e 28 (.iload_n (2)) 1 2 0 0 0 0,
  ix_e 29 (.ifCond .ne (11)) 3 40 0 0 0 0,
  ix_e 32 (.aload_n (0)) 1 0 0 0 0 0,
  ix_e 33 (.iload_n (1)) 1 1 0 0 0 0,
  ix_e 34 (.invokevirtual (433)) 3 217 2 1 11 0,
  ix_e 37 (.goto (8)) 3 45 0 0 0 0,
  ix_e 40 (.aload_n (0)) 1 0 0 0 0 0,
  ix_e 41 (.iload_n (1)) 1 1 0 0 0 0,
  ix_e 42 (.invokevirtual (436)) 3 218 2 1 11 0,
  ix_e 45 .ireturn 1 0 0 0 0 0]
/-- VotedBankModel.reaches (I)I -/
def ix_t177 : List ix_E := [ix_e 0 (.aload_n (0)) 1 0 0 0 0 0,
  ix_e 1 (.iconst (0)) 1 0 0 0 0 0,
  ix_e 2 (.putfield (98)) 3 11 0 0 0 0,
  ix_e 5 (.aload_n (0)) 1 0 0 0 0 0,
  ix_e 6 (.iload_n (1)) 1 1 0 0 0 0,
  ix_e 7 (.invokevirtual (136)) 3 194 2 1 11 0,
  ix_e 10 (.ifCond .ne (5)) 3 15 0 0 0 0,
  ix_e 13 (.iconst (-1)) 1 0 0 0 0 (-1),
  ix_e 14 .ireturn 1 0 0 0 0 0,
  ix_e 15 (.aload_n (0)) 1 0 0 0 0 0,
  ix_e 16 (.iconst (1)) 1 0 0 0 0 1,
  ix_e 17 (.iload_n (1)) 1 1 0 0 0 0,
  ix_e 18 .ishl 1 0 0 0 0 0,
  ix_e 19 (.invokevirtual (439)) 3 219 2 1 11 0,
  ix_e 22 (.istore_n (2)) 1 2 0 0 0 0,
  ix_e 23 (.iconst (-1)) 1 0 0 0 0 (-1),
  ix_e 24 (.istore_n (3)) 1 3 0 0 0 0,
  ix_c 25 (.iload_n (3)) 1 [true, false, true, true] 3 0 0 0 0,
  ix_e 26 (.iload_n (2)) 1 2 0 0 0 0,
  ix_e 27 (.if_icmp .eq (16)) 3 43 0 0 0 0,
  ix_e 30 (.iload_n (2)) 1 2 0 0 0 0,
  ix_e 31 (.istore_n (3)) 1 3 0 0 0 0,
  ix_e 32 (.iload_n (2)) 1 2 0 0 0 0,
  ix_e 33 (.aload_n (0)) 1 0 0 0 0 0,
  ix_e 34 (.iload_n (2)) 1 2 0 0 0 0,
  ix_e 35 (.invokevirtual (439)) 3 219 2 1 11 0,
  ix_e 38 .ior 1 0 0 0 0 0,
  ix_e 39 (.istore_n (2)) 1 2 0 0 0 0,
  ix_e 40 (.goto (-15)) 3 25 0 0 0 0,
  ix_e 43 (.iload_n (2)) 1 2 0 0 0 0,
  ix_e 44 .ireturn 1 0 0 0 0 0]
/-- VotedBankModel.alike (II)I -/
def ix_t178 : List ix_E := [ix_e 0 (.aload_n (0)) 1 0 0 0 0 0,
  ix_e 1 (.iconst (0)) 1 0 0 0 0 0,
  ix_e 2 (.putfield (98)) 3 11 0 0 0 0,
  ix_e 5 (.aload_n (0)) 1 0 0 0 0 0,
  ix_e 6 (.iload_n (1)) 1 1 0 0 0 0,
  ix_e 7 (.invokevirtual (136)) 3 194 2 1 11 0,
  ix_e 10 (.ifCond .eq (16)) 3 26 0 0 0 0,
  ix_e 13 (.iload_n (2)) 1 2 0 0 0 0,
  ix_e 14 (.iconst (-1)) 1 0 0 0 0 (-1),
  ix_e 15 (.if_icmp .eq (13)) 3 28 0 0 0 0,
  ix_e 18 (.aload_n (0)) 1 0 0 0 0 0,
  ix_e 19 (.iload_n (2)) 1 2 0 0 0 0,
  ix_e 20 (.invokevirtual (136)) 3 194 2 1 11 0,
  ix_e 23 (.ifCond .ne (5)) 3 28 0 0 0 0,
  ix_e 26 (.iconst (-1)) 1 0 0 0 0 (-1),
  ix_e 27 .ireturn 1 0 0 0 0 0,
  ix_e 28 (.iload_n (2)) 1 2 0 0 0 0,
  ix_e 29 (.iconst (-1)) 1 0 0 0 0 (-1),
  ix_e 30 (.if_icmp .eq (26)) 3 56 0 0 0 0,
  ix_e 33 (.aload_n (0)) 1 0 0 0 0 0,
  ix_e 34 (.aload_n (0)) 1 0 0 0 0 0,
  ix_e 35 (.getfield (7)) 3 11 1 2 0 0,
  ix_e 38 (.bipush (6)) 2 0 0 0 0 6,
  ix_e 40 (.iload_n (1)) 1 1 0 0 0 0,
  ix_e 41 .iadd 1 0 0 0 0 0,
  ix_e 42 .iaload 1 0 0 0 0 0,
  ix_e 43 (.aload_n (0)) 1 0 0 0 0 0,
  ix_e 44 (.getfield (7)) 3 11 1 2 0 0,
  ix_e 47 (.bipush (6)) 2 0 0 0 0 6,
  ix_e 49 (.iload_n (2)) 1 2 0 0 0 0,
  ix_e 50 .iadd 1 0 0 0 0 0,
  ix_e 51 .iaload 1 0 0 0 0 0,
  ix_e 52 (.invokevirtual (442)) 3 220 3 1 11 0,
  ix_e 55 .ireturn 1 0 0 0 0 0,
  ix_e 56 (.iconst (-1)) 1 0 0 0 0 (-1),
  ix_e 57 (.istore_n (3)) 1 3 0 0 0 0,
  ix_e 58 (.ldc_w (445)) 3 0 0 0 0 100000000,
  ix_e 61 (.istore (4)) 2 4 0 0 0 0,
  ix_e 63 (.iconst (0)) 1 0 0 0 0 0,
  ix_e 64 (.istore (5)) 2 5 0 0 0 0,
  ix_c 66 (.iload (5)) 2 [true, true, false, true, true, true, false] 5 0 0 0 0,
  ix_e 68 (.aload_n (0)) 1 0 0 0 0 0,
  ix_e 69 (.getfield (125)) 3 11 7 0 0 0,
  ix_e 72 (.if_icmp .ge (81)) 3 153 0 0 0 0,
  ix_e 75 (.iload (5)) 2 5 0 0 0 0,
  ix_e 77 (.iload_n (1)) 1 1 0 0 0 0,
  ix_e 78 (.if_icmp .eq (69)) 3 147 0 0 0 0,
  ix_e 81 (.aload_n (0)) 1 0 0 0 0 0,
  ix_e 82 (.getfield (7)) 3 11 1 2 0 0,
  ix_e 85 (.bipush (18)) 2 0 0 0 0 18,
  ix_e 87 (.iload (5)) 2 5 0 0 0 0,
  ix_e 89 .iadd 1 0 0 0 0 0,
  ix_e 90 .iaload 1 0 0 0 0 0,
  ix_e 91 (.iconst (1)) 1 0 0 0 0 1,
  ix_e 92 (.if_icmp .ne (6)) 3 98 0 0 0 0,
  ix_e 95 (.goto (52)) 3 147 0 0 0 0,
  ix_e 98 (.aload_n (0)) 1 0 0 0 0 0,
  ix_e 99 (.aload_n (0)) 1 0 0 0 0 0,
  ix_e 100 (.getfield (7)) 3 11 1 2 0 0,
  ix_e 103 (.bipush (6)) 2 0 0 0 0 6,
  ix_e 105 (.iload_n (1)) 1 1 0 0 0 0,
  ix_e 106 .iadd 1 0 0 0 0 0,
  ix_e 107 .iaload 1 0 0 0 0 0,
  ix_e 108 (.aload_n (0)) 1 0 0 0 0 0,
  ix_e 109 (.getfield (7)) 3 11 1 2 0 0,
  ix_e 112 (.bipush (6)) 2 0 0 0 0 6,
  ix_e 114 (.iload (5)) 2 5 0 0 0 0,
  ix_e 116 .iadd 1 0 0 0 0 0,
  ix_e 117 .iaload 1 0 0 0 0 0,
  ix_e 118 (.invokevirtual (442)) 3 220 3 1 11 0,
  ix_e 121 (.istore (6)) 2 6 0 0 0 0,
  ix_e 123 (.iload (6)) 2 6 0 0 0 0,
  ix_e 125 (.iload (4)) 2 4 0 0 0 0,
  ix_e 127 (.if_icmp .ge (8)) 3 135 0 0 0 0,
  ix_e 130 (.iload (5)) 2 5 0 0 0 0,
  ix_e 132 (.goto (4)) 3 136 0 0 0 0,
  ix_e 135 (.iload_n (3)) 1 3 0 0 0 0,
  ix_e 136 (.istore_n (3)) 1 3 0 0 0 0,
  ix_e 137 (.aload_n (0)) 1 0 0 0 0 0,
  ix_e 138 (.iload (4)) 2 4 0 0 0 0,
  ix_e 140 (.iload (6)) 2 6 0 0 0 0,
  ix_e 142 (.invokevirtual (376)) 3 221 3 1 11 0,
  ix_e 145 (.istore (4)) 2 4 0 0 0 0,
  ix_e 147 (.iinc 5 (1)) 3 5 0 0 0 1,
  ix_e 150 (.goto (-84)) 3 66 0 0 0 0,
  ix_e 153 (.iload_n (3)) 1 3 0 0 0 0,
  ix_e 154 .ireturn 1 0 0 0 0 0]
/-- VotedBankModel.middle (I)I -/
def ix_t179 : List ix_E := [ix_e 0 (.aload_n (0)) 1 0 0 0 0 0,
  ix_e 1 (.iconst (0)) 1 0 0 0 0 0,
  ix_e 2 (.putfield (98)) 3 11 0 0 0 0,
  ix_e 5 (.aload_n (0)) 1 0 0 0 0 0,
  ix_e 6 (.iload_n (1)) 1 1 0 0 0 0,
  ix_e 7 (.iconst (0)) 1 0 0 0 0 0,
  ix_e 8 (.iconst (1)) 1 0 0 0 0 1,
  ix_e 9 (.invokevirtual (115)) 3 189 4 1 11 0,
  ix_e 12 (.ifCond .ne (5)) 3 17 0 0 0 0,
  ix_e 15 (.iconst (-1)) 1 0 0 0 0 (-1),
  ix_e 16 .ireturn 1 0 0 0 0 0,
  ix_e 17 (.iconst (-1)) 1 0 0 0 0 (-1),
  ix_e 18 (.istore_n (2)) 1 2 0 0 0 0,
  ix_e 19 (.ldc_w (445)) 3 0 0 0 0 100000000,
  ix_e 22 (.istore_n (3)) 1 3 0 0 0 0,
  ix_e 23 (.sipush (12345)) 3 0 0 0 0 12345,
  ix_e 26 (.istore (4)) 2 4 0 0 0 0,
  ix_c 28 (.iload (4)) 2 [true, true, true, true, true, false] 4 0 0 0 0,
  ix_e 30 (.ldc (114)) 2 0 0 0 0 54321,
  ix_e 32 (.if_icmp .gt (54)) 3 86 0 0 0 0,
  ix_e 35 (.aload_n (0)) 1 0 0 0 0 0,
  ix_e 36 (.iload (4)) 2 4 0 0 0 0,
  ix_e 38 (.invokevirtual (132)) 3 188 2 1 11 0,
  ix_e 41 (.ifCond .ne (6)) 3 47 0 0 0 0,
  ix_e 44 (.goto (32)) 3 76 0 0 0 0,
  ix_e 47 (.aload_n (0)) 1 0 0 0 0 0,
  ix_e 48 (.iload (4)) 2 4 0 0 0 0,
  ix_e 50 (.invokevirtual (446)) 3 222 2 1 11 0,
  ix_e 53 (.istore (5)) 2 5 0 0 0 0,
  ix_e 55 (.iload (5)) 2 5 0 0 0 0,
  ix_e 57 (.iload_n (3)) 1 3 0 0 0 0,
  ix_e 58 (.if_icmp .ge (8)) 3 66 0 0 0 0,
  ix_e 61 (.iload (4)) 2 4 0 0 0 0,
  ix_e 63 (.goto (4)) 3 67 0 0 0 0,
  ix_e 66 (.iload_n (2)) 1 2 0 0 0 0,
  ix_e 67 (.istore_n (2)) 1 2 0 0 0 0,
  ix_e 68 (.aload_n (0)) 1 0 0 0 0 0,
  ix_e 69 (.iload_n (3)) 1 3 0 0 0 0,
  ix_e 70 (.iload (5)) 2 5 0 0 0 0,
  ix_e 72 (.invokevirtual (376)) 3 221 3 1 11 0,
  ix_e 75 (.istore_n (3)) 1 3 0 0 0 0,
  ix_e 76 (.iload (4)) 2 4 0 0 0 0,
  ix_e 78 (.bipush (9)) 2 0 0 0 0 9,
  ix_e 80 .iadd 1 0 0 0 0 0,
  ix_e 81 (.istore (4)) 2 4 0 0 0 0,
  ix_e 83 (.goto (-55)) 3 28 0 0 0 0,
  ix_e 86 (.iload_n (1)) 1 1 0 0 0 0,
  ix_e 87 (.ifCond .ne (7)) 3 94 0 0 0 0,
  ix_e 90 (.iload_n (2)) 1 2 0 0 0 0,
  ix_e 91 (.goto (4)) 3 95 0 0 0 0,
  ix_e 94 (.iload_n (3)) 1 3 0 0 0 0,
  ix_e 95 .ireturn 1 0 0 0 0 0]
/-- VotedBankModel.seen (I)I -/
def ix_t180 : List ix_E := [ix_e 0 (.aload_n (0)) 1 0 0 0 0 0,
  ix_e 1 (.iconst (0)) 1 0 0 0 0 0,
  ix_e 2 (.putfield (98)) 3 11 0 0 0 0,
  ix_e 5 (.iload_n (1)) 1 1 0 0 0 0,
  ix_e 6 (.iconst (-1)) 1 0 0 0 0 (-1),
  ix_e 7 (.if_icmp .ne (10)) 3 17 0 0 0 0,
  ix_e 10 (.aload_n (0)) 1 0 0 0 0 0,
  ix_e 11 (.iconst (0)) 1 0 0 0 0 0,
  ix_e 12 (.putfield (449)) 3 11 47 0 0 0,
  ix_e 15 (.iconst (0)) 1 0 0 0 0 0,
  ix_e 16 .ireturn 1 0 0 0 0 0,
  ix_e 17 (.aload_n (0)) 1 0 0 0 0 0,
  ix_e 18 (.iload_n (1)) 1 1 0 0 0 0,
  ix_e 19 (.iconst (0)) 1 0 0 0 0 0,
  ix_e 20 (.iconst (5)) 1 0 0 0 0 5,
  ix_e 21 (.invokevirtual (115)) 3 189 4 1 11 0,
  ix_e 24 (.ifCond .eq (12)) 3 36 0 0 0 0,
  ix_e 27 (.aload_n (0)) 1 0 0 0 0 0,
  ix_e 28 (.getfield (449)) 3 11 47 0 0 0,
  ix_e 31 (.bipush (20)) 2 0 0 0 0 20,
  ix_e 33 (.if_icmp .ne (5)) 3 38 0 0 0 0,
  ix_e 36 (.iconst (-1)) 1 0 0 0 0 (-1),
  ix_e 37 .ireturn 1 0 0 0 0 0,
  ix_e 38 (.aload_n (0)) 1 0 0 0 0 0,
  ix_e 39 (.getfield (89)) 3 11 48 2 0 0,
  ix_e 42 (.aload_n (0)) 1 0 0 0 0 0,
  ix_e 43 (.getfield (449)) 3 11 47 0 0 0,
  ix_e 46 (.iload_n (1)) 1 1 0 0 0 0,
  ix_e 47 .iastore 1 0 0 0 0 0,
  ix_e 48 (.aload_n (0)) 1 0 0 0 0 0,
  ix_e 49 (.aload_n (0)) 1 0 0 0 0 0,
  ix_e 50 (.getfield (449)) 3 11 47 0 0 0,
  ix_e 53 (.iconst (1)) 1 0 0 0 0 1,
  ix_e 54 .iadd 1 0 0 0 0 0,
  ix_e 55 (.putfield (449)) 3 11 47 0 0 0,
  ix_e 58 (.aload_n (0)) 1 0 0 0 0 0,
  ix_e 59 (.getfield (449)) 3 11 47 0 0 0,
  ix_e 62 .ireturn 1 0 0 0 0 0]
/-- VotedBankModel.began (I)I -/
def ix_t181 : List ix_E := [ix_e 0 (.aload_n (0)) 1 0 0 0 0 0,
  ix_e 1 (.iconst (0)) 1 0 0 0 0 0,
  ix_e 2 (.putfield (98)) 3 11 0 0 0 0,
  ix_e 5 (.aload_n (0)) 1 0 0 0 0 0,
  ix_e 6 (.iload_n (1)) 1 1 0 0 0 0,
  ix_e 7 (.iconst (0)) 1 0 0 0 0 0,
  ix_e 8 (.iconst (1)) 1 0 0 0 0 1,
  ix_e 9 (.invokevirtual (115)) 3 189 4 1 11 0,
  ix_e 12 (.ifCond .ne (5)) 3 17 0 0 0 0,
  ix_e 15 (.iconst (-1)) 1 0 0 0 0 (-1),
  ix_e 16 .ireturn 1 0 0 0 0 0,
  ix_e 17 (.iconst (0)) 1 0 0 0 0 0,
  ix_e 18 (.istore_n (2)) 1 2 0 0 0 0,
  ix_e 19 (.iconst (-1)) 1 0 0 0 0 (-1),
  ix_e 20 (.istore_n (3)) 1 3 0 0 0 0,
  ix_e 21 (.iconst (0)) 1 0 0 0 0 0,
  ix_e 22 (.istore (4)) 2 4 0 0 0 0,
  ix_c 24 (.iload (4)) 2 [true, true, true, true, true, false] 4 0 0 0 0,
  ix_e 26 (.bipush (6)) 2 0 0 0 0 6,
  ix_e 28 (.if_icmp .ge (57)) 3 85 0 0 0 0,
  ix_e 31 (.iconst (0)) 1 0 0 0 0 0,
  ix_e 32 (.istore (5)) 2 5 0 0 0 0,
  ix_c 34 (.iload (5)) 2 [true, true, true, true, true, true] 5 0 0 0 0,
  ix_e 36 (.bipush (99)) 2 0 0 0 0 99,
  ix_e 38 (.if_icmp .ge (41)) 3 79 0 0 0 0,
  ix_e 41 (.aload_n (0)) 1 0 0 0 0 0,
  ix_e 42 (.iload (4)) 2 4 0 0 0 0,
  ix_e 44 (.iload (5)) 2 5 0 0 0 0,
  ix_e 46 (.invokevirtual (452)) 3 223 3 1 11 0,
  ix_e 49 (.ifCond .ne (6)) 3 55 0 0 0 0,
  ix_e 52 (.goto (21)) 3 73 0 0 0 0,
  ix_e 55 (.iload_n (2)) 1 2 0 0 0 0,
  ix_e 56 (.iconst (1)) 1 0 0 0 0 1,
  ix_e 57 .iadd 1 0 0 0 0 0,
  ix_e 58 (.istore_n (2)) 1 2 0 0 0 0,
  ix_e 59 (.iload_n (3)) 1 3 0 0 0 0,
  ix_e 60 (.iconst (-1)) 1 0 0 0 0 (-1),
  ix_e 61 (.if_icmp .ne (12)) 3 73 0 0 0 0,
  ix_e 64 (.bipush (100)) 2 0 0 0 0 100,
  ix_e 66 (.iload (4)) 2 4 0 0 0 0,
  ix_e 68 .imul 1 0 0 0 0 0,
  ix_e 69 (.iload (5)) 2 5 0 0 0 0,
  ix_e 71 .iadd 1 0 0 0 0 0,
  ix_e 72 (.istore_n (3)) 1 3 0 0 0 0,
  ix_e 73 (.iinc 5 (1)) 3 5 0 0 0 1,
  ix_e 76 (.goto (-42)) 3 34 0 0 0 0,
  ix_e 79 (.iinc 4 (1)) 3 4 0 0 0 1,
  ix_e 82 (.goto (-58)) 3 24 0 0 0 0,
  ix_e 85 (.iload_n (1)) 1 1 0 0 0 0,
  ix_e 86 (.ifCond .ne (7)) 3 93 0 0 0 0,
  ix_e 89 (.iload_n (2)) 1 2 0 0 0 0,
  ix_e 90 (.goto (4)) 3 94 0 0 0 0,
  ix_e 93 (.iload_n (3)) 1 3 0 0 0 0,
  ix_e 94 .ireturn 1 0 0 0 0 0]
/-- VotedBankModel.bribe (II)Z -/
def ix_t182 : List ix_E := [ix_e 0 (.aload_n (0)) 1 0 0 0 0 0,
  ix_e 1 (.iconst (0)) 1 0 0 0 0 0,
  ix_e 2 (.putfield (98)) 3 11 0 0 0 0,
  ix_e 5 (.aload_n (0)) 1 0 0 0 0 0,
  ix_e 6 (.iload_n (1)) 1 1 0 0 0 0,
  ix_e 7 (.iconst (0)) 1 0 0 0 0 0,
  ix_e 8 (.bipush (11)) 2 0 0 0 0 11,
  ix_e 10 (.invokevirtual (115)) 3 189 4 1 11 0,
  ix_e 13 (.ifCond .eq (14)) 3 27 0 0 0 0,
  ix_e 16 (.aload_n (0)) 1 0 0 0 0 0,
  ix_e 17 (.iload_n (2)) 1 2 0 0 0 0,
  ix_e 18 (.iconst (0)) 1 0 0 0 0 0,
  ix_e 19 (.bipush (99)) 2 0 0 0 0 99,
  ix_e 21 (.invokevirtual (115)) 3 189 4 1 11 0,
  ix_e 24 (.ifCond .ne (5)) 3 29 0 0 0 0,
  ix_e 27 (.iconst (0)) 1 0 0 0 0 0,
  ix_e 28 .ireturn 1 1 0 0 0 0,
  ix_e 29 (.aload_n (0)) 1 0 0 0 0 0,
  ix_e 30 (.getfield (92)) 3 11 49 2 0 0,
  ix_e 33 (.iload_n (1)) 1 1 0 0 0 0,
  ix_e 34 (.iload_n (2)) 1 2 0 0 0 0,
  ix_e 35 (.iconst (1)) 1 0 0 0 0 1,
  ix_e 36 .isub 1 0 0 0 0 0,
  ix_e 37 .iastore 1 0 0 0 0 0,
  ix_e 38 (.iconst (1)) 1 0 0 0 0 1,
  ix_e 39 .ireturn 1 1 0 0 0 0]
/-- VotedBankModel.costs (II)I -/
def ix_t183 : List ix_E := [ix_e 0 (.aload_n (0)) 1 0 0 0 0 0,
  ix_e 1 (.iconst (0)) 1 0 0 0 0 0,
  ix_e 2 (.putfield (98)) 3 11 0 0 0 0,
  ix_e 5 (.aload_n (0)) 1 0 0 0 0 0,
  ix_e 6 (.iload_n (1)) 1 1 0 0 0 0,
  ix_e 7 (.iconst (1)) 1 0 0 0 0 1,
  ix_e 8 (.iconst (5)) 1 0 0 0 0 5,
  ix_e 9 (.invokevirtual (115)) 3 189 4 1 11 0,
  ix_e 12 (.ifCond .eq (13)) 3 25 0 0 0 0,
  ix_e 15 (.aload_n (0)) 1 0 0 0 0 0,
  ix_e 16 (.iload_n (2)) 1 2 0 0 0 0,
  ix_e 17 (.iconst (0)) 1 0 0 0 0 0,
  ix_e 18 (.iconst (1)) 1 0 0 0 0 1,
  ix_e 19 (.invokevirtual (115)) 3 189 4 1 11 0,
  ix_e 22 (.ifCond .ne (5)) 3 27 0 0 0 0,
  ix_e 25 (.iconst (-1)) 1 0 0 0 0 (-1),
  ix_e 26 .ireturn 1 0 0 0 0 0,
  ix_e 27 (.aload_n (0)) 1 0 0 0 0 0,
  ix_e 28 (.invokevirtual (403)) 3 209 1 0 11 0,
  ix_e 31 (.aload_n (0)) 1 0 0 0 0 0,
  ix_e 32 (.invokevirtual (326)) 3 196 1 1 11 0,
  ix_e 35 (.istore_n (3)) 1 3 0 0 0 0,
  ix_e 36 (.iconst (-1)) 1 0 0 0 0 (-1),
  ix_e 37 (.istore (4)) 2 4 0 0 0 0,
  ix_e 39 (.iconst (0)) 1 0 0 0 0 0,
  ix_e 40 (.istore (5)) 2 5 0 0 0 0,
  ix_c 42 (.iload (5)) 2 [true, true, true, true, true, true] 5 0 0 0 0,
  ix_e 44 (.iload_n (3)) 1 3 0 0 0 0,
  ix_e 45 (.if_icmp .gt (55)) 3 100 0 0 0 0,
  ix_e 48 (.iload (5)) 2 5 0 0 0 0,
  ix_e 50 (.iload_n (3)) 1 3 0 0 0 0,
  ix_e 51 (.iconst (-1)) 1 0 0 0 0 (-1),
  ix_e 52 .ixor 1 0 0 0 0 0,
  ix_e 53 .iand 1 0 0 0 0 0,
  ix_e 54 (.ifCond .ne (40)) 3 94 0 0 0 0,
  ix_e 57 (.iload (4)) 2 4 0 0 0 0,
  ix_e 59 (.iconst (-1)) 1 0 0 0 0 (-1),
  ix_e 60 (.if_icmp .eq (18)) 3 78 0 0 0 0,
  ix_e 63 (.aload_n (0)) 1 0 0 0 0 0,
  ix_e 64 (.iload (5)) 2 5 0 0 0 0,
  ix_e 66 (.invokevirtual (455)) 3 224 2 1 11 0,
  ix_e 69 (.aload_n (0)) 1 0 0 0 0 0,
  ix_e 70 (.iload (4)) 2 4 0 0 0 0,
  ix_e 72 (.invokevirtual (455)) 3 224 2 1 11 0,
  ix_e 75 (.if_icmp .ge (19)) 3 94 0 0 0 0,
  ix_e 78 (.aload_n (0)) 1 0 0 0 0 0,
  ix_e 79 (.iload_n (3)) 1 3 0 0 0 0,
  ix_e 80 (.iload (5)) 2 5 0 0 0 0,
  ix_e 82 (.iload_n (1)) 1 1 0 0 0 0,
  ix_e 83 (.invokevirtual (406)) 3 211 4 1 11 0,
  ix_e 86 (.iload_n (1)) 1 1 0 0 0 0,
  ix_e 87 (.if_icmp .ne (7)) 3 94 0 0 0 0,
  ix_e 90 (.iload (5)) 2 5 0 0 0 0,
  ix_e 92 (.istore (4)) 2 4 0 0 0 0,
  ix_e 94 (.iinc 5 (1)) 3 5 0 0 0 1,
  ix_e 97 (.goto (-55)) 3 42 0 0 0 0,
  ix_e 100 (.iload (4)) 2 4 0 0 0 0,
  ix_e 102 (.iconst (-1)) 1 0 0 0 0 (-1),
  ix_e 103 (.if_icmp .eq (8)) 3 111 0 0 0 0,
  ix_e 106 (.iload_n (2)) 1 2 0 0 0 0,
  ix_e 107 (.iconst (1)) 1 0 0 0 0 1,
  ix_e 108 (.if_icmp .ne (8)) 3 116 0 0 0 0,
  ix_e 111 (.iload (4)) 2 4 0 0 0 0,
  ix_e 113 (.goto (9)) 3 122 0 0 0 0,
  ix_e 116 (.aload_n (0)) 1 0 0 0 0 0,
  ix_e 117 (.iload (4)) 2 4 0 0 0 0,
  ix_e 119 (.invokevirtual (455)) 3 224 2 1 11 0,
  ix_e 122 .ireturn 1 0 0 0 0 0]
/-- VotedBankModel.game (I)I -/
def ix_t184 : List ix_E := [ix_e 0 (.aload_n (0)) 1 0 0 0 0 0,
  ix_e 1 (.iconst (0)) 1 0 0 0 0 0,
  ix_e 2 (.putfield (98)) 3 11 0 0 0 0,
  ix_e 5 (.aload_n (0)) 1 0 0 0 0 0,
  ix_e 6 (.iload_n (1)) 1 1 0 0 0 0,
  ix_e 7 (.iconst (0)) 1 0 0 0 0 0,
  ix_e 8 (.iconst (1)) 1 0 0 0 0 1,
  ix_e 9 (.invokevirtual (115)) 3 189 4 1 11 0,
  ix_e 12 (.ifCond .ne (5)) 3 17 0 0 0 0,
  ix_e 15 (.iconst (-1)) 1 0 0 0 0 (-1),
  ix_e 16 .ireturn 1 0 0 0 0 0,
  ix_e 17 (.aload_n (0)) 1 0 0 0 0 0,
  ix_e 18 (.invokevirtual (403)) 3 209 1 0 11 0,
  ix_e 21 (.aload_n (0)) 1 0 0 0 0 0,
  ix_e 22 (.invokevirtual (326)) 3 196 1 1 11 0,
  ix_e 25 (.istore_n (2)) 1 2 0 0 0 0,
  ix_e 26 (.iconst (0)) 1 0 0 0 0 0,
  ix_e 27 (.istore_n (3)) 1 3 0 0 0 0,
  ix_e 28 (.iconst (0)) 1 0 0 0 0 0,
  ix_e 29 (.istore (4)) 2 4 0 0 0 0,
  ix_c 31 (.iload (4)) 2 [true, true, true, true, true, false] 4 0 0 0 0,
  ix_e 33 (.aload_n (0)) 1 0 0 0 0 0,
  ix_e 34 (.getfield (125)) 3 11 7 0 0 0,
  ix_e 37 (.if_icmp .ge (33)) 3 70 0 0 0 0,
  ix_e 40 (.aload_n (0)) 1 0 0 0 0 0,
  ix_e 41 (.iload_n (2)) 1 2 0 0 0 0,
  ix_e 42 (.iload (4)) 2 4 0 0 0 0,
  ix_e 44 (.invokevirtual (255)) 3 197 3 1 11 0,
  ix_e 47 (.ifCond .eq (17)) 3 64 0 0 0 0,
  ix_e 50 (.iload_n (3)) 1 3 0 0 0 0,
  ix_e 51 (.aload_n (0)) 1 0 0 0 0 0,
  ix_e 52 (.aload_n (0)) 1 0 0 0 0 0,
  ix_e 53 (.getfield (83)) 3 11 45 2 0 0,
  ix_e 56 (.iload (4)) 2 4 0 0 0 0,
  ix_e 58 .iaload 1 0 0 0 0 0,
  ix_e 59 (.invokevirtual (458)) 3 225 2 1 11 0,
  ix_e 62 .ixor 1 0 0 0 0 0,
  ix_e 63 (.istore_n (3)) 1 3 0 0 0 0,
  ix_e 64 (.iinc 4 (1)) 3 4 0 0 0 1,
  ix_e 67 (.goto (-36)) 3 31 0 0 0 0,
  ix_e 70 (.iconst (0)) 1 0 0 0 0 0,
  ix_e 71 (.istore (4)) 2 4 0 0 0 0,
  ix_c 73 (.iload (4)) 2 [true, true, true, true, true, false] 4 0 0 0 0,
  ix_e 75 (.aload_n (0)) 1 0 0 0 0 0,
  ix_e 76 (.getfield (125)) 3 11 7 0 0 0,
  ix_e 79 (.if_icmp .ge (98)) 3 177 0 0 0 0,
  ix_e 82 (.aload_n (0)) 1 0 0 0 0 0,
  ix_e 83 (.iload_n (2)) 1 2 0 0 0 0,
  ix_e 84 (.iload (4)) 2 4 0 0 0 0,
  ix_e 86 (.invokevirtual (255)) 3 197 3 1 11 0,
  ix_e 89 (.ifCond .eq (82)) 3 171 0 0 0 0,
  ix_e 92 (.aload_n (0)) 1 0 0 0 0 0,
  ix_e 93 (.getfield (83)) 3 11 45 2 0 0,
  ix_e 96 (.iload (4)) 2 4 0 0 0 0,
  ix_e 98 .iaload 1 0 0 0 0 0,
  ix_e 99 (.ifCond .ne (6)) 3 105 0 0 0 0,
  ix_e 102 (.goto (69)) 3 171 0 0 0 0,
  ix_e 105 (.iload_n (3)) 1 3 0 0 0 0,
  ix_e 106 (.aload_n (0)) 1 0 0 0 0 0,
  ix_e 107 (.aload_n (0)) 1 0 0 0 0 0,
  ix_e 108 (.getfield (83)) 3 11 45 2 0 0,
  ix_e 111 (.iload (4)) 2 4 0 0 0 0,
  ix_e 113 .iaload 1 0 0 0 0 0,
  ix_e 114 (.invokevirtual (458)) 3 225 2 1 11 0,
  ix_e 117 .ixor 1 0 0 0 0 0,
  ix_e 118 (.istore (5)) 2 5 0 0 0 0,
  ix_e 120 (.aload_n (0)) 1 0 0 0 0 0,
  ix_e 121 (.aload_n (0)) 1 0 0 0 0 0,
  ix_e 122 (.getfield (83)) 3 11 45 2 0 0,
  ix_e 125 (.iload (4)) 2 4 0 0 0 0,
  ix_e 127 .iaload 1 0 0 0 0 0,
  ix_e 128 (.iconst (1)) 1 0 0 0 0 1,
  ix_e 129 .isub 1 0 0 0 0 0,
  ix_e 130 (.invokevirtual (458)) 3 225 2 1 11 0,
  ix_e 133 (.iload (5)) 2 5 0 0 0 0,
  ix_e 135 (.if_icmp .ne (14)) 3 149 0 0 0 0,
  ix_e 138 (.iload_n (1)) 1 1 0 0 0 0,
  ix_e 139 (.ifCond .ne (8)) 3 147 0 0 0 0,
  ix_e 142 (.iload (4)) 2 4 0 0 0 0,
  ix_e 144 (.goto (4)) 3 148 0 0 0 0,
  ix_e 147 (.iconst (1)) 1 0 0 0 0 1,
  ix_e 148 .ireturn 1 0 0 0 0 0,
  ix_e 149 (.iload (5)) 2 5 0 0 0 0,
  ix_e 151 (.ifCond .ne (20)) 3 171 0 0 0 0,
  ix_e 154 (.iload_n (1)) 1 1 0 0 0 0,
  ix_e 155 (.ifCond .ne (8)) 3 163 0 0 0 0,
  ix_e 158 (.iload (4)) 2 4 0 0 0 0,
  ix_e 160 (.goto (10)) 3 170 0 0 0 0,
  ix_e 163 (.aload_n (0)) 1 0 0 0 0 0,
  ix_e 164 (.getfield (83)) 3 11 45 2 0 0,
  ix_e 167 (.iload (4)) 2 4 0 0 0 0,
  ix_e 169 .iaload 1 0 0 0 0 0,
  ix_e 170 .ireturn 1 0 0 0 0 0,
  ix_e 171 (.iinc 4 (1)) 3 4 0 0 0 1,
  ix_e 174 (.goto (-101)) 3 73 0 0 0 0,
  ix_e 177 (.iconst (-1)) 1 0 0 0 0 (-1),
  ix_e 178 .ireturn 1 0 0 0 0 0]
/-- VotedBankModel.undo ()Z -/
def ix_t185 : List ix_E := [ix_e 0 (.aload_n (0)) 1 0 0 0 0 0,
  ix_e 1 (.iconst (0)) 1 0 0 0 0 0,
  ix_e 2 (.putfield (98)) 3 11 0 0 0 0,
  ix_e 5 (.aload_n (0)) 1 0 0 0 0 0,
  ix_e 6 (.getfield (101)) 3 11 3 0 0 0,
  ix_e 9 (.ifCond .ne (5)) 3 14 0 0 0 0,
  ix_e 12 (.iconst (0)) 1 0 0 0 0 0,
  ix_e 13 .ireturn 1 1 0 0 0 0,
  ix_e 14 (.aload_n (0)) 1 0 0 0 0 0,
  ix_e 15 (.aload_n (0)) 1 0 0 0 0 0,
  ix_e 16 (.getfield (101)) 3 11 3 0 0 0,
  ix_e 19 (.iconst (1)) 1 0 0 0 0 1,
  ix_e 20 .isub 1 0 0 0 0 0,
  ix_e 21 (.putfield (101)) 3 11 3 0 0 0,
  ix_e 24 (.iconst (0)) 1 0 0 0 0 0,
  ix_e 25 (.istore_n (1)) 1 1 0 0 0 0,
  ix_c 26 (.iload_n (1)) 1 [true, true] 1 0 0 0 0,
  ix_e 27 (.bipush (54)) 2 0 0 0 0 54,
  ix_e 29 (.if_icmp .ge (29)) 3 58 0 0 0 0,
  ix_e 32 (.aload_n (0)) 1 0 0 0 0 0,
  ix_e 33 (.getfield (7)) 3 11 1 2 0 0,
  ix_e 36 (.iload_n (1)) 1 1 0 0 0 0,
  ix_e 37 (.aload_n (0)) 1 0 0 0 0 0,
  ix_e 38 (.getfield (13)) 3 11 2 2 0 0,
  ix_e 41 (.bipush (54)) 2 0 0 0 0 54,
  ix_e 43 (.aload_n (0)) 1 0 0 0 0 0,
  ix_e 44 (.getfield (101)) 3 11 3 0 0 0,
  ix_e 47 .imul 1 0 0 0 0 0,
  ix_e 48 (.iload_n (1)) 1 1 0 0 0 0,
  ix_e 49 .iadd 1 0 0 0 0 0,
  ix_e 50 .iaload 1 0 0 0 0 0,
  ix_e 51 .iastore 1 0 0 0 0 0,
  ix_e 52 (.iinc 1 (1)) 3 1 0 0 0 1,
  ix_e 55 (.goto (-29)) 3 26 0 0 0 0,
  ix_e 58 (.iconst (1)) 1 0 0 0 0 1,
  ix_e 59 .ireturn 1 1 0 0 0 0]
/-- VotedBankModel.image (Z)Z -/
def ix_t186 : List ix_E := [ix_e 0 (.aload_n (0)) 1 0 0 0 0 0,
  ix_e 1 (.iconst (0)) 1 0 0 0 0 0,
  ix_e 2 (.putfield (98)) 3 11 0 0 0 0,
  ix_e 5 (.iload_n (1)) 1 1 0 0 0 0,
  ix_e 6 (.ifCond .ne (12)) 3 18 0 0 0 0,
  ix_e 9 (.aload_n (0)) 1 0 0 0 0 0,
  ix_e 10 (.getfield (470)) 3 11 51 1 0 0,
  ix_e 13 (.ifCond .ne (5)) 3 18 0 0 0 0,
  ix_e 16 (.iconst (0)) 1 0 0 0 0 0,
  ix_e 17 .ireturn 1 1 0 0 0 0,
  ix_e 18 (.aload_n (0)) 1 0 0 0 0 0,
  ix_e 19 (.iload_n (1)) 1 1 0 0 0 0,
  ix_e 20 (.putfield (464)) 3 11 50 1 0 0,
  ix_e 23 (.aload_n (0)) 1 0 0 0 0 0,
  ix_e 24 (.iconst (1)) 1 0 0 0 0 1,
  ix_e 25 (.putfield (470)) 3 11 51 1 0 0,
  ix_e 28 (.aload_n (0)) 1 0 0 0 0 0,
  ix_e 29 (.iconst (0)) 1 0 0 0 0 0,
  ix_e 30 (.putfield (461)) 3 11 52 0 0 0,
  ix_e 33 (.iconst (0)) 1 0 0 0 0 0,
  ix_e 34 (.istore_n (2)) 1 2 0 0 0 0,
  ix_c 35 (.iload_n (2)) 1 [true, true, true] 2 0 0 0 0,
  ix_e 36 (.bipush (54)) 2 0 0 0 0 54,
  ix_e 38 (.if_icmp .ge (25)) 3 63 0 0 0 0,
  ix_e 41 (.aload_n (0)) 1 0 0 0 0 0,
  ix_e 42 (.getfield (7)) 3 11 1 2 0 0,
  ix_e 45 (.iload_n (2)) 1 2 0 0 0 0,
  ix_e 46 (.aload_n (0)) 1 0 0 0 0 0,
  ix_e 47 (.aload_n (0)) 1 0 0 0 0 0,
  ix_e 48 (.getfield (7)) 3 11 1 2 0 0,
  ix_e 51 (.iload_n (2)) 1 2 0 0 0 0,
  ix_e 52 .iaload 1 0 0 0 0 0,
  ix_e 53 (.invokevirtual (467)) 3 226 2 1 11 0,
  ix_e 56 .iastore 1 0 0 0 0 0,
  ix_e 57 (.iinc 2 (1)) 3 2 0 0 0 1,
  ix_e 60 (.goto (-25)) 3 35 0 0 0 0,
  ix_e 63 (.aload_n (0)) 1 0 0 0 0 0,
  ix_e 64 (.invokevirtual (473)) 3 227 1 0 11 0,
  ix_e 67 (.iconst (0)) 1 0 0 0 0 0,
  ix_e 68 (.istore_n (2)) 1 2 0 0 0 0,
  ix_c 69 (.iload_n (2)) 1 [true, true, true] 2 0 0 0 0,
  ix_e 70 (.sipush (600)) 3 0 0 0 0 600,
  ix_e 73 (.if_icmp .ge (25)) 3 98 0 0 0 0,
  ix_e 76 (.aload_n (0)) 1 0 0 0 0 0,
  ix_e 77 (.getfield (28)) 3 11 11 2 0 0,
  ix_e 80 (.iload_n (2)) 1 2 0 0 0 0,
  ix_e 81 (.aload_n (0)) 1 0 0 0 0 0,
  ix_e 82 (.aload_n (0)) 1 0 0 0 0 0,
  ix_e 83 (.getfield (28)) 3 11 11 2 0 0,
  ix_e 86 (.iload_n (2)) 1 2 0 0 0 0,
  ix_e 87 .iaload 1 0 0 0 0 0,
  ix_e 88 (.invokevirtual (467)) 3 226 2 1 11 0,
  ix_e 91 .iastore 1 0 0 0 0 0,
  ix_e 92 (.iinc 2 (1)) 3 2 0 0 0 1,
  ix_e 95 (.goto (-26)) 3 69 0 0 0 0,
  ix_e 98 (.aload_n (0)) 1 0 0 0 0 0,
  ix_e 99 (.invokevirtual (476)) 3 228 1 0 11 0,
  ix_e 102 (.iload_n (1)) 1 1 0 0 0 0,
  ix_e 103 (.ifCond .ne (8)) 3 111 0 0 0 0,
  ix_e 106 (.aload_n (0)) 1 0 0 0 0 0,
  ix_e 107 (.iconst (0)) 1 0 0 0 0 0,
  ix_e 108 (.putfield (101)) 3 11 3 0 0 0,
  ix_e 111 (.iconst (1)) 1 0 0 0 0 1,
  ix_e 112 .ireturn 1 1 0 0 0 0]
/-- VotedBankModel.look (I)I -/
def ix_t187 : List ix_E := [ix_e 0 (.aload_n (0)) 1 0 0 0 0 0,
  ix_e 1 (.iconst (0)) 1 0 0 0 0 0,
  ix_e 2 (.putfield (98)) 3 11 0 0 0 0,
  ix_e 5 (.iload_n (1)) 1 1 0 0 0 0,
  ix_e 6 (.ifCond .ne (8)) 3 14 0 0 0 0,
  ix_e 9 (.aload_n (0)) 1 0 0 0 0 0,
  ix_e 10 (.getfield (125)) 3 11 7 0 0 0,
  ix_e 13 .ireturn 1 0 0 0 0 0,
  ix_e 14 (.iload_n (1)) 1 1 0 0 0 0,
  ix_e 15 (.iconst (1)) 1 0 0 0 0 1,
  ix_e 16 (.if_icmp .ne (10)) 3 26 0 0 0 0,
  ix_e 19 (.aload_n (0)) 1 0 0 0 0 0,
  ix_e 20 (.getfield (7)) 3 11 1 2 0 0,
  ix_e 23 (.iconst (3)) 1 0 0 0 0 3,
  ix_e 24 .iaload 1 0 0 0 0 0,
  ix_e 25 .ireturn 1 0 0 0 0 0,
  ix_e 26 (.iload_n (1)) 1 1 0 0 0 0,
  ix_e 27 (.iconst (2)) 1 0 0 0 0 2,
  ix_e 28 (.if_icmp .ne (10)) 3 38 0 0 0 0,
  ix_e 31 (.aload_n (0)) 1 0 0 0 0 0,
  ix_e 32 (.getfield (7)) 3 11 1 2 0 0,
  ix_e 35 (.iconst (4)) 1 0 0 0 0 4,
  ix_e 36 .iaload 1 0 0 0 0 0,
  ix_e 37 .ireturn 1 0 0 0 0 0,
  ix_e 38 (.iload_n (1)) 1 1 0 0 0 0,
  ix_e 39 (.iconst (3)) 1 0 0 0 0 3,
  ix_e 40 (.if_icmp .ne (8)) 3 48 0 0 0 0,
  ix_e 43 (.aload_n (0)) 1 0 0 0 0 0,
  ix_e 44 (.getfield (142)) 3 11 6 0 0 0,
  ix_e 47 .ireturn 1 0 0 0 0 0,
  ix_e 48 (.iload_n (1)) 1 1 0 0 0 0,
  ix_e 49 (.iconst (4)) 1 0 0 0 0 4,
  ix_e 50 (.if_icmp .ne (10)) 3 60 0 0 0 0,
  ix_e 53 (.aload_n (0)) 1 0 0 0 0 0,
  ix_e 54 (.getfield (7)) 3 11 1 2 0 0,
  ix_e 57 (.iconst (0)) 1 0 0 0 0 0,
  ix_e 58 .iaload 1 0 0 0 0 0,
  ix_e 59 .ireturn 1 0 0 0 0 0,
  ix_e 60 (.iload_n (1)) 1 1 0 0 0 0,
  ix_e 61 (.iconst (5)) 1 0 0 0 0 5,
  ix_e 62 (.if_icmp .ne (10)) 3 72 0 0 0 0,
  ix_e 65 (.aload_n (0)) 1 0 0 0 0 0,
  ix_e 66 (.getfield (7)) 3 11 1 2 0 0,
  ix_e 69 (.iconst (5)) 1 0 0 0 0 5,
  ix_e 70 .iaload 1 0 0 0 0 0,
  ix_e 71 .ireturn 1 0 0 0 0 0,
  ix_e 72 (.iload_n (1)) 1 1 0 0 0 0,
  ix_e 73 (.bipush (6)) 2 0 0 0 0 6,
  ix_e 75 (.if_icmp .ne (8)) 3 83 0 0 0 0,
  ix_e 78 (.aload_n (0)) 1 0 0 0 0 0,
  ix_e 79 (.invokevirtual (128)) 3 229 1 1 11 0,
  ix_e 82 .ireturn 1 0 0 0 0 0,
  ix_e 83 (.iload_n (1)) 1 1 0 0 0 0,
  ix_e 84 (.bipush (7)) 2 0 0 0 0 7,
  ix_e 86 (.if_icmp .ne (10)) 3 96 0 0 0 0,
  ix_e 89 (.aload_n (0)) 1 0 0 0 0 0,
  ix_e 90 (.getfield (7)) 3 11 1 2 0 0,
  ix_e 93 (.iconst (2)) 1 0 0 0 0 2,
  ix_e 94 .iaload 1 0 0 0 0 0,
  ix_e 95 .ireturn 1 0 0 0 0 0,
  ix_e 96 (.iload_n (1)) 1 1 0 0 0 0,
  ix_e 97 (.bipush (8)) 2 0 0 0 0 8,
  ix_e 99 (.if_icmp .ne (10)) 3 109 0 0 0 0,
  ix_e 102 (.aload_n (0)) 1 0 0 0 0 0,
  ix_e 103 (.getfield (7)) 3 11 1 2 0 0,
  ix_e 106 (.iconst (1)) 1 0 0 0 0 1,
  ix_e 107 .iaload 1 0 0 0 0 0,
  ix_e 108 .ireturn 1 0 0 0 0 0,
  ix_e 109 (.iload_n (1)) 1 1 0 0 0 0,
  ix_e 110 (.bipush (9)) 2 0 0 0 0 9,
  ix_e 112 (.if_icmp .ne (10)) 3 122 0 0 0 0,
  ix_e 115 (.aload_n (0)) 1 0 0 0 0 0,
  ix_e 116 (.getfield (37)) 3 11 19 2 0 0,
  ix_e 119 (.iconst (0)) 1 0 0 0 0 0,
  ix_e 120 .iaload 1 0 0 0 0 0,
  ix_e 121 .ireturn 1 0 0 0 0 0,
  ix_e 122 (.iload_n (1)) 1 1 0 0 0 0,
  ix_e 123 (.bipush (10)) 2 0 0 0 0 10,
  ix_e 125 (.if_icmp .ne (8)) 3 133 0 0 0 0,
  ix_e 128 (.aload_n (0)) 1 0 0 0 0 0,
  ix_e 129 (.getfield (283)) 3 11 35 0 0 0,
  ix_e 132 .ireturn 1 0 0 0 0 0,
  ix_e 133 (.iload_n (1)) 1 1 0 0 0 0,
  ix_e 134 (.bipush (11)) 2 0 0 0 0 11,
  ix_e 136 (.if_icmp .ne (8)) 3 144 0 0 0 0,
  ix_e 139 (.aload_n (0)) 1 0 0 0 0 0,
  ix_e 140 (.getfield (286)) 3 11 37 0 0 0,
  ix_e 143 .ireturn 1 0 0 0 0 0,
  ix_e 144 (.iload_n (1)) 1 1 0 0 0 0,
  ix_e 145 (.bipush (12)) 2 0 0 0 0 12,
  ix_e 147 (.if_icmp .ne (8)) 3 155 0 0 0 0,
  ix_e 150 (.aload_n (0)) 1 0 0 0 0 0,
  ix_e 151 (.getfield (280)) 3 11 39 0 0 0,
  ix_e 154 .ireturn 1 0 0 0 0 0,
  ix_e 155 (.iload_n (1)) 1 1 0 0 0 0,
  ix_e 156 (.bipush (13)) 2 0 0 0 0 13,
  ix_e 158 (.if_icmp .ne (8)) 3 166 0 0 0 0,
  ix_e 161 (.aload_n (0)) 1 0 0 0 0 0,
  ix_e 162 (.getfield (449)) 3 11 47 0 0 0,
  ix_e 165 .ireturn 1 0 0 0 0 0,
  ix_e 166 (.iload_n (1)) 1 1 0 0 0 0,
  ix_e 167 (.bipush (14)) 2 0 0 0 0 14,
  ix_e 169 (.if_icmp .ne (10)) 3 179 0 0 0 0,
  ix_e 172 (.aload_n (0)) 1 0 0 0 0 0,
  ix_e 173 (.getfield (101)) 3 11 3 0 0 0,
  ix_e 176 (.goto (4)) 3 180 0 0 0 0,
  ix_e 179 (.iconst (-1)) 1 0 0 0 0 (-1),
  ix_e 180 .ireturn 1 0 0 0 0 0]
/-- VotedBankModel.isRank (I)Z -/
def ix_t188 : List ix_E := [ix_e 0 (.iconst (0)) 1 0 0 0 0 0,
  ix_e 1 (.istore_n (2)) 1 2 0 0 0 0,
  ix_e 2 (.iconst (0)) 1 0 0 0 0 0,
  ix_e 3 (.istore_n (3)) 1 3 0 0 0 0,
  ix_c 4 (.iload_n (3)) 1 [true, true, true, true] 3 0 0 0 0,
  ix_e 5 (.iconst (5)) 1 0 0 0 0 5,
  ix_e 6 (.if_icmp .ge (20)) 3 26 0 0 0 0,
  ix_e 9 (.iload_n (2)) 1 2 0 0 0 0,
  ix_e 10 (.iconst (1)) 1 0 0 0 0 1,
  ix_e 11 (.aload_n (0)) 1 0 0 0 0 0,
  ix_e 12 (.iload_n (1)) 1 1 0 0 0 0,
  ix_e 13 (.iload_n (3)) 1 3 0 0 0 0,
  ix_e 14 (.invokevirtual (110)) 3 230 3 1 11 0,
  ix_e 17 .ishl 1 0 0 0 0 0,
  ix_e 18 .ior 1 0 0 0 0 0,
  ix_e 19 (.istore_n (2)) 1 2 0 0 0 0,
  ix_e 20 (.iinc 3 (1)) 3 3 0 0 0 1,
  ix_e 23 (.goto (-19)) 3 4 0 0 0 0,
  ix_e 26 (.aload_n (0)) 1 0 0 0 0 0,
  ix_e 27 (.iload_n (1)) 1 1 0 0 0 0,
  ix_e 28 (.sipush (12345)) 3 0 0 0 0 12345,
  ix_e 31 (.ldc (114)) 2 0 0 0 0 54321,
  ix_e 33 (.invokevirtual (115)) 3 189 4 1 11 0,
  ix_e 36 (.ifCond .eq (13)) 3 49 0 0 0 0,
  ix_e 39 (.iload_n (2)) 1 2 0 0 0 0,
  ix_e 40 (.bipush (62)) 2 0 0 0 0 62,
  ix_e 42 (.if_icmp .ne (7)) 3 49 0 0 0 0,
  ix_e 45 (.iconst (1)) 1 0 0 0 0 1,
  ix_e 46 (.goto (4)) 3 50 0 0 0 0,
  ix_e 49 (.iconst (0)) 1 0 0 0 0 0,
  ix_e 50 .ireturn 1 1 0 0 0 0]
/-- VotedBankModel.isIn (III)Z -/
def ix_t189 : List ix_E := [ix_e 0 (.iload_n (1)) 1 1 0 0 0 0,
  ix_e 1 (.iload_n (2)) 1 2 0 0 0 0,
  ix_e 2 (.if_icmp .lt (12)) 3 14 0 0 0 0,
  ix_e 5 (.iload_n (1)) 1 1 0 0 0 0,
  ix_e 6 (.iload_n (3)) 1 3 0 0 0 0,
  ix_e 7 (.if_icmp .gt (7)) 3 14 0 0 0 0,
  ix_e 10 (.iconst (1)) 1 0 0 0 0 1,
  ix_e 11 (.goto (4)) 3 15 0 0 0 0,
  ix_e 14 (.iconst (0)) 1 0 0 0 0 0,
  ix_e 15 .ireturn 1 1 0 0 0 0]
/-- VotedBankModel.canSet (III)Z -/
def ix_t190 : List ix_E := [ix_e 0 (.iload_n (1)) 1 1 0 0 0 0,
  ix_e 1 (.ifCond .ne (12)) 3 13 0 0 0 0,
  ix_e 4 (.aload_n (0)) 1 0 0 0 0 0,
  ix_e 5 (.iload_n (3)) 1 3 0 0 0 0,
  ix_e 6 (.iconst (0)) 1 0 0 0 0 0,
  ix_e 7 (.bipush (9)) 2 0 0 0 0 9,
  ix_e 9 (.invokevirtual (115)) 3 189 4 1 11 0,
  ix_e 12 .ireturn 1 1 0 0 0 0,
  ix_e 13 (.iload_n (1)) 1 1 0 0 0 0,
  ix_e 14 (.iconst (1)) 1 0 0 0 0 1,
  ix_e 15 (.if_icmp .ne (11)) 3 26 0 0 0 0,
  ix_e 18 (.aload_n (0)) 1 0 0 0 0 0,
  ix_e 19 (.iload_n (3)) 1 3 0 0 0 0,
  ix_e 20 (.iconst (0)) 1 0 0 0 0 0,
  ix_e 21 (.iconst (5)) 1 0 0 0 0 5,
  ix_e 22 (.invokevirtual (115)) 3 189 4 1 11 0,
  ix_e 25 .ireturn 1 1 0 0 0 0,
  ix_e 26 (.iload_n (1)) 1 1 0 0 0 0,
  ix_e 27 (.iconst (2)) 1 0 0 0 0 2,
  ix_e 28 (.if_icmp .ne (13)) 3 41 0 0 0 0,
  ix_e 31 (.aload_n (0)) 1 0 0 0 0 0,
  ix_e 32 (.iload_n (3)) 1 3 0 0 0 0,
  ix_e 33 (.iconst (0)) 1 0 0 0 0 0,
  ix_e 34 (.sipush (999)) 3 0 0 0 0 999,
  ix_e 37 (.invokevirtual (115)) 3 189 4 1 11 0,
  ix_e 40 .ireturn 1 1 0 0 0 0,
  ix_e 41 (.iload_n (1)) 1 1 0 0 0 0,
  ix_e 42 (.iconst (3)) 1 0 0 0 0 3,
  ix_e 43 (.if_icmp .ne (25)) 3 68 0 0 0 0,
  ix_e 46 (.aload_n (0)) 1 0 0 0 0 0,
  ix_e 47 (.iload_n (2)) 1 2 0 0 0 0,
  ix_e 48 (.invokevirtual (136)) 3 194 2 1 11 0,
  ix_e 51 (.ifCond .eq (15)) 3 66 0 0 0 0,
  ix_e 54 (.aload_n (0)) 1 0 0 0 0 0,
  ix_e 55 (.iload_n (3)) 1 3 0 0 0 0,
  ix_e 56 (.invokevirtual (132)) 3 188 2 1 11 0,
  ix_e 59 (.ifCond .eq (7)) 3 66 0 0 0 0,
  ix_e 62 (.iconst (1)) 1 0 0 0 0 1,
  ix_e 63 (.goto (4)) 3 67 0 0 0 0,
  ix_e 66 (.iconst (0)) 1 0 0 0 0 0,
  ix_e 67 .ireturn 1 1 0 0 0 0,
  ix_e 68 (.aload_n (0)) 1 0 0 0 0 0,
  ix_e 69 (.iload_n (1)) 1 1 0 0 0 0,
  ix_e 70 (.iconst (4)) 1 0 0 0 0 4,
  ix_e 71 (.iconst (5)) 1 0 0 0 0 5,
  ix_e 72 (.invokevirtual (115)) 3 189 4 1 11 0,
  ix_e 75 (.ifCond .eq (26)) 3 101 0 0 0 0,
  ix_e 78 (.aload_n (0)) 1 0 0 0 0 0,
  ix_e 79 (.iload_n (2)) 1 2 0 0 0 0,
  ix_e 80 (.invokevirtual (136)) 3 194 2 1 11 0,
  ix_e 83 (.ifCond .eq (18)) 3 101 0 0 0 0,
  ix_e 86 (.aload_n (0)) 1 0 0 0 0 0,
  ix_e 87 (.iload_n (3)) 1 3 0 0 0 0,
  ix_e 88 (.iconst (0)) 1 0 0 0 0 0,
  ix_e 89 (.bipush (9)) 2 0 0 0 0 9,
  ix_e 91 (.invokevirtual (115)) 3 189 4 1 11 0,
  ix_e 94 (.ifCond .eq (7)) 3 101 0 0 0 0,
  ix_e 97 (.iconst (1)) 1 0 0 0 0 1,
  ix_e 98 (.goto (4)) 3 102 0 0 0 0,
  ix_e 101 (.iconst (0)) 1 0 0 0 0 0,
  ix_e 102 .ireturn 1 1 0 0 0 0]
/-- VotedBankModel.canCross (I)Z -/
def ix_t191 : List ix_E := [ix_e 0 (.iload_n (1)) 1 1 0 0 0 0,
  ix_e 1 (.ifCond .le (18)) 3 19 0 0 0 0,
  ix_e 4 (.iload_n (1)) 1 1 0 0 0 0,
  ix_e 5 (.aload_n (0)) 1 0 0 0 0 0,
  ix_e 6 (.invokevirtual (326)) 3 196 1 1 11 0,
  ix_e 9 (.iconst (-1)) 1 0 0 0 0 (-1),
  ix_e 10 .ixor 1 0 0 0 0 0,
  ix_e 11 .iand 1 0 0 0 0 0,
  ix_e 12 (.ifCond .ne (7)) 3 19 0 0 0 0,
  ix_e 15 (.iconst (1)) 1 0 0 0 0 1,
  ix_e 16 (.goto (4)) 3 20 0 0 0 0,
  ix_e 19 (.iconst (0)) 1 0 0 0 0 0,
  ix_e 20 .ireturn 1 1 0 0 0 0]
/-- VotedBankModel.keepsAhead ()V -/
def ix_t192 : List ix_E := [ix_e 0 (.aload_n (0)) 1 0 0 0 0 0,
  ix_e 1 (.getfield (101)) 3 11 3 0 0 0,
  ix_e 4 (.bipush (6)) 2 0 0 0 0 6,
  ix_e 6 (.if_icmp .ne (47)) 3 53 0 0 0 0,
  ix_e 9 (.aload_n (0)) 1 0 0 0 0 0,
  ix_e 10 (.aload_n (0)) 1 0 0 0 0 0,
  ix_e 11 (.getfield (101)) 3 11 3 0 0 0,
  ix_e 14 (.iconst (1)) 1 0 0 0 0 1,
  ix_e 15 .isub 1 0 0 0 0 0,
  ix_e 16 (.putfield (101)) 3 11 3 0 0 0,
  ix_e 19 (.iconst (0)) 1 0 0 0 0 0,
  ix_e 20 (.istore_n (1)) 1 1 0 0 0 0,
  ix_c 21 (.iload_n (1)) 1 [true, true] 1 0 0 0 0,
  ix_e 22 (.bipush (54)) 2 0 0 0 0 54,
  ix_e 24 (.aload_n (0)) 1 0 0 0 0 0,
  ix_e 25 (.getfield (101)) 3 11 3 0 0 0,
  ix_e 28 .imul 1 0 0 0 0 0,
  ix_e 29 (.if_icmp .ge (24)) 3 53 0 0 0 0,
  ix_e 32 (.aload_n (0)) 1 0 0 0 0 0,
  ix_e 33 (.getfield (13)) 3 11 2 2 0 0,
  ix_e 36 (.iload_n (1)) 1 1 0 0 0 0,
  ix_e 37 (.aload_n (0)) 1 0 0 0 0 0,
  ix_e 38 (.getfield (13)) 3 11 2 2 0 0,
  ix_e 41 (.iload_n (1)) 1 1 0 0 0 0,
  ix_e 42 (.bipush (54)) 2 0 0 0 0 54,
  ix_e 44 .iadd 1 0 0 0 0 0,
  ix_e 45 .iaload 1 0 0 0 0 0,
  ix_e 46 .iastore 1 0 0 0 0 0,
  ix_e 47 (.iinc 1 (1)) 3 1 0 0 0 1,
  ix_e 50 (.goto (-29)) 3 21 0 0 0 0,
  ix_e 53 (.iconst (0)) 1 0 0 0 0 0,
  ix_e 54 (.istore_n (1)) 1 1 0 0 0 0,
  ix_c 55 (.iload_n (1)) 1 [true, true] 1 0 0 0 0,
  ix_e 56 (.bipush (54)) 2 0 0 0 0 54,
  ix_e 58 (.if_icmp .ge (29)) 3 87 0 0 0 0,
  ix_e 61 (.aload_n (0)) 1 0 0 0 0 0,
  ix_e 62 (.getfield (13)) 3 11 2 2 0 0,
  ix_e 65 (.bipush (54)) 2 0 0 0 0 54,
  ix_e 67 (.aload_n (0)) 1 0 0 0 0 0,
  ix_e 68 (.getfield (101)) 3 11 3 0 0 0,
  ix_e 71 .imul 1 0 0 0 0 0,
  ix_e 72 (.iload_n (1)) 1 1 0 0 0 0,
  ix_e 73 .iadd 1 0 0 0 0 0,
  ix_e 74 (.aload_n (0)) 1 0 0 0 0 0,
  ix_e 75 (.getfield (7)) 3 11 1 2 0 0,
  ix_e 78 (.iload_n (1)) 1 1 0 0 0 0,
  ix_e 79 .iaload 1 0 0 0 0 0,
  ix_e 80 .iastore 1 0 0 0 0 0,
  ix_e 81 (.iinc 1 (1)) 3 1 0 0 0 1,
  ix_e 84 (.goto (-29)) 3 55 0 0 0 0,
  ix_e 87 (.aload_n (0)) 1 0 0 0 0 0,
  ix_e 88 (.aload_n (0)) 1 0 0 0 0 0,
  ix_e 89 (.getfield (101)) 3 11 3 0 0 0,
  ix_e 92 (.iconst (1)) 1 0 0 0 0 1,
  ix_e 93 .iadd 1 0 0 0 0 0,
  ix_e 94 (.putfield (101)) 3 11 3 0 0 0,
  ix_e 97 .return_ 1 0 0 0 0 0]
/-- VotedBankModel.crosses (I)I -/
def ix_t193 : List ix_E := [ix_e 0 (.aload_n (0)) 1 0 0 0 0 0,
  ix_e 1 (.iload_n (1)) 1 1 0 0 0 0,
  ix_e 2 (.invokevirtual (373)) 3 207 2 1 11 0,
  ix_e 5 (.istore_n (2)) 1 2 0 0 0 0,
  ix_e 6 (.aload_n (0)) 1 0 0 0 0 0,
  ix_e 7 (.getfield (7)) 3 11 1 2 0 0,
  ix_e 10 (.iconst (4)) 1 0 0 0 0 4,
  ix_e 11 (.iload_n (2)) 1 2 0 0 0 0,
  ix_e 12 (.aload_n (0)) 1 0 0 0 0 0,
  ix_e 13 (.getfield (7)) 3 11 1 2 0 0,
  ix_e 16 (.iconst (3)) 1 0 0 0 0 3,
  ix_e 17 .iaload 1 0 0 0 0 0,
  ix_e 18 (.if_icmp .ne (21)) 3 39 0 0 0 0,
  ix_e 21 (.aload_n (0)) 1 0 0 0 0 0,
  ix_e 22 (.sipush (999)) 3 0 0 0 0 999,
  ix_e 25 (.aload_n (0)) 1 0 0 0 0 0,
  ix_e 26 (.getfield (7)) 3 11 1 2 0 0,
  ix_e 29 (.iconst (4)) 1 0 0 0 0 4,
  ix_e 30 .iaload 1 0 0 0 0 0,
  ix_e 31 (.iconst (1)) 1 0 0 0 0 1,
  ix_e 32 .iadd 1 0 0 0 0 0,
  ix_e 33 (.invokevirtual (376)) 3 221 3 1 11 0,
  ix_e 36 (.goto (4)) 3 40 0 0 0 0,
  ix_e 39 (.iconst (0)) 1 0 0 0 0 0,
  ix_e 40 .iastore 1 0 0 0 0 0,
  ix_e 41 (.aload_n (0)) 1 0 0 0 0 0,
  ix_e 42 (.getfield (7)) 3 11 1 2 0 0,
  ix_e 45 (.iconst (3)) 1 0 0 0 0 3,
  ix_e 46 (.iload_n (2)) 1 2 0 0 0 0,
  ix_e 47 .iastore 1 0 0 0 0 0,
  ix_e 48 (.aload_n (0)) 1 0 0 0 0 0,
  ix_e 49 (.iconst (2)) 1 0 0 0 0 2,
  ix_e 50 (.iconst (-1)) 1 0 0 0 0 (-1),
  ix_e 51 (.iload_n (2)) 1 2 0 0 0 0,
  ix_e 52 (.invokevirtual (348)) 3 231 4 0 11 0,
  ix_e 55 (.aload_n (0)) 1 0 0 0 0 0,
  ix_e 56 (.iload_n (2)) 1 2 0 0 0 0,
  ix_e 57 (.aload_n (0)) 1 0 0 0 0 0,
  ix_e 58 (.getfield (7)) 3 11 1 2 0 0,
  ix_e 61 (.iconst (4)) 1 0 0 0 0 4,
  ix_e 62 .iaload 1 0 0 0 0 0,
  ix_e 63 (.invokevirtual (379)) 3 232 3 1 11 0,
  ix_e 66 (.ifCond .eq (40)) 3 106 0 0 0 0,
  ix_e 69 (.aload_n (0)) 1 0 0 0 0 0,
  ix_e 70 (.getfield (7)) 3 11 1 2 0 0,
  ix_e 73 (.iconst (3)) 1 0 0 0 0 3,
  ix_e 74 (.aload_n (0)) 1 0 0 0 0 0,
  ix_e 75 (.getfield (71)) 3 11 40 2 0 0,
  ix_e 78 (.aload_n (0)) 1 0 0 0 0 0,
  ix_e 79 (.iload_n (2)) 1 2 0 0 0 0,
  ix_e 80 (.invokevirtual (370)) 3 205 2 1 11 0,
  ix_e 83 (.iconst (2)) 1 0 0 0 0 2,
  ix_e 84 .iadd 1 0 0 0 0 0,
  ix_e 85 .iaload 1 0 0 0 0 0,
  ix_e 86 .iastore 1 0 0 0 0 0,
  ix_e 87 (.aload_n (0)) 1 0 0 0 0 0,
  ix_e 88 (.getfield (7)) 3 11 1 2 0 0,
  ix_e 91 (.iconst (4)) 1 0 0 0 0 4,
  ix_e 92 (.iconst (0)) 1 0 0 0 0 0,
  ix_e 93 .iastore 1 0 0 0 0 0,
  ix_e 94 (.aload_n (0)) 1 0 0 0 0 0,
  ix_e 95 (.iconst (3)) 1 0 0 0 0 3,
  ix_e 96 (.iconst (-1)) 1 0 0 0 0 (-1),
  ix_e 97 (.aload_n (0)) 1 0 0 0 0 0,
  ix_e 98 (.getfield (7)) 3 11 1 2 0 0,
  ix_e 101 (.iconst (3)) 1 0 0 0 0 3,
  ix_e 102 .iaload 1 0 0 0 0 0,
  ix_e 103 (.invokevirtual (348)) 3 231 4 0 11 0,
  ix_e 106 (.aload_n (0)) 1 0 0 0 0 0,
  ix_e 107 (.getfield (7)) 3 11 1 2 0 0,
  ix_e 110 (.iconst (5)) 1 0 0 0 0 5,
  ix_e 111 (.aload_n (0)) 1 0 0 0 0 0,
  ix_e 112 (.getfield (7)) 3 11 1 2 0 0,
  ix_e 115 (.iconst (5)) 1 0 0 0 0 5,
  ix_e 116 .iaload 1 0 0 0 0 0,
  ix_e 117 (.iconst (1)) 1 0 0 0 0 1,
  ix_e 118 .iadd 1 0 0 0 0 0,
  ix_e 119 .iastore 1 0 0 0 0 0,
  ix_e 120 (.aload_n (0)) 1 0 0 0 0 0,
  ix_e 121 (.getfield (7)) 3 11 1 2 0 0,
  ix_e 124 (.iconst (0)) 1 0 0 0 0 0,
  ix_e 125 (.aload_n (0)) 1 0 0 0 0 0,
  ix_e 126 (.getfield (7)) 3 11 1 2 0 0,
  ix_e 129 (.iconst (0)) 1 0 0 0 0 0,
  ix_e 130 .iaload 1 0 0 0 0 0,
  ix_e 131 (.iconst (3)) 1 0 0 0 0 3,
  ix_e 132 .iadd 1 0 0 0 0 0,
  ix_e 133 (.aload_n (0)) 1 0 0 0 0 0,
  ix_e 134 (.getfield (142)) 3 11 6 0 0 0,
  ix_e 137 .iadd 1 0 0 0 0 0,
  ix_e 138 .iastore 1 0 0 0 0 0,
  ix_e 139 (.aload_n (0)) 1 0 0 0 0 0,
  ix_e 140 (.getfield (7)) 3 11 1 2 0 0,
  ix_e 143 (.iconst (3)) 1 0 0 0 0 3,
  ix_e 144 .iaload 1 0 0 0 0 0,
  ix_e 145 .ireturn 1 0 0 0 0 0]
/-- VotedBankModel.isOne (I)Z -/
def ix_t194 : List ix_E := [ix_e 0 (.iload_n (1)) 1 1 0 0 0 0,
  ix_e 1 (.ifCond .lt (15)) 3 16 0 0 0 0,
  ix_e 4 (.iload_n (1)) 1 1 0 0 0 0,
  ix_e 5 (.aload_n (0)) 1 0 0 0 0 0,
  ix_e 6 (.getfield (125)) 3 11 7 0 0 0,
  ix_e 9 (.if_icmp .ge (7)) 3 16 0 0 0 0,
  ix_e 12 (.iconst (1)) 1 0 0 0 0 1,
  ix_e 13 (.goto (4)) 3 17 0 0 0 0,
  ix_e 16 (.iconst (0)) 1 0 0 0 0 0,
  ix_e 17 .ireturn 1 1 0 0 0 0]
/-- VotedBankModel.stays (I)V -/
def ix_t195 : List ix_E := [ix_e 0 (.aload_n (0)) 1 0 0 0 0 0,
  ix_e 1 (.getfield (7)) 3 11 1 2 0 0,
  ix_e 4 (.bipush (18)) 2 0 0 0 0 18,
  ix_e 6 (.iload_n (1)) 1 1 0 0 0 0,
  ix_e 7 .iadd 1 0 0 0 0 0,
  ix_e 8 .iaload 1 0 0 0 0 0,
  ix_e 9 (.iconst (1)) 1 0 0 0 0 1,
  ix_e 10 (.if_icmp .ne (4)) 3 14 0 0 0 0,
  ix_e 13 .return_ 1 0 0 0 0 0,
  ix_e 14 (.aload_n (0)) 1 0 0 0 0 0,
  ix_e 15 (.getfield (7)) 3 11 1 2 0 0,
  ix_e 18 (.bipush (18)) 2 0 0 0 0 18,
  ix_e 20 (.iload_n (1)) 1 1 0 0 0 0,
  ix_e 21 .iadd 1 0 0 0 0 0,
  ix_e 22 (.iconst (1)) 1 0 0 0 0 1,
  ix_e 23 .iastore 1 0 0 0 0 0,
  ix_e 24 (.aload_n (0)) 1 0 0 0 0 0,
  ix_e 25 (.iconst (4)) 1 0 0 0 0 4,
  ix_e 26 (.iload_n (1)) 1 1 0 0 0 0,
  ix_e 27 (.iconst (0)) 1 0 0 0 0 0,
  ix_e 28 (.invokevirtual (348)) 3 231 4 0 11 0,
  ix_e 31 .return_ 1 0 0 0 0 0]
/-- VotedBankModel.hereSet ()I -/
def ix_t196 : List ix_E := [ix_e 0 (.iconst (1)) 1 0 0 0 0 1,
  ix_e 1 (.aload_n (0)) 1 0 0 0 0 0,
  ix_e 2 (.getfield (125)) 3 11 7 0 0 0,
  ix_e 5 .ishl 1 0 0 0 0 0,
  ix_e 6 (.iconst (1)) 1 0 0 0 0 1,
  ix_e 7 .isub 1 0 0 0 0 0,
  ix_e 8 (.aload_n (0)) 1 0 0 0 0 0,
  ix_e 9 (.invokevirtual (128)) 3 229 1 1 11 0,
  ix_e 12 (.iconst (-1)) 1 0 0 0 0 (-1),
  ix_e 13 .ixor 1 0 0 0 0 0,
  ix_e 14 .iand 1 0 0 0 0 0,
  ix_e 15 .ireturn 1 0 0 0 0 0]
/-- VotedBankModel.has (II)Z -/
def ix_t197 : List ix_E := [ix_e 0 (.iload_n (1)) 1 1 0 0 0 0,
  ix_e 1 (.iload_n (2)) 1 2 0 0 0 0,
  ix_e 2 .ishr 1 0 0 0 0 0,
  ix_e 3 (.iconst (1)) 1 0 0 0 0 1,
  ix_e 4 .iand 1 0 0 0 0 0,
  ix_e 5 (.iconst (1)) 1 0 0 0 0 1,
  ix_e 6 (.if_icmp .ne (7)) 3 13 0 0 0 0,
  ix_e 9 (.iconst (1)) 1 0 0 0 0 1,
  ix_e 10 (.goto (4)) 3 14 0 0 0 0,
  ix_e 13 (.iconst (0)) 1 0 0 0 0 0,
  ix_e 14 .ireturn 1 1 0 0 0 0]
/-- VotedBankModel.types (I)V -/
def ix_t198 : List ix_E := [ix_e 0 (.bipush (24)) 2 0 0 0 0 24,
  ix_e 2 (.istore_n (2)) 1 2 0 0 0 0,
  ix_c 3 (.iload_n (2)) 1 [true, true, true] 2 0 0 0 0,
  ix_e 4 (.ifCond .lt (35)) 3 39 0 0 0 0,
  ix_e 7 (.aload_n (0)) 1 0 0 0 0 0,
  ix_e 8 (.getfield (31)) 3 11 12 2 0 0,
  ix_e 11 (.aload_n (0)) 1 0 0 0 0 0,
  ix_e 12 (.getfield (145)) 3 11 13 0 0 0,
  ix_e 15 (.iload_n (1)) 1 1 0 0 0 0,
  ix_e 16 (.iload_n (2)) 1 2 0 0 0 0,
  ix_e 17 .ishr 1 0 0 0 0 0,
  ix_e 18 (.sipush (255)) 3 0 0 0 0 255,
  ix_e 21 .iand 1 0 0 0 0 0,
  ix_e 22 .iastore 1 0 0 0 0 0,
  ix_e 23 (.aload_n (0)) 1 0 0 0 0 0,
  ix_e 24 (.aload_n (0)) 1 0 0 0 0 0,
  ix_e 25 (.getfield (145)) 3 11 13 0 0 0,
  ix_e 28 (.iconst (1)) 1 0 0 0 0 1,
  ix_e 29 .iadd 1 0 0 0 0 0,
  ix_e 30 (.putfield (145)) 3 11 13 0 0 0,
  ix_e 33 (.iinc 2 (-8)) 3 2 0 1 0 8,
  ix_e 36 (.goto (-33)) 3 3 0 0 0 0,
  ix_e 39 .return_ 1 0 0 0 0 0]
/-- VotedBankModel.readsText (I)I -/
def ix_t199 : List ix_E := [ix_e 0 (.aload_n (0)) 1 0 0 0 0 0,
  ix_e 1 (.iconst (0)) 1 0 0 0 0 0,
  ix_e 2 (.putfield (239)) 3 11 26 0 0 0,
  ix_e 5 (.aload_n (0)) 1 0 0 0 0 0,
  ix_e 6 (.invokevirtual (199)) 3 233 1 0 11 0,
  ix_e 9 (.iload_n (1)) 1 1 0 0 0 0,
  ix_e 10 (.iconst (1)) 1 0 0 0 0 1,
  ix_e 11 (.if_icmp .ne (8)) 3 19 0 0 0 0,
  ix_e 14 (.aload_n (0)) 1 0 0 0 0 0,
  ix_e 15 (.invokevirtual (268)) 3 234 1 1 11 0,
  ix_e 18 .ireturn 1 0 0 0 0 0,
  ix_e 19 (.iload_n (1)) 1 1 0 0 0 0,
  ix_e 20 (.iconst (2)) 1 0 0 0 0 2,
  ix_e 21 (.if_icmp .ne (8)) 3 29 0 0 0 0,
  ix_e 24 (.aload_n (0)) 1 0 0 0 0 0,
  ix_e 25 (.invokevirtual (271)) 3 235 1 1 11 0,
  ix_e 28 .ireturn 1 0 0 0 0 0,
  ix_e 29 (.iload_n (1)) 1 1 0 0 0 0,
  ix_e 30 (.iconst (3)) 1 0 0 0 0 3,
  ix_e 31 (.if_icmp .ne (10)) 3 41 0 0 0 0,
  ix_e 34 (.aload_n (0)) 1 0 0 0 0 0,
  ix_e 35 (.invokevirtual (274)) 3 236 1 1 11 0,
  ix_e 38 (.goto (7)) 3 45 0 0 0 0,
  ix_e 41 (.aload_n (0)) 1 0 0 0 0 0,
  ix_e 42 (.invokevirtual (277)) 3 237 1 1 11 0,
  ix_e 45 .ireturn 1 0 0 0 0 0]
/-- VotedBankModel.takesLaw (I)V -/
def ix_t200 : List ix_E := [ix_e 0 (.iconst (0)) 1 0 0 0 0 0,
  ix_e 1 (.istore_n (2)) 1 2 0 0 0 0,
  ix_c 2 (.iload_n (2)) 1 [true, true, true] 2 0 0 0 0,
  ix_e 3 (.iload_n (1)) 1 1 0 0 0 0,
  ix_e 4 (.if_icmp .ge (101)) 3 105 0 0 0 0,
  ix_e 7 (.aload_n (0)) 1 0 0 0 0 0,
  ix_e 8 (.getfield (40)) 3 11 20 2 0 0,
  ix_e 11 (.bipush (16)) 2 0 0 0 0 16,
  ix_e 13 (.aload_n (0)) 1 0 0 0 0 0,
  ix_e 14 (.getfield (239)) 3 11 26 0 0 0,
  ix_e 17 .imul 1 0 0 0 0 0,
  ix_e 18 (.iload_n (2)) 1 2 0 0 0 0,
  ix_e 19 .iadd 1 0 0 0 0 0,
  ix_e 20 (.aload_n (0)) 1 0 0 0 0 0,
  ix_e 21 (.getfield (40)) 3 11 20 2 0 0,
  ix_e 24 (.bipush (32)) 2 0 0 0 0 32,
  ix_e 26 (.iload_n (2)) 1 2 0 0 0 0,
  ix_e 27 .iadd 1 0 0 0 0 0,
  ix_e 28 .iaload 1 0 0 0 0 0,
  ix_e 29 .iastore 1 0 0 0 0 0,
  ix_e 30 (.aload_n (0)) 1 0 0 0 0 0,
  ix_e 31 (.getfield (43)) 3 11 21 2 0 0,
  ix_e 34 (.bipush (16)) 2 0 0 0 0 16,
  ix_e 36 (.aload_n (0)) 1 0 0 0 0 0,
  ix_e 37 (.getfield (239)) 3 11 26 0 0 0,
  ix_e 40 .imul 1 0 0 0 0 0,
  ix_e 41 (.iload_n (2)) 1 2 0 0 0 0,
  ix_e 42 .iadd 1 0 0 0 0 0,
  ix_e 43 (.aload_n (0)) 1 0 0 0 0 0,
  ix_e 44 (.getfield (43)) 3 11 21 2 0 0,
  ix_e 47 (.bipush (32)) 2 0 0 0 0 32,
  ix_e 49 (.iload_n (2)) 1 2 0 0 0 0,
  ix_e 50 .iadd 1 0 0 0 0 0,
  ix_e 51 .iaload 1 0 0 0 0 0,
  ix_e 52 .iastore 1 0 0 0 0 0,
  ix_e 53 (.aload_n (0)) 1 0 0 0 0 0,
  ix_e 54 (.getfield (46)) 3 11 22 2 0 0,
  ix_e 57 (.bipush (16)) 2 0 0 0 0 16,
  ix_e 59 (.aload_n (0)) 1 0 0 0 0 0,
  ix_e 60 (.getfield (239)) 3 11 26 0 0 0,
  ix_e 63 .imul 1 0 0 0 0 0,
  ix_e 64 (.iload_n (2)) 1 2 0 0 0 0,
  ix_e 65 .iadd 1 0 0 0 0 0,
  ix_e 66 (.aload_n (0)) 1 0 0 0 0 0,
  ix_e 67 (.getfield (46)) 3 11 22 2 0 0,
  ix_e 70 (.bipush (32)) 2 0 0 0 0 32,
  ix_e 72 (.iload_n (2)) 1 2 0 0 0 0,
  ix_e 73 .iadd 1 0 0 0 0 0,
  ix_e 74 .iaload 1 0 0 0 0 0,
  ix_e 75 .iastore 1 0 0 0 0 0,
  ix_e 76 (.aload_n (0)) 1 0 0 0 0 0,
  ix_e 77 (.getfield (49)) 3 11 23 2 0 0,
  ix_e 80 (.bipush (16)) 2 0 0 0 0 16,
  ix_e 82 (.aload_n (0)) 1 0 0 0 0 0,
  ix_e 83 (.getfield (239)) 3 11 26 0 0 0,
  ix_e 86 .imul 1 0 0 0 0 0,
  ix_e 87 (.iload_n (2)) 1 2 0 0 0 0,
  ix_e 88 .iadd 1 0 0 0 0 0,
  ix_e 89 (.aload_n (0)) 1 0 0 0 0 0,
  ix_e 90 (.getfield (49)) 3 11 23 2 0 0,
  ix_e 93 (.bipush (32)) 2 0 0 0 0 32,
  ix_e 95 (.iload_n (2)) 1 2 0 0 0 0,
  ix_e 96 .iadd 1 0 0 0 0 0,
  ix_e 97 .iaload 1 0 0 0 0 0,
  ix_e 98 .iastore 1 0 0 0 0 0,
  ix_e 99 (.iinc 2 (1)) 3 2 0 0 0 1,
  ix_e 102 (.goto (-100)) 3 2 0 0 0 0,
  ix_e 105 (.iconst (0)) 1 0 0 0 0 0,
  ix_e 106 (.istore_n (2)) 1 2 0 0 0 0,
  ix_c 107 (.iload_n (2)) 1 [true, true, true] 2 0 0 0 0,
  ix_e 108 (.aload_n (0)) 1 0 0 0 0 0,
  ix_e 109 (.getfield (186)) 3 11 27 0 0 0,
  ix_e 112 (.if_icmp .ge (59)) 3 171 0 0 0 0,
  ix_e 115 (.aload_n (0)) 1 0 0 0 0 0,
  ix_e 116 (.getfield (52)) 3 11 24 2 0 0,
  ix_e 119 (.sipush (400)) 3 0 0 0 0 400,
  ix_e 122 (.aload_n (0)) 1 0 0 0 0 0,
  ix_e 123 (.getfield (239)) 3 11 26 0 0 0,
  ix_e 126 .imul 1 0 0 0 0 0,
  ix_e 127 (.iload_n (2)) 1 2 0 0 0 0,
  ix_e 128 .iadd 1 0 0 0 0 0,
  ix_e 129 (.aload_n (0)) 1 0 0 0 0 0,
  ix_e 130 (.getfield (52)) 3 11 24 2 0 0,
  ix_e 133 (.sipush (800)) 3 0 0 0 0 800,
  ix_e 136 (.iload_n (2)) 1 2 0 0 0 0,
  ix_e 137 .iadd 1 0 0 0 0 0,
  ix_e 138 .iaload 1 0 0 0 0 0,
  ix_e 139 .iastore 1 0 0 0 0 0,
  ix_e 140 (.aload_n (0)) 1 0 0 0 0 0,
  ix_e 141 (.getfield (55)) 3 11 25 2 0 0,
  ix_e 144 (.sipush (400)) 3 0 0 0 0 400,
  ix_e 147 (.aload_n (0)) 1 0 0 0 0 0,
  ix_e 148 (.getfield (239)) 3 11 26 0 0 0,
  ix_e 151 .imul 1 0 0 0 0 0,
  ix_e 152 (.iload_n (2)) 1 2 0 0 0 0,
  ix_e 153 .iadd 1 0 0 0 0 0,
  ix_e 154 (.aload_n (0)) 1 0 0 0 0 0,
  ix_e 155 (.getfield (55)) 3 11 25 2 0 0,
  ix_e 158 (.sipush (800)) 3 0 0 0 0 800,
  ix_e 161 (.iload_n (2)) 1 2 0 0 0 0,
  ix_e 162 .iadd 1 0 0 0 0 0,
  ix_e 163 .iaload 1 0 0 0 0 0,
  ix_e 164 .iastore 1 0 0 0 0 0,
  ix_e 165 (.iinc 2 (1)) 3 2 0 0 0 1,
  ix_e 168 (.goto (-61)) 3 107 0 0 0 0,
  ix_e 171 (.aload_n (0)) 1 0 0 0 0 0,
  ix_e 172 (.getfield (37)) 3 11 19 2 0 0,
  ix_e 175 (.aload_n (0)) 1 0 0 0 0 0,
  ix_e 176 (.getfield (239)) 3 11 26 0 0 0,
  ix_e 179 (.iload_n (1)) 1 1 0 0 0 0,
  ix_e 180 .iastore 1 0 0 0 0 0,
  ix_e 181 .return_ 1 0 0 0 0 0]
/-- VotedBankModel.takesOther (II)V -/
def ix_t201 : List ix_E := [ix_e 0 (.iload_n (1)) 1 1 0 0 0 0,
  ix_e 1 (.iconst (3)) 1 0 0 0 0 3,
  ix_e 2 (.if_icmp .ne (39)) 3 41 0 0 0 0,
  ix_e 5 (.iconst (0)) 1 0 0 0 0 0,
  ix_e 6 (.istore_n (3)) 1 3 0 0 0 0,
  ix_c 7 (.iload_n (3)) 1 [true, false, true, true] 3 0 0 0 0,
  ix_e 8 (.iconst (3)) 1 0 0 0 0 3,
  ix_e 9 (.iload_n (2)) 1 2 0 0 0 0,
  ix_e 10 .imul 1 0 0 0 0 0,
  ix_e 11 (.if_icmp .ge (24)) 3 35 0 0 0 0,
  ix_e 14 (.aload_n (0)) 1 0 0 0 0 0,
  ix_e 15 (.getfield (71)) 3 11 40 2 0 0,
  ix_e 18 (.iload_n (3)) 1 3 0 0 0 0,
  ix_e 19 (.aload_n (0)) 1 0 0 0 0 0,
  ix_e 20 (.getfield (71)) 3 11 40 2 0 0,
  ix_e 23 (.bipush (48)) 2 0 0 0 0 48,
  ix_e 25 (.iload_n (3)) 1 3 0 0 0 0,
  ix_e 26 .iadd 1 0 0 0 0 0,
  ix_e 27 .iaload 1 0 0 0 0 0,
  ix_e 28 .iastore 1 0 0 0 0 0,
  ix_e 29 (.iinc 3 (1)) 3 3 0 0 0 1,
  ix_e 32 (.goto (-25)) 3 7 0 0 0 0,
  ix_e 35 (.aload_n (0)) 1 0 0 0 0 0,
  ix_e 36 (.iload_n (2)) 1 2 0 0 0 0,
  ix_e 37 (.putfield (280)) 3 11 39 0 0 0,
  ix_e 40 .return_ 1 0 0 0 0 0,
  ix_e 41 (.iload_n (1)) 1 1 0 0 0 0,
  ix_e 42 (.iconst (1)) 1 0 0 0 0 1,
  ix_e 43 (.if_icmp .ne (40)) 3 83 0 0 0 0,
  ix_e 46 (.iconst (0)) 1 0 0 0 0 0,
  ix_e 47 (.istore_n (3)) 1 3 0 0 0 0,
  ix_c 48 (.iload_n (3)) 1 [true, false, true, true] 3 0 0 0 0,
  ix_e 49 (.bipush (12)) 2 0 0 0 0 12,
  ix_e 51 (.if_icmp .ge (24)) 3 75 0 0 0 0,
  ix_e 54 (.aload_n (0)) 1 0 0 0 0 0,
  ix_e 55 (.getfield (65)) 3 11 36 2 0 0,
  ix_e 58 (.iload_n (3)) 1 3 0 0 0 0,
  ix_e 59 (.aload_n (0)) 1 0 0 0 0 0,
  ix_e 60 (.getfield (65)) 3 11 36 2 0 0,
  ix_e 63 (.bipush (12)) 2 0 0 0 0 12,
  ix_e 65 (.iload_n (3)) 1 3 0 0 0 0,
  ix_e 66 .iadd 1 0 0 0 0 0,
  ix_e 67 .iaload 1 0 0 0 0 0,
  ix_e 68 .iastore 1 0 0 0 0 0,
  ix_e 69 (.iinc 3 (1)) 3 3 0 0 0 1,
  ix_e 72 (.goto (-24)) 3 48 0 0 0 0,
  ix_e 75 (.aload_n (0)) 1 0 0 0 0 0,
  ix_e 76 (.iload_n (2)) 1 2 0 0 0 0,
  ix_e 77 (.putfield (283)) 3 11 35 0 0 0,
  ix_e 80 (.goto (38)) 3 118 0 0 0 0,
  ix_e 83 (.iconst (0)) 1 0 0 0 0 0,
  ix_e 84 (.istore_n (3)) 1 3 0 0 0 0,
  ix_c 85 (.iload_n (3)) 1 [true, false, true, true] 3 0 0 0 0,
  ix_e 86 (.iconst (2)) 1 0 0 0 0 2,
  ix_e 87 (.iload_n (2)) 1 2 0 0 0 0,
  ix_e 88 .imul 1 0 0 0 0 0,
  ix_e 89 (.if_icmp .ge (24)) 3 113 0 0 0 0,
  ix_e 92 (.aload_n (0)) 1 0 0 0 0 0,
  ix_e 93 (.getfield (68)) 3 11 38 2 0 0,
  ix_e 96 (.iload_n (3)) 1 3 0 0 0 0,
  ix_e 97 (.aload_n (0)) 1 0 0 0 0 0,
  ix_e 98 (.getfield (68)) 3 11 38 2 0 0,
  ix_e 101 (.bipush (32)) 2 0 0 0 0 32,
  ix_e 103 (.iload_n (3)) 1 3 0 0 0 0,
  ix_e 104 .iadd 1 0 0 0 0 0,
  ix_e 105 .iaload 1 0 0 0 0 0,
  ix_e 106 .iastore 1 0 0 0 0 0,
  ix_e 107 (.iinc 3 (1)) 3 3 0 0 0 1,
  ix_e 110 (.goto (-25)) 3 85 0 0 0 0,
  ix_e 113 (.aload_n (0)) 1 0 0 0 0 0,
  ix_e 114 (.iload_n (2)) 1 2 0 0 0 0,
  ix_e 115 (.putfield (286)) 3 11 37 0 0 0,
  ix_e 118 (.aload_n (0)) 1 0 0 0 0 0,
  ix_e 119 (.iconst (0)) 1 0 0 0 0 0,
  ix_e 120 (.putfield (101)) 3 11 3 0 0 0,
  ix_e 123 .return_ 1 0 0 0 0 0]
/-- VotedBankModel.shellsNow (I)I -/
def ix_t202 : List ix_E := [ix_e 0 (.aload_n (0)) 1 0 0 0 0 0,
  ix_e 1 (.iload_n (1)) 1 1 0 0 0 0,
  ix_e 2 (.iconst (0)) 1 0 0 0 0 0,
  ix_e 3 (.aload_n (0)) 1 0 0 0 0 0,
  ix_e 4 (.invokevirtual (326)) 3 196 1 1 11 0,
  ix_e 7 (.iconst (1)) 1 0 0 0 0 1,
  ix_e 8 (.iload_n (1)) 1 1 0 0 0 0,
  ix_e 9 .ishl 1 0 0 0 0 0,
  ix_e 10 .ior 1 0 0 0 0 0,
  ix_e 11 (.invokevirtual (329)) 3 238 4 1 11 0,
  ix_e 14 .ireturn 1 0 0 0 0 0]
/-- VotedBankModel.abstainOf (III)I -/
def ix_t203 : List ix_E := [ix_e 0 (.aload_n (0)) 1 0 0 0 0 0,
  ix_e 1 (.iload_n (1)) 1 1 0 0 0 0,
  ix_e 2 (.aload_n (0)) 1 0 0 0 0 0,
  ix_e 3 (.getfield (22)) 3 11 9 2 0 0,
  ix_e 6 (.iload_n (1)) 1 1 0 0 0 0,
  ix_e 7 .iaload 1 0 0 0 0 0,
  ix_e 8 (.iload_n (2)) 1 2 0 0 0 0,
  ix_e 9 (.iload_n (3)) 1 3 0 0 0 0,
  ix_e 10 (.invokevirtual (319)) 3 239 5 0 11 0,
  ix_e 13 (.aload_n (0)) 1 0 0 0 0 0,
  ix_e 14 (.iconst (1)) 1 0 0 0 0 1,
  ix_e 15 (.bipush (20)) 2 0 0 0 0 20,
  ix_e 17 (.aload_n (0)) 1 0 0 0 0 0,
  ix_e 18 (.getfield (7)) 3 11 1 2 0 0,
  ix_e 21 (.bipush (30)) 2 0 0 0 0 30,
  ix_e 23 (.iload_n (1)) 1 1 0 0 0 0,
  ix_e 24 .iadd 1 0 0 0 0 0,
  ix_e 25 .iaload 1 0 0 0 0 0,
  ix_e 26 .imul 1 0 0 0 0 0,
  ix_e 27 (.sipush (1000)) 3 0 0 0 0 1000,
  ix_e 30 (.invokevirtual (323)) 3 240 4 1 11 0,
  ix_e 33 .ireturn 1 0 0 0 0 0]
/-- VotedBankModel.swayOf (IIII)I -/
def ix_t204 : List ix_E := [ix_e 0 (.aload_n (0)) 1 0 0 0 0 0,
  ix_e 1 (.iload_n (1)) 1 1 0 0 0 0,
  ix_e 2 (.aload_n (0)) 1 0 0 0 0 0,
  ix_e 3 (.getfield (22)) 3 11 9 2 0 0,
  ix_e 6 (.iload_n (2)) 1 2 0 0 0 0,
  ix_e 7 .iaload 1 0 0 0 0 0,
  ix_e 8 (.iload_n (3)) 1 3 0 0 0 0,
  ix_e 9 (.iload (4)) 2 4 0 0 0 0,
  ix_e 11 (.invokevirtual (319)) 3 239 5 0 11 0,
  ix_e 14 (.aload_n (0)) 1 0 0 0 0 0,
  ix_e 15 (.iconst (0)) 1 0 0 0 0 0,
  ix_e 16 (.sipush (300)) 3 0 0 0 0 300,
  ix_e 19 (.bipush (30)) 2 0 0 0 0 30,
  ix_e 21 (.aload_n (0)) 1 0 0 0 0 0,
  ix_e 22 (.getfield (25)) 3 11 10 2 0 0,
  ix_e 25 (.iload_n (1)) 1 1 0 0 0 0,
  ix_e 26 .iaload 1 0 0 0 0 0,
  ix_e 27 .imul 1 0 0 0 0 0,
  ix_e 28 .isub 1 0 0 0 0 0,
  ix_e 29 (.sipush (1000)) 3 0 0 0 0 1000,
  ix_e 32 (.invokevirtual (323)) 3 240 4 1 11 0,
  ix_e 35 .ireturn 1 0 0 0 0 0]
/-- VotedBankModel.seasonOf (I)I -/
def ix_t205 : List ix_E := [ix_e 0 (.iconst (0)) 1 0 0 0 0 0,
  ix_e 1 (.istore_n (2)) 1 2 0 0 0 0,
  ix_c 2 (.iload_n (2)) 1 [true, true, true] 2 0 0 0 0,
  ix_e 3 (.aload_n (0)) 1 0 0 0 0 0,
  ix_e 4 (.getfield (280)) 3 11 39 0 0 0,
  ix_e 7 (.if_icmp .ge (25)) 3 32 0 0 0 0,
  ix_e 10 (.aload_n (0)) 1 0 0 0 0 0,
  ix_e 11 (.getfield (71)) 3 11 40 2 0 0,
  ix_e 14 (.iconst (3)) 1 0 0 0 0 3,
  ix_e 15 (.iload_n (2)) 1 2 0 0 0 0,
  ix_e 16 .imul 1 0 0 0 0 0,
  ix_e 17 .iaload 1 0 0 0 0 0,
  ix_e 18 (.iload_n (1)) 1 1 0 0 0 0,
  ix_e 19 (.if_icmp .ne (7)) 3 26 0 0 0 0,
  ix_e 22 (.iconst (3)) 1 0 0 0 0 3,
  ix_e 23 (.iload_n (2)) 1 2 0 0 0 0,
  ix_e 24 .imul 1 0 0 0 0 0,
  ix_e 25 .ireturn 1 0 0 0 0 0,
  ix_e 26 (.iinc 2 (1)) 3 2 0 0 0 1,
  ix_e 29 (.goto (-27)) 3 2 0 0 0 0,
  ix_e 32 (.iconst (-1)) 1 0 0 0 0 (-1),
  ix_e 33 .ireturn 1 0 0 0 0 0]
/-- VotedBankModel.thinks ()V -/
def ix_t206 : List ix_E := [ix_e 0 (.iconst (0)) 1 0 0 0 0 0,
  ix_e 1 (.istore_n (1)) 1 1 0 0 0 0,
  ix_c 2 (.iload_n (1)) 1 [true, true] 1 0 0 0 0,
  ix_e 3 (.bipush (54)) 2 0 0 0 0 54,
  ix_e 5 (.if_icmp .ge (21)) 3 26 0 0 0 0,
  ix_e 8 (.aload_n (0)) 1 0 0 0 0 0,
  ix_e 9 (.getfield (16)) 3 11 4 2 0 0,
  ix_e 12 (.iload_n (1)) 1 1 0 0 0 0,
  ix_e 13 (.aload_n (0)) 1 0 0 0 0 0,
  ix_e 14 (.getfield (7)) 3 11 1 2 0 0,
  ix_e 17 (.iload_n (1)) 1 1 0 0 0 0,
  ix_e 18 .iaload 1 0 0 0 0 0,
  ix_e 19 .iastore 1 0 0 0 0 0,
  ix_e 20 (.iinc 1 (1)) 3 1 0 0 0 1,
  ix_e 23 (.goto (-21)) 3 2 0 0 0 0,
  ix_e 26 (.aload_n (0)) 1 0 0 0 0 0,
  ix_e 27 (.iconst (1)) 1 0 0 0 0 1,
  ix_e 28 (.putfield (104)) 3 11 5 1 0 0,
  ix_e 31 .return_ 1 0 0 0 0 0]
/-- VotedBankModel.votes (I)I -/
def ix_t207 : List ix_E := [ix_e 0 (.iconst (3)) 1 0 0 0 0 3,
  ix_e 1 (.aload_n (0)) 1 0 0 0 0 0,
  ix_e 2 (.getfield (142)) 3 11 6 0 0 0,
  ix_e 5 .iadd 1 0 0 0 0 0,
  ix_e 6 (.istore_n (2)) 1 2 0 0 0 0,
  ix_e 7 (.aload_n (0)) 1 0 0 0 0 0,
  ix_e 8 (.iconst (0)) 1 0 0 0 0 0,
  ix_e 9 (.putfield (345)) 3 11 43 0 0 0,
  ix_e 12 (.iconst (0)) 1 0 0 0 0 0,
  ix_e 13 (.istore_n (3)) 1 3 0 0 0 0,
  ix_c 14 (.iload_n (3)) 1 [true, true, true, true, false] 3 0 0 0 0,
  ix_e 15 (.iload_n (2)) 1 2 0 0 0 0,
  ix_e 16 (.if_icmp .ge (45)) 3 61 0 0 0 0,
  ix_e 19 (.iconst (0)) 1 0 0 0 0 0,
  ix_e 20 (.istore (4)) 2 4 0 0 0 0,
  ix_c 22 (.iload (4)) 2 [true, true, true, true, true] 4 0 0 0 0,
  ix_e 24 (.aload_n (0)) 1 0 0 0 0 0,
  ix_e 25 (.getfield (125)) 3 11 7 0 0 0,
  ix_e 28 (.if_icmp .ge (27)) 3 55 0 0 0 0,
  ix_e 31 (.aload_n (0)) 1 0 0 0 0 0,
  ix_e 32 (.iload_n (1)) 1 1 0 0 0 0,
  ix_e 33 (.iload (4)) 2 4 0 0 0 0,
  ix_e 35 (.invokevirtual (255)) 3 197 3 1 11 0,
  ix_e 38 (.ifCond .eq (11)) 3 49 0 0 0 0,
  ix_e 41 (.aload_n (0)) 1 0 0 0 0 0,
  ix_e 42 (.iload (4)) 2 4 0 0 0 0,
  ix_e 44 (.iload_n (3)) 1 3 0 0 0 0,
  ix_e 45 (.iload_n (1)) 1 1 0 0 0 0,
  ix_e 46 (.invokevirtual (361)) 3 241 4 0 11 0,
  ix_e 49 (.iinc 4 (1)) 3 4 0 0 0 1,
  ix_e 52 (.goto (-30)) 3 22 0 0 0 0,
  ix_e 55 (.iinc 3 (1)) 3 3 0 0 0 1,
  ix_e 58 (.goto (-44)) 3 14 0 0 0 0,
  ix_e 61 (.aload_n (0)) 1 0 0 0 0 0,
  ix_e 62 (.iload_n (1)) 1 1 0 0 0 0,
  ix_e 63 (.iload_n (2)) 1 2 0 0 0 0,
  ix_e 64 (.invokevirtual (364)) 3 242 3 1 11 0,
  ix_e 67 (.istore_n (3)) 1 3 0 0 0 0,
  ix_e 68 (.iconst (0)) 1 0 0 0 0 0,
  ix_e 69 (.istore (4)) 2 4 0 0 0 0,
  ix_c 71 (.iload (4)) 2 [true, true, true, true, true] 4 0 0 0 0,
  ix_e 73 (.bipush (6)) 2 0 0 0 0 6,
  ix_e 75 (.if_icmp .ge (17)) 3 92 0 0 0 0,
  ix_e 78 (.aload_n (0)) 1 0 0 0 0 0,
  ix_e 79 (.getfield (80)) 3 11 44 2 0 0,
  ix_e 82 (.iload (4)) 2 4 0 0 0 0,
  ix_e 84 (.iconst (0)) 1 0 0 0 0 0,
  ix_e 85 .iastore 1 0 0 0 0 0,
  ix_e 86 (.iinc 4 (1)) 3 4 0 0 0 1,
  ix_e 89 (.goto (-18)) 3 71 0 0 0 0,
  ix_e 92 (.iconst (0)) 1 0 0 0 0 0,
  ix_e 93 (.istore (4)) 2 4 0 0 0 0,
  ix_c 95 (.iload (4)) 2 [true, true, true, true, true] 4 0 0 0 0,
  ix_e 97 (.aload_n (0)) 1 0 0 0 0 0,
  ix_e 98 (.getfield (125)) 3 11 7 0 0 0,
  ix_e 101 (.if_icmp .ge (54)) 3 155 0 0 0 0,
  ix_e 104 (.aload_n (0)) 1 0 0 0 0 0,
  ix_e 105 (.iload_n (1)) 1 1 0 0 0 0,
  ix_e 106 (.iload_n (3)) 1 3 0 0 0 0,
  ix_e 107 (.iconst (-1)) 1 0 0 0 0 (-1),
  ix_e 108 .ixor 1 0 0 0 0 0,
  ix_e 109 .iand 1 0 0 0 0 0,
  ix_e 110 (.iload (4)) 2 4 0 0 0 0,
  ix_e 112 (.invokevirtual (255)) 3 197 3 1 11 0,
  ix_e 115 (.ifCond .eq (34)) 3 149 0 0 0 0,
  ix_e 118 (.aload_n (0)) 1 0 0 0 0 0,
  ix_e 119 (.getfield (80)) 3 11 44 2 0 0,
  ix_e 122 (.aload_n (0)) 1 0 0 0 0 0,
  ix_e 123 (.iload (4)) 2 4 0 0 0 0,
  ix_e 125 (.invokevirtual (310)) 3 243 2 1 11 0,
  ix_e 128 (.aload_n (0)) 1 0 0 0 0 0,
  ix_e 129 (.getfield (80)) 3 11 44 2 0 0,
  ix_e 132 (.aload_n (0)) 1 0 0 0 0 0,
  ix_e 133 (.iload (4)) 2 4 0 0 0 0,
  ix_e 135 (.invokevirtual (310)) 3 243 2 1 11 0,
  ix_e 138 .iaload 1 0 0 0 0 0,
  ix_e 139 (.aload_n (0)) 1 0 0 0 0 0,
  ix_e 140 (.iload (4)) 2 4 0 0 0 0,
  ix_e 142 (.iload_n (2)) 1 2 0 0 0 0,
  ix_e 143 (.iload_n (1)) 1 1 0 0 0 0,
  ix_e 144 (.invokevirtual (329)) 3 238 4 1 11 0,
  ix_e 147 .iadd 1 0 0 0 0 0,
  ix_e 148 .iastore 1 0 0 0 0 0,
  ix_e 149 (.iinc 4 (1)) 3 4 0 0 0 1,
  ix_e 152 (.goto (-57)) 3 95 0 0 0 0,
  ix_e 155 (.aload_n (0)) 1 0 0 0 0 0,
  ix_e 156 (.invokevirtual (367)) 3 244 1 1 11 0,
  ix_e 159 .ireturn 1 0 0 0 0 0]
/-- VotedBankModel.endsThought ()V -/
def ix_t208 : List ix_E := [ix_e 0 (.iconst (0)) 1 0 0 0 0 0,
  ix_e 1 (.istore_n (1)) 1 1 0 0 0 0,
  ix_c 2 (.iload_n (1)) 1 [true, true] 1 0 0 0 0,
  ix_e 3 (.bipush (54)) 2 0 0 0 0 54,
  ix_e 5 (.if_icmp .ge (21)) 3 26 0 0 0 0,
  ix_e 8 (.aload_n (0)) 1 0 0 0 0 0,
  ix_e 9 (.getfield (7)) 3 11 1 2 0 0,
  ix_e 12 (.iload_n (1)) 1 1 0 0 0 0,
  ix_e 13 (.aload_n (0)) 1 0 0 0 0 0,
  ix_e 14 (.getfield (16)) 3 11 4 2 0 0,
  ix_e 17 (.iload_n (1)) 1 1 0 0 0 0,
  ix_e 18 .iaload 1 0 0 0 0 0,
  ix_e 19 .iastore 1 0 0 0 0 0,
  ix_e 20 (.iinc 1 (1)) 3 1 0 0 0 1,
  ix_e 23 (.goto (-21)) 3 2 0 0 0 0,
  ix_e 26 (.aload_n (0)) 1 0 0 0 0 0,
  ix_e 27 (.iconst (0)) 1 0 0 0 0 0,
  ix_e 28 (.putfield (104)) 3 11 5 1 0 0,
  ix_e 31 .return_ 1 0 0 0 0 0]
/-- VotedBankModel.findsLays ()V -/
def ix_t209 : List ix_E := [ix_e 0 (.iconst (0)) 1 0 0 0 0 0,
  ix_e 1 (.istore_n (1)) 1 1 0 0 0 0,
  ix_c 2 (.iload_n (1)) 1 [true, true] 1 0 0 0 0,
  ix_e 3 (.aload_n (0)) 1 0 0 0 0 0,
  ix_e 4 (.getfield (125)) 3 11 7 0 0 0,
  ix_e 7 (.if_icmp .ge (20)) 3 27 0 0 0 0,
  ix_e 10 (.aload_n (0)) 1 0 0 0 0 0,
  ix_e 11 (.getfield (83)) 3 11 45 2 0 0,
  ix_e 14 (.iload_n (1)) 1 1 0 0 0 0,
  ix_e 15 (.aload_n (0)) 1 0 0 0 0 0,
  ix_e 16 (.iload_n (1)) 1 1 0 0 0 0,
  ix_e 17 (.invokevirtual (394)) 3 202 2 1 11 0,
  ix_e 20 .iastore 1 0 0 0 0 0,
  ix_e 21 (.iinc 1 (1)) 3 1 0 0 0 1,
  ix_e 24 (.goto (-22)) 3 2 0 0 0 0,
  ix_e 27 .return_ 1 0 0 0 0 0]
/-- VotedBankModel.onesOf (I)I -/
def ix_t210 : List ix_E := [ix_e 0 (.iconst (0)) 1 0 0 0 0 0,
  ix_e 1 (.istore_n (2)) 1 2 0 0 0 0,
  ix_e 2 (.iload_n (1)) 1 1 0 0 0 0,
  ix_e 3 (.istore_n (3)) 1 3 0 0 0 0,
  ix_c 4 (.iload_n (3)) 1 [false, false, true, true] 3 0 0 0 0,
  ix_e 5 (.ifCond .eq (16)) 3 21 0 0 0 0,
  ix_e 8 (.iload_n (2)) 1 2 0 0 0 0,
  ix_e 9 (.iconst (1)) 1 0 0 0 0 1,
  ix_e 10 .iadd 1 0 0 0 0 0,
  ix_e 11 (.istore_n (2)) 1 2 0 0 0 0,
  ix_e 12 (.iload_n (3)) 1 3 0 0 0 0,
  ix_e 13 (.iload_n (3)) 1 3 0 0 0 0,
  ix_e 14 (.iconst (1)) 1 0 0 0 0 1,
  ix_e 15 .isub 1 0 0 0 0 0,
  ix_e 16 .iand 1 0 0 0 0 0,
  ix_e 17 (.istore_n (3)) 1 3 0 0 0 0,
  ix_e 18 (.goto (-14)) 3 4 0 0 0 0,
  ix_e 21 (.iload_n (2)) 1 2 0 0 0 0,
  ix_e 22 .ireturn 1 0 0 0 0 0]
/-- VotedBankModel.voteOf (III)I -/
def ix_t211 : List ix_E := [ix_e 0 (.iconst (0)) 1 0 0 0 0 0,
  ix_e 1 (.istore (4)) 2 4 0 0 0 0,
  ix_c 3 (.iload (4)) 2 [true, true, true, true, true, false] 4 0 0 0 0,
  ix_e 5 (.bipush (6)) 2 0 0 0 0 6,
  ix_e 7 (.if_icmp .ge (17)) 3 24 0 0 0 0,
  ix_e 10 (.aload_n (0)) 1 0 0 0 0 0,
  ix_e 11 (.getfield (80)) 3 11 44 2 0 0,
  ix_e 14 (.iload (4)) 2 4 0 0 0 0,
  ix_e 16 (.iconst (0)) 1 0 0 0 0 0,
  ix_e 17 .iastore 1 0 0 0 0 0,
  ix_e 18 (.iinc 4 (1)) 3 4 0 0 0 1,
  ix_e 21 (.goto (-18)) 3 3 0 0 0 0,
  ix_e 24 (.iconst (0)) 1 0 0 0 0 0,
  ix_e 25 (.istore (4)) 2 4 0 0 0 0,
  ix_c 27 (.iload (4)) 2 [true, true, true, true, true, false] 4 0 0 0 0,
  ix_e 29 (.aload_n (0)) 1 0 0 0 0 0,
  ix_e 30 (.getfield (125)) 3 11 7 0 0 0,
  ix_e 33 (.if_icmp .ge (66)) 3 99 0 0 0 0,
  ix_e 36 (.aload_n (0)) 1 0 0 0 0 0,
  ix_e 37 (.iload_n (1)) 1 1 0 0 0 0,
  ix_e 38 (.iload (4)) 2 4 0 0 0 0,
  ix_e 40 (.invokevirtual (255)) 3 197 3 1 11 0,
  ix_e 43 (.ifCond .ne (6)) 3 49 0 0 0 0,
  ix_e 46 (.goto (47)) 3 93 0 0 0 0,
  ix_e 49 (.aload_n (0)) 1 0 0 0 0 0,
  ix_e 50 (.iload_n (2)) 1 2 0 0 0 0,
  ix_e 51 (.iload (4)) 2 4 0 0 0 0,
  ix_e 53 (.invokevirtual (255)) 3 197 3 1 11 0,
  ix_e 56 (.ifCond .eq (7)) 3 63 0 0 0 0,
  ix_e 59 (.iload_n (3)) 1 3 0 0 0 0,
  ix_e 60 (.goto (9)) 3 69 0 0 0 0,
  ix_e 63 (.aload_n (0)) 1 0 0 0 0 0,
  ix_e 64 (.iload (4)) 2 4 0 0 0 0,
  ix_e 66 (.invokevirtual (310)) 3 243 2 1 11 0,
  ix_e 69 (.istore (5)) 2 5 0 0 0 0,
  ix_e 71 (.aload_n (0)) 1 0 0 0 0 0,
  ix_e 72 (.getfield (80)) 3 11 44 2 0 0,
  ix_e 75 (.iload (5)) 2 5 0 0 0 0,
  ix_e 77 (.aload_n (0)) 1 0 0 0 0 0,
  ix_e 78 (.getfield (80)) 3 11 44 2 0 0,
  ix_e 81 (.iload (5)) 2 5 0 0 0 0,
  ix_e 83 .iaload 1 0 0 0 0 0,
  ix_e 84 (.aload_n (0)) 1 0 0 0 0 0,
  ix_e 85 (.getfield (83)) 3 11 45 2 0 0,
  ix_e 88 (.iload (4)) 2 4 0 0 0 0,
  ix_e 90 .iaload 1 0 0 0 0 0,
  ix_e 91 .iadd 1 0 0 0 0 0,
  ix_e 92 .iastore 1 0 0 0 0 0,
  ix_e 93 (.iinc 4 (1)) 3 4 0 0 0 1,
  ix_e 96 (.goto (-69)) 3 27 0 0 0 0,
  ix_e 99 (.aload_n (0)) 1 0 0 0 0 0,
  ix_e 100 (.invokevirtual (367)) 3 244 1 1 11 0,
  ix_e 103 .ireturn 1 0 0 0 0 0]
/-- VotedBankModel.beatsBy (II)I -/
def ix_t212 : List ix_E := [ix_e 0 (.iconst (0)) 1 0 0 0 0 0,
  ix_e 1 (.istore_n (3)) 1 3 0 0 0 0,
  ix_e 2 (.iconst (0)) 1 0 0 0 0 0,
  ix_e 3 (.istore (4)) 2 4 0 0 0 0,
  ix_c 5 (.iload (4)) 2 [true, true, true, true, true] 4 0 0 0 0,
  ix_e 7 (.aload_n (0)) 1 0 0 0 0 0,
  ix_e 8 (.getfield (125)) 3 11 7 0 0 0,
  ix_e 11 (.if_icmp .ge (62)) 3 73 0 0 0 0,
  ix_e 14 (.aload_n (0)) 1 0 0 0 0 0,
  ix_e 15 (.getfield (7)) 3 11 1 2 0 0,
  ix_e 18 (.bipush (18)) 2 0 0 0 0 18,
  ix_e 20 (.iload (4)) 2 4 0 0 0 0,
  ix_e 22 .iadd 1 0 0 0 0 0,
  ix_e 23 .iaload 1 0 0 0 0 0,
  ix_e 24 (.ifCond .ne (43)) 3 67 0 0 0 0,
  ix_e 27 (.iload_n (3)) 1 3 0 0 0 0,
  ix_e 28 (.aload_n (0)) 1 0 0 0 0 0,
  ix_e 29 (.aload_n (0)) 1 0 0 0 0 0,
  ix_e 30 (.getfield (7)) 3 11 1 2 0 0,
  ix_e 33 (.bipush (6)) 2 0 0 0 0 6,
  ix_e 35 (.iload (4)) 2 4 0 0 0 0,
  ix_e 37 .iadd 1 0 0 0 0 0,
  ix_e 38 .iaload 1 0 0 0 0 0,
  ix_e 39 (.iload_n (1)) 1 1 0 0 0 0,
  ix_e 40 (.iload_n (2)) 1 2 0 0 0 0,
  ix_e 41 (.invokevirtual (122)) 3 245 4 1 11 0,
  ix_e 44 (.ifCond .eq (13)) 3 57 0 0 0 0,
  ix_e 47 (.aload_n (0)) 1 0 0 0 0 0,
  ix_e 48 (.getfield (83)) 3 11 45 2 0 0,
  ix_e 51 (.iload (4)) 2 4 0 0 0 0,
  ix_e 53 .iaload 1 0 0 0 0 0,
  ix_e 54 (.goto (11)) 3 65 0 0 0 0,
  ix_e 57 (.aload_n (0)) 1 0 0 0 0 0,
  ix_e 58 (.getfield (83)) 3 11 45 2 0 0,
  ix_e 61 (.iload (4)) 2 4 0 0 0 0,
  ix_e 63 .iaload 1 0 0 0 0 0,
  ix_e 64 .ineg 1 0 0 0 0 0,
  ix_e 65 .iadd 1 0 0 0 0 0,
  ix_e 66 (.istore_n (3)) 1 3 0 0 0 0,
  ix_e 67 (.iinc 4 (1)) 3 4 0 0 0 1,
  ix_e 70 (.goto (-65)) 3 5 0 0 0 0,
  ix_e 73 (.iload_n (3)) 1 3 0 0 0 0,
  ix_e 74 .ireturn 1 0 0 0 0 0]
/-- VotedBankModel.champion ()I -/
def ix_t213 : List ix_E := [ix_e 0 (.iconst (1)) 1 0 0 0 0 1,
  ix_e 1 (.istore_n (1)) 1 1 0 0 0 0,
  ix_c 2 (.iload_n (1)) 1 [true, true, false, false] 1 0 0 0 0,
  ix_e 3 (.bipush (6)) 2 0 0 0 0 6,
  ix_e 5 (.if_icmp .ge (47)) 3 52 0 0 0 0,
  ix_e 8 (.iconst (1)) 1 0 0 0 0 1,
  ix_e 9 (.istore_n (2)) 1 2 0 0 0 0,
  ix_e 10 (.iconst (1)) 1 0 0 0 0 1,
  ix_e 11 (.istore_n (3)) 1 3 0 0 0 0,
  ix_c 12 (.iload_n (3)) 1 [true, true, true, true] 3 0 0 0 0,
  ix_e 13 (.bipush (6)) 2 0 0 0 0 6,
  ix_e 15 (.if_icmp .ge (25)) 3 40 0 0 0 0,
  ix_e 18 (.iload_n (3)) 1 3 0 0 0 0,
  ix_e 19 (.iload_n (1)) 1 1 0 0 0 0,
  ix_e 20 (.if_icmp .eq (14)) 3 34 0 0 0 0,
  ix_e 23 (.aload_n (0)) 1 0 0 0 0 0,
  ix_e 24 (.iload_n (1)) 1 1 0 0 0 0,
  ix_e 25 (.iload_n (3)) 1 3 0 0 0 0,
  ix_e 26 (.invokevirtual (409)) 3 212 3 1 11 0,
  ix_e 29 (.ifCond .gt (5)) 3 34 0 0 0 0,
  ix_e 32 (.iconst (0)) 1 0 0 0 0 0,
  ix_e 33 (.istore_n (2)) 1 2 0 0 0 0,
  ix_e 34 (.iinc 3 (1)) 3 3 0 0 0 1,
  ix_e 37 (.goto (-25)) 3 12 0 0 0 0,
  ix_e 40 (.iload_n (2)) 1 2 0 0 0 0,
  ix_e 41 (.ifCond .eq (5)) 3 46 0 0 0 0,
  ix_e 44 (.iload_n (1)) 1 1 0 0 0 0,
  ix_e 45 .ireturn 1 0 0 0 0 0,
  ix_e 46 (.iinc 1 (1)) 3 1 0 0 0 1,
  ix_e 49 (.goto (-47)) 3 2 0 0 0 0,
  ix_e 52 (.iconst (-1)) 1 0 0 0 0 (-1),
  ix_e 53 .ireturn 1 0 0 0 0 0]
/-- VotedBankModel.lastLand ()I -/
def ix_t214 : List ix_E := [ix_e 0 (.aload_n (0)) 1 0 0 0 0 0,
  ix_e 1 (.invokevirtual (326)) 3 196 1 1 11 0,
  ix_e 4 (.ifCond .ne (5)) 3 9 0 0 0 0,
  ix_e 7 (.iconst (-1)) 1 0 0 0 0 (-1),
  ix_e 8 .ireturn 1 0 0 0 0 0,
  ix_e 9 (.bipush (62)) 2 0 0 0 0 62,
  ix_e 11 (.istore_n (1)) 1 1 0 0 0 0,
  ix_c 12 (.aload_n (0)) 1 [true, true, false] 0 0 0 0 0,
  ix_e 13 (.iload_n (1)) 1 1 0 0 0 0,
  ix_e 14 (.invokevirtual (307)) 3 210 2 1 11 0,
  ix_e 17 (.iconst (1)) 1 0 0 0 0 1,
  ix_e 18 (.if_icmp .le (18)) 3 36 0 0 0 0,
  ix_e 21 (.iload_n (1)) 1 1 0 0 0 0,
  ix_e 22 (.iconst (1)) 1 0 0 0 0 1,
  ix_e 23 (.aload_n (0)) 1 0 0 0 0 0,
  ix_e 24 (.iload_n (1)) 1 1 0 0 0 0,
  ix_e 25 (.invokevirtual (415)) 3 246 2 1 11 0,
  ix_e 28 .ishl 1 0 0 0 0 0,
  ix_e 29 (.iconst (-1)) 1 0 0 0 0 (-1),
  ix_e 30 .ixor 1 0 0 0 0 0,
  ix_e 31 .iand 1 0 0 0 0 0,
  ix_e 32 (.istore_n (1)) 1 1 0 0 0 0,
  ix_e 33 (.goto (-21)) 3 12 0 0 0 0,
  ix_e 36 (.iconst (1)) 1 0 0 0 0 1,
  ix_e 37 (.istore_n (2)) 1 2 0 0 0 0,
  ix_c 38 (.aload_n (0)) 1 [true, true, true] 0 0 0 0 0,
  ix_e 39 (.iload_n (1)) 1 1 0 0 0 0,
  ix_e 40 (.iload_n (2)) 1 2 0 0 0 0,
  ix_e 41 (.invokevirtual (255)) 3 197 3 1 11 0,
  ix_e 44 (.ifCond .ne (10)) 3 54 0 0 0 0,
  ix_e 47 (.iload_n (2)) 1 2 0 0 0 0,
  ix_e 48 (.iconst (1)) 1 0 0 0 0 1,
  ix_e 49 .iadd 1 0 0 0 0 0,
  ix_e 50 (.istore_n (2)) 1 2 0 0 0 0,
  ix_e 51 (.goto (-13)) 3 38 0 0 0 0,
  ix_e 54 (.iload_n (2)) 1 2 0 0 0 0,
  ix_e 55 .ireturn 1 0 0 0 0 0]
/-- VotedBankModel.pointsOf (I)I -/
def ix_t215 : List ix_E := [ix_e 0 (.iconst (0)) 1 0 0 0 0 0,
  ix_e 1 (.istore_n (2)) 1 2 0 0 0 0,
  ix_e 2 (.iconst (0)) 1 0 0 0 0 0,
  ix_e 3 (.istore_n (3)) 1 3 0 0 0 0,
  ix_c 4 (.iload_n (3)) 1 [true, true, true, true] 3 0 0 0 0,
  ix_e 5 (.aload_n (0)) 1 0 0 0 0 0,
  ix_e 6 (.getfield (125)) 3 11 7 0 0 0,
  ix_e 9 (.if_icmp .ge (47)) 3 56 0 0 0 0,
  ix_e 12 (.aload_n (0)) 1 0 0 0 0 0,
  ix_e 13 (.getfield (7)) 3 11 1 2 0 0,
  ix_e 16 (.bipush (18)) 2 0 0 0 0 18,
  ix_e 18 (.iload_n (3)) 1 3 0 0 0 0,
  ix_e 19 .iadd 1 0 0 0 0 0,
  ix_e 20 .iaload 1 0 0 0 0 0,
  ix_e 21 (.ifCond .ne (29)) 3 50 0 0 0 0,
  ix_e 24 (.iload_n (2)) 1 2 0 0 0 0,
  ix_e 25 (.aload_n (0)) 1 0 0 0 0 0,
  ix_e 26 (.getfield (83)) 3 11 45 2 0 0,
  ix_e 29 (.iload_n (3)) 1 3 0 0 0 0,
  ix_e 30 .iaload 1 0 0 0 0 0,
  ix_e 31 (.iconst (4)) 1 0 0 0 0 4,
  ix_e 32 (.aload_n (0)) 1 0 0 0 0 0,
  ix_e 33 (.aload_n (0)) 1 0 0 0 0 0,
  ix_e 34 (.getfield (7)) 3 11 1 2 0 0,
  ix_e 37 (.bipush (6)) 2 0 0 0 0 6,
  ix_e 39 (.iload_n (3)) 1 3 0 0 0 0,
  ix_e 40 .iadd 1 0 0 0 0 0,
  ix_e 41 .iaload 1 0 0 0 0 0,
  ix_e 42 (.iload_n (1)) 1 1 0 0 0 0,
  ix_e 43 (.invokevirtual (119)) 3 247 3 1 11 0,
  ix_e 46 .isub 1 0 0 0 0 0,
  ix_e 47 .imul 1 0 0 0 0 0,
  ix_e 48 .iadd 1 0 0 0 0 0,
  ix_e 49 (.istore_n (2)) 1 2 0 0 0 0,
  ix_e 50 (.iinc 3 (1)) 3 3 0 0 0 1,
  ix_e 53 (.goto (-49)) 3 4 0 0 0 0,
  ix_e 56 (.iload_n (2)) 1 2 0 0 0 0,
  ix_e 57 .ireturn 1 0 0 0 0 0]
/-- VotedBankModel.putFor (I)I -/
def ix_t216 : List ix_E := [ix_e 0 (.iconst (1)) 1 0 0 0 0 1,
  ix_e 1 (.istore_n (2)) 1 2 0 0 0 0,
  ix_c 2 (.iload_n (2)) 1 [true, true, true, false] 2 0 0 0 0,
  ix_e 3 (.bipush (6)) 2 0 0 0 0 6,
  ix_e 5 (.if_icmp .ge (45)) 3 50 0 0 0 0,
  ix_e 8 (.iconst (1)) 1 0 0 0 0 1,
  ix_e 9 (.istore_n (3)) 1 3 0 0 0 0,
  ix_c 10 (.iload_n (3)) 1 [true, true, true, true] 3 0 0 0 0,
  ix_e 11 (.bipush (6)) 2 0 0 0 0 6,
  ix_e 13 (.if_icmp .ge (31)) 3 44 0 0 0 0,
  ix_e 16 (.iload_n (2)) 1 2 0 0 0 0,
  ix_e 17 (.iload_n (3)) 1 3 0 0 0 0,
  ix_e 18 (.if_icmp .eq (20)) 3 38 0 0 0 0,
  ix_e 21 (.aload_n (0)) 1 0 0 0 0 0,
  ix_e 22 (.getfield (86)) 3 11 46 2 0 0,
  ix_e 25 (.bipush (6)) 2 0 0 0 0 6,
  ix_e 27 (.iload_n (2)) 1 2 0 0 0 0,
  ix_e 28 .imul 1 0 0 0 0 0,
  ix_e 29 (.iload_n (3)) 1 3 0 0 0 0,
  ix_e 30 .iadd 1 0 0 0 0 0,
  ix_e 31 (.aload_n (0)) 1 0 0 0 0 0,
  ix_e 32 (.iload_n (2)) 1 2 0 0 0 0,
  ix_e 33 (.iload_n (3)) 1 3 0 0 0 0,
  ix_e 34 (.invokevirtual (409)) 3 212 3 1 11 0,
  ix_e 37 .iastore 1 0 0 0 0 0,
  ix_e 38 (.iinc 3 (1)) 3 3 0 0 0 1,
  ix_e 41 (.goto (-31)) 3 10 0 0 0 0,
  ix_e 44 (.iinc 2 (1)) 3 2 0 0 0 1,
  ix_e 47 (.goto (-45)) 3 2 0 0 0 0,
  ix_e 50 (.sipush (12345)) 3 0 0 0 0 12345,
  ix_e 53 (.istore_n (2)) 1 2 0 0 0 0,
  ix_c 54 (.iload_n (2)) 1 [true, true, true, false] 2 0 0 0 0,
  ix_e 55 (.ldc (114)) 2 0 0 0 0 54321,
  ix_e 57 (.if_icmp .gt (30)) 3 87 0 0 0 0,
  ix_e 60 (.aload_n (0)) 1 0 0 0 0 0,
  ix_e 61 (.iload_n (2)) 1 2 0 0 0 0,
  ix_e 62 (.invokevirtual (132)) 3 188 2 1 11 0,
  ix_e 65 (.ifCond .eq (14)) 3 79 0 0 0 0,
  ix_e 68 (.aload_n (0)) 1 0 0 0 0 0,
  ix_e 69 (.iload_n (2)) 1 2 0 0 0 0,
  ix_e 70 (.invokevirtual (418)) 3 248 2 1 11 0,
  ix_e 73 (.iload_n (1)) 1 1 0 0 0 0,
  ix_e 74 (.if_icmp .ne (5)) 3 79 0 0 0 0,
  ix_e 77 (.iload_n (2)) 1 2 0 0 0 0,
  ix_e 78 .ireturn 1 0 0 0 0 0,
  ix_e 79 (.iload_n (2)) 1 2 0 0 0 0,
  ix_e 80 (.bipush (9)) 2 0 0 0 0 9,
  ix_e 82 .iadd 1 0 0 0 0 0,
  ix_e 83 (.istore_n (2)) 1 2 0 0 0 0,
  ix_e 84 (.goto (-30)) 3 54 0 0 0 0,
  ix_e 87 (.iconst (-1)) 1 0 0 0 0 (-1),
  ix_e 88 .ireturn 1 0 0 0 0 0]
/-- VotedBankModel.boatsBy (I)I -/
def ix_t217 : List ix_E := [ix_e 0 (.iconst (0)) 1 0 0 0 0 0,
  ix_e 1 (.istore_n (2)) 1 2 0 0 0 0,
  ix_e 2 (.iconst (1)) 1 0 0 0 0 1,
  ix_e 3 (.istore_n (3)) 1 3 0 0 0 0,
  ix_c 4 (.iload_n (3)) 1 [true, true, true, true, false, false] 3 0 0 0 0,
  ix_e 5 (.bipush (6)) 2 0 0 0 0 6,
  ix_e 7 (.if_icmp .ge (70)) 3 77 0 0 0 0,
  ix_e 10 (.iconst (0)) 1 0 0 0 0 0,
  ix_e 11 (.istore (4)) 2 4 0 0 0 0,
  ix_e 13 (.iconst (0)) 1 0 0 0 0 0,
  ix_e 14 (.istore (5)) 2 5 0 0 0 0,
  ix_c 16 (.iload (5)) 2 [true, true, true, true, true, true] 5 0 0 0 0,
  ix_e 18 (.aload_n (0)) 1 0 0 0 0 0,
  ix_e 19 (.getfield (125)) 3 11 7 0 0 0,
  ix_e 22 (.if_icmp .ge (38)) 3 60 0 0 0 0,
  ix_e 25 (.aload_n (0)) 1 0 0 0 0 0,
  ix_e 26 (.getfield (7)) 3 11 1 2 0 0,
  ix_e 29 (.bipush (18)) 2 0 0 0 0 18,
  ix_e 31 (.iload (5)) 2 5 0 0 0 0,
  ix_e 33 .iadd 1 0 0 0 0 0,
  ix_e 34 .iaload 1 0 0 0 0 0,
  ix_e 35 (.ifCond .ne (19)) 3 54 0 0 0 0,
  ix_e 38 (.aload_n (0)) 1 0 0 0 0 0,
  ix_e 39 (.iload (5)) 2 5 0 0 0 0,
  ix_e 41 (.invokevirtual (310)) 3 243 2 1 11 0,
  ix_e 44 (.iload_n (3)) 1 3 0 0 0 0,
  ix_e 45 (.if_icmp .ne (9)) 3 54 0 0 0 0,
  ix_e 48 (.iload (4)) 2 4 0 0 0 0,
  ix_e 50 (.iconst (1)) 1 0 0 0 0 1,
  ix_e 51 .iadd 1 0 0 0 0 0,
  ix_e 52 (.istore (4)) 2 4 0 0 0 0,
  ix_e 54 (.iinc 5 (1)) 3 5 0 0 0 1,
  ix_e 57 (.goto (-41)) 3 16 0 0 0 0,
  ix_e 60 (.iload_n (2)) 1 2 0 0 0 0,
  ix_e 61 (.iload (4)) 2 4 0 0 0 0,
  ix_e 63 (.iload_n (1)) 1 1 0 0 0 0,
  ix_e 64 .iadd 1 0 0 0 0 0,
  ix_e 65 (.iconst (1)) 1 0 0 0 0 1,
  ix_e 66 .isub 1 0 0 0 0 0,
  ix_e 67 (.iload_n (1)) 1 1 0 0 0 0,
  ix_e 68 .idiv 1 0 0 0 0 0,
  ix_e 69 .iadd 1 0 0 0 0 0,
  ix_e 70 (.istore_n (2)) 1 2 0 0 0 0,
  ix_e 71 (.iinc 3 (1)) 3 3 0 0 0 1,
  ix_e 74 (.goto (-70)) 3 4 0 0 0 0,
  ix_e 77 (.iload_n (2)) 1 2 0 0 0 0,
  ix_e 78 .ireturn 1 0 0 0 0 0]
/-- VotedBankModel.crossingsBy (I)I -/
def ix_t218 : List ix_E := [ix_e 0 (.aload_n (0)) 1 0 0 0 0 0,
  ix_e 1 (.aload_n (0)) 1 0 0 0 0 0,
  ix_e 2 (.invokevirtual (326)) 3 196 1 1 11 0,
  ix_e 5 (.invokevirtual (307)) 3 210 2 1 11 0,
  ix_e 8 (.istore_n (2)) 1 2 0 0 0 0,
  ix_e 9 (.iload_n (2)) 1 2 0 0 0 0,
  ix_e 10 (.ifCond .ne (5)) 3 15 0 0 0 0,
  ix_e 13 (.iconst (0)) 1 0 0 0 0 0,
  ix_e 14 .ireturn 1 0 0 0 0 0,
  ix_e 15 (.iload_n (2)) 1 2 0 0 0 0,
  ix_e 16 (.iconst (1)) 1 0 0 0 0 1,
  ix_e 17 (.if_icmp .ne (5)) 3 22 0 0 0 0,
  ix_e 20 (.iconst (1)) 1 0 0 0 0 1,
  ix_e 21 .ireturn 1 0 0 0 0 0,
  ix_e 22 (.iload_n (1)) 1 1 0 0 0 0,
  ix_e 23 (.iconst (1)) 1 0 0 0 0 1,
  ix_e 24 (.if_icmp .ne (5)) 3 29 0 0 0 0,
  ix_e 27 (.iconst (-1)) 1 0 0 0 0 (-1),
  ix_e 28 .ireturn 1 0 0 0 0 0,
  ix_e 29 (.iload_n (2)) 1 2 0 0 0 0,
  ix_e 30 (.iconst (1)) 1 0 0 0 0 1,
  ix_e 31 .isub 1 0 0 0 0 0,
  ix_e 32 (.iload_n (1)) 1 1 0 0 0 0,
  ix_e 33 .iadd 1 0 0 0 0 0,
  ix_e 34 (.iconst (2)) 1 0 0 0 0 2,
  ix_e 35 .isub 1 0 0 0 0 0,
  ix_e 36 (.iload_n (1)) 1 1 0 0 0 0,
  ix_e 37 (.iconst (1)) 1 0 0 0 0 1,
  ix_e 38 .isub 1 0 0 0 0 0,
  ix_e 39 .idiv 1 0 0 0 0 0,
  ix_e 40 (.istore_n (3)) 1 3 0 0 0 0,
  ix_e 41 (.iconst (2)) 1 0 0 0 0 2,
  ix_e 42 (.iload_n (3)) 1 3 0 0 0 0,
  ix_e 43 .imul 1 0 0 0 0 0,
  ix_e 44 (.iconst (1)) 1 0 0 0 0 1,
  ix_e 45 .isub 1 0 0 0 0 0,
  ix_e 46 .ireturn 1 0 0 0 0 0]
/-- VotedBankModel.hearersOf (I)I -/
def ix_t219 : List ix_E := [ix_e 0 (.iconst (0)) 1 0 0 0 0 0,
  ix_e 1 (.istore_n (2)) 1 2 0 0 0 0,
  ix_e 2 (.iconst (0)) 1 0 0 0 0 0,
  ix_e 3 (.istore_n (3)) 1 3 0 0 0 0,
  ix_c 4 (.iload_n (3)) 1 [true, true, true, true] 3 0 0 0 0,
  ix_e 5 (.aload_n (0)) 1 0 0 0 0 0,
  ix_e 6 (.getfield (125)) 3 11 7 0 0 0,
  ix_e 9 (.if_icmp .ge (26)) 3 35 0 0 0 0,
  ix_e 12 (.aload_n (0)) 1 0 0 0 0 0,
  ix_e 13 (.getfield (65)) 3 11 36 2 0 0,
  ix_e 16 (.iload_n (3)) 1 3 0 0 0 0,
  ix_e 17 .iaload 1 0 0 0 0 0,
  ix_e 18 (.iload_n (1)) 1 1 0 0 0 0,
  ix_e 19 .iand 1 0 0 0 0 0,
  ix_e 20 (.ifCond .eq (9)) 3 29 0 0 0 0,
  ix_e 23 (.iload_n (2)) 1 2 0 0 0 0,
  ix_e 24 (.iconst (1)) 1 0 0 0 0 1,
  ix_e 25 (.iload_n (3)) 1 3 0 0 0 0,
  ix_e 26 .ishl 1 0 0 0 0 0,
  ix_e 27 .ior 1 0 0 0 0 0,
  ix_e 28 (.istore_n (2)) 1 2 0 0 0 0,
  ix_e 29 (.iinc 3 (1)) 3 3 0 0 0 1,
  ix_e 32 (.goto (-28)) 3 4 0 0 0 0,
  ix_e 35 (.iload_n (2)) 1 2 0 0 0 0,
  ix_e 36 .ireturn 1 0 0 0 0 0]
/-- VotedBankModel.otherwise (II)I -/
def ix_t220 : List ix_E := [ix_e 0 (.iconst (0)) 1 0 0 0 0 0,
  ix_e 1 (.istore_n (3)) 1 3 0 0 0 0,
  ix_e 2 (.iconst (1)) 1 0 0 0 0 1,
  ix_e 3 (.istore (4)) 2 4 0 0 0 0,
  ix_c 5 (.iload (4)) 2 [true, true, true, true, true, false] 4 0 0 0 0,
  ix_e 7 (.bipush (6)) 2 0 0 0 0 6,
  ix_e 9 (.if_icmp .ge (50)) 3 59 0 0 0 0,
  ix_e 12 (.iconst (1)) 1 0 0 0 0 1,
  ix_e 13 (.istore (5)) 2 5 0 0 0 0,
  ix_c 15 (.iload (5)) 2 [true, true, true, true, true, true] 5 0 0 0 0,
  ix_e 17 (.iload (4)) 2 4 0 0 0 0,
  ix_e 19 (.if_icmp .ge (34)) 3 53 0 0 0 0,
  ix_e 22 (.aload_n (0)) 1 0 0 0 0 0,
  ix_e 23 (.iload_n (1)) 1 1 0 0 0 0,
  ix_e 24 (.iload (4)) 2 4 0 0 0 0,
  ix_e 26 (.iload (5)) 2 5 0 0 0 0,
  ix_e 28 (.invokevirtual (122)) 3 245 4 1 11 0,
  ix_e 31 (.aload_n (0)) 1 0 0 0 0 0,
  ix_e 32 (.iload_n (2)) 1 2 0 0 0 0,
  ix_e 33 (.iload (4)) 2 4 0 0 0 0,
  ix_e 35 (.iload (5)) 2 5 0 0 0 0,
  ix_e 37 (.invokevirtual (122)) 3 245 4 1 11 0,
  ix_e 40 (.if_icmp .eq (7)) 3 47 0 0 0 0,
  ix_e 43 (.iload_n (3)) 1 3 0 0 0 0,
  ix_e 44 (.iconst (1)) 1 0 0 0 0 1,
  ix_e 45 .iadd 1 0 0 0 0 0,
  ix_e 46 (.istore_n (3)) 1 3 0 0 0 0,
  ix_e 47 (.iinc 5 (1)) 3 5 0 0 0 1,
  ix_e 50 (.goto (-35)) 3 15 0 0 0 0,
  ix_e 53 (.iinc 4 (1)) 3 4 0 0 0 1,
  ix_e 56 (.goto (-51)) 3 5 0 0 0 0,
  ix_e 59 (.iload_n (3)) 1 3 0 0 0 0,
  ix_e 60 .ireturn 1 0 0 0 0 0]
/-- VotedBankModel.lesser (II)I -/
def ix_t221 : List ix_E := [ix_e 0 (.iload_n (1)) 1 1 0 0 0 0,
  ix_e 1 (.iload_n (2)) 1 2 0 0 0 0,
  ix_e 2 (.if_icmp .ge (7)) 3 9 0 0 0 0,
  ix_e 5 (.iload_n (1)) 1 1 0 0 0 0,
  ix_e 6 (.goto (4)) 3 10 0 0 0 0,
  ix_e 9 (.iload_n (2)) 1 2 0 0 0 0,
  ix_e 10 .ireturn 1 0 0 0 0 0]
/-- VotedBankModel.otherwiseAll (I)I -/
def ix_t222 : List ix_E := [ix_e 0 (.iconst (0)) 1 0 0 0 0 0,
  ix_e 1 (.istore_n (2)) 1 2 0 0 0 0,
  ix_e 2 (.iconst (0)) 1 0 0 0 0 0,
  ix_e 3 (.istore_n (3)) 1 3 0 0 0 0,
  ix_c 4 (.iload_n (3)) 1 [true, true, true, true] 3 0 0 0 0,
  ix_e 5 (.aload_n (0)) 1 0 0 0 0 0,
  ix_e 6 (.getfield (125)) 3 11 7 0 0 0,
  ix_e 9 (.if_icmp .ge (38)) 3 47 0 0 0 0,
  ix_e 12 (.aload_n (0)) 1 0 0 0 0 0,
  ix_e 13 (.getfield (7)) 3 11 1 2 0 0,
  ix_e 16 (.bipush (18)) 2 0 0 0 0 18,
  ix_e 18 (.iload_n (3)) 1 3 0 0 0 0,
  ix_e 19 .iadd 1 0 0 0 0 0,
  ix_e 20 .iaload 1 0 0 0 0 0,
  ix_e 21 (.ifCond .ne (20)) 3 41 0 0 0 0,
  ix_e 24 (.iload_n (2)) 1 2 0 0 0 0,
  ix_e 25 (.aload_n (0)) 1 0 0 0 0 0,
  ix_e 26 (.iload_n (1)) 1 1 0 0 0 0,
  ix_e 27 (.aload_n (0)) 1 0 0 0 0 0,
  ix_e 28 (.getfield (7)) 3 11 1 2 0 0,
  ix_e 31 (.bipush (6)) 2 0 0 0 0 6,
  ix_e 33 (.iload_n (3)) 1 3 0 0 0 0,
  ix_e 34 .iadd 1 0 0 0 0 0,
  ix_e 35 .iaload 1 0 0 0 0 0,
  ix_e 36 (.invokevirtual (442)) 3 220 3 1 11 0,
  ix_e 39 .iadd 1 0 0 0 0 0,
  ix_e 40 (.istore_n (2)) 1 2 0 0 0 0,
  ix_e 41 (.iinc 3 (1)) 3 3 0 0 0 1,
  ix_e 44 (.goto (-40)) 3 4 0 0 0 0,
  ix_e 47 (.iload_n (2)) 1 2 0 0 0 0,
  ix_e 48 .ireturn 1 0 0 0 0 0]
/-- VotedBankModel.canBegin (II)Z -/
def ix_t223 : List ix_E := [ix_e 0 (.iload_n (1)) 1 1 0 0 0 0,
  ix_e 1 (.istore_n (3)) 1 3 0 0 0 0,
  ix_e 2 (.iload_n (2)) 1 2 0 0 0 0,
  ix_e 3 (.istore (4)) 2 4 0 0 0 0,
  ix_e 5 (.iconst (0)) 1 0 0 0 0 0,
  ix_e 6 (.istore (5)) 2 5 0 0 0 0,
  ix_c 8 (.iload (5)) 2 [true, false, false, true, true, true] 5 0 0 0 0,
  ix_e 10 (.aload_n (0)) 1 0 0 0 0 0,
  ix_e 11 (.getfield (449)) 3 11 47 0 0 0,
  ix_e 14 (.if_icmp .ge (59)) 3 73 0 0 0 0,
  ix_e 17 (.iload (5)) 2 5 0 0 0 0,
  ix_e 19 (.ifCond .le (35)) 3 54 0 0 0 0,
  ix_e 22 (.iload (4)) 2 4 0 0 0 0,
  ix_e 24 (.iconst (1)) 1 0 0 0 0 1,
  ix_e 25 .iadd 1 0 0 0 0 0,
  ix_e 26 (.istore (4)) 2 4 0 0 0 0,
  ix_e 28 (.aload_n (0)) 1 0 0 0 0 0,
  ix_e 29 (.iload_n (3)) 1 3 0 0 0 0,
  ix_e 30 (.iload (4)) 2 4 0 0 0 0,
  ix_e 32 (.invokevirtual (379)) 3 232 3 1 11 0,
  ix_e 35 (.ifCond .eq (19)) 3 54 0 0 0 0,
  ix_e 38 (.aload_n (0)) 1 0 0 0 0 0,
  ix_e 39 (.getfield (71)) 3 11 40 2 0 0,
  ix_e 42 (.aload_n (0)) 1 0 0 0 0 0,
  ix_e 43 (.iload_n (3)) 1 3 0 0 0 0,
  ix_e 44 (.invokevirtual (370)) 3 205 2 1 11 0,
  ix_e 47 (.iconst (2)) 1 0 0 0 0 2,
  ix_e 48 .iadd 1 0 0 0 0 0,
  ix_e 49 .iaload 1 0 0 0 0 0,
  ix_e 50 (.istore_n (3)) 1 3 0 0 0 0,
  ix_e 51 (.iconst (0)) 1 0 0 0 0 0,
  ix_e 52 (.istore (4)) 2 4 0 0 0 0,
  ix_e 54 (.iload_n (3)) 1 3 0 0 0 0,
  ix_e 55 (.aload_n (0)) 1 0 0 0 0 0,
  ix_e 56 (.getfield (89)) 3 11 48 2 0 0,
  ix_e 59 (.iload (5)) 2 5 0 0 0 0,
  ix_e 61 .iaload 1 0 0 0 0 0,
  ix_e 62 (.if_icmp .eq (5)) 3 67 0 0 0 0,
  ix_e 65 (.iconst (0)) 1 0 0 0 0 0,
  ix_e 66 .ireturn 1 1 0 0 0 0,
  ix_e 67 (.iinc 5 (1)) 3 5 0 0 0 1,
  ix_e 70 (.goto (-62)) 3 8 0 0 0 0,
  ix_e 73 (.iconst (1)) 1 0 0 0 0 1,
  ix_e 74 .ireturn 1 1 0 0 0 0]
/-- VotedBankModel.bribesOf (I)I -/
def ix_t224 : List ix_E := [ix_e 0 (.iconst (0)) 1 0 0 0 0 0,
  ix_e 1 (.istore_n (2)) 1 2 0 0 0 0,
  ix_e 2 (.iconst (0)) 1 0 0 0 0 0,
  ix_e 3 (.istore_n (3)) 1 3 0 0 0 0,
  ix_c 4 (.iload_n (3)) 1 [true, true, true, true] 3 0 0 0 0,
  ix_e 5 (.aload_n (0)) 1 0 0 0 0 0,
  ix_e 6 (.getfield (125)) 3 11 7 0 0 0,
  ix_e 9 (.if_icmp .ge (29)) 3 38 0 0 0 0,
  ix_e 12 (.aload_n (0)) 1 0 0 0 0 0,
  ix_e 13 (.iload_n (1)) 1 1 0 0 0 0,
  ix_e 14 (.iload_n (3)) 1 3 0 0 0 0,
  ix_e 15 (.invokevirtual (255)) 3 197 3 1 11 0,
  ix_e 18 (.ifCond .eq (14)) 3 32 0 0 0 0,
  ix_e 21 (.iload_n (2)) 1 2 0 0 0 0,
  ix_e 22 (.aload_n (0)) 1 0 0 0 0 0,
  ix_e 23 (.getfield (92)) 3 11 49 2 0 0,
  ix_e 26 (.iload_n (3)) 1 3 0 0 0 0,
  ix_e 27 .iaload 1 0 0 0 0 0,
  ix_e 28 .iadd 1 0 0 0 0 0,
  ix_e 29 (.iconst (1)) 1 0 0 0 0 1,
  ix_e 30 .iadd 1 0 0 0 0 0,
  ix_e 31 (.istore_n (2)) 1 2 0 0 0 0,
  ix_e 32 (.iinc 3 (1)) 3 3 0 0 0 1,
  ix_e 35 (.goto (-31)) 3 4 0 0 0 0,
  ix_e 38 (.iload_n (2)) 1 2 0 0 0 0,
  ix_e 39 .ireturn 1 0 0 0 0 0]
/-- VotedBankModel.nimber (I)I -/
def ix_t225 : List ix_E := [ix_e 0 (.iload_n (1)) 1 1 0 0 0 0,
  ix_e 1 (.ifCond .ne (7)) 3 8 0 0 0 0,
  ix_e 4 (.iconst (0)) 1 0 0 0 0 0,
  ix_e 5 (.goto (8)) 3 13 0 0 0 0,
  ix_e 8 (.iconst (2)) 1 0 0 0 0 2,
  ix_e 9 (.iload_n (1)) 1 1 0 0 0 0,
  ix_e 10 (.iconst (2)) 1 0 0 0 0 2,
  ix_e 11 .irem 1 0 0 0 0 0,
  ix_e 12 .isub 1 0 0 0 0 0,
  ix_e 13 .ireturn 1 0 0 0 0 0]
/-- VotedBankModel.keeps (I)I -/
def ix_t226 : List ix_E := [ix_e 0 (.aload_n (0)) 1 0 0 0 0 0,
  ix_e 1 (.aload_n (0)) 1 0 0 0 0 0,
  ix_e 2 (.getfield (461)) 3 11 52 0 0 0,
  ix_e 5 (.iconst (1)) 1 0 0 0 0 1,
  ix_e 6 .iadd 1 0 0 0 0 0,
  ix_e 7 (.putfield (461)) 3 11 52 0 0 0,
  ix_e 10 (.aload_n (0)) 1 0 0 0 0 0,
  ix_e 11 (.getfield (464)) 3 11 50 1 0 0,
  ix_e 14 (.ifCond .ne (15)) 3 29 0 0 0 0,
  ix_e 17 (.aload_n (0)) 1 0 0 0 0 0,
  ix_e 18 (.getfield (95)) 3 11 53 2 0 0,
  ix_e 21 (.aload_n (0)) 1 0 0 0 0 0,
  ix_e 22 (.getfield (461)) 3 11 52 0 0 0,
  ix_e 25 (.iconst (1)) 1 0 0 0 0 1,
  ix_e 26 .isub 1 0 0 0 0 0,
  ix_e 27 .iaload 1 0 0 0 0 0,
  ix_e 28 .ireturn 1 0 0 0 0 0,
  ix_e 29 (.aload_n (0)) 1 0 0 0 0 0,
  ix_e 30 (.getfield (95)) 3 11 53 2 0 0,
  ix_e 33 (.aload_n (0)) 1 0 0 0 0 0,
  ix_e 34 (.getfield (461)) 3 11 52 0 0 0,
  ix_e 37 (.iconst (1)) 1 0 0 0 0 1,
  ix_e 38 .isub 1 0 0 0 0 0,
  ix_e 39 (.iload_n (1)) 1 1 0 0 0 0,
  ix_e 40 .iastore 1 0 0 0 0 0,
  ix_e 41 (.iload_n (1)) 1 1 0 0 0 0,
  ix_e 42 .ireturn 1 0 0 0 0 0]
/-- VotedBankModel.keepsTold ()V -/
def ix_t227 : List ix_E := [ix_e 0 (.aload_n (0)) 1 0 0 0 0 0,
  ix_e 1 (.aload_n (0)) 1 0 0 0 0 0,
  ix_e 2 (.aload_n (0)) 1 0 0 0 0 0,
  ix_e 3 (.getfield (142)) 3 11 6 0 0 0,
  ix_e 6 (.invokevirtual (467)) 3 226 2 1 11 0,
  ix_e 9 (.putfield (142)) 3 11 6 0 0 0,
  ix_e 12 (.aload_n (0)) 1 0 0 0 0 0,
  ix_e 13 (.aload_n (0)) 1 0 0 0 0 0,
  ix_e 14 (.aload_n (0)) 1 0 0 0 0 0,
  ix_e 15 (.getfield (125)) 3 11 7 0 0 0,
  ix_e 18 (.invokevirtual (467)) 3 226 2 1 11 0,
  ix_e 21 (.putfield (125)) 3 11 7 0 0 0,
  ix_e 24 (.aload_n (0)) 1 0 0 0 0 0,
  ix_e 25 (.aload_n (0)) 1 0 0 0 0 0,
  ix_e 26 (.aload_n (0)) 1 0 0 0 0 0,
  ix_e 27 (.getfield (283)) 3 11 35 0 0 0,
  ix_e 30 (.invokevirtual (467)) 3 226 2 1 11 0,
  ix_e 33 (.putfield (283)) 3 11 35 0 0 0,
  ix_e 36 (.aload_n (0)) 1 0 0 0 0 0,
  ix_e 37 (.aload_n (0)) 1 0 0 0 0 0,
  ix_e 38 (.aload_n (0)) 1 0 0 0 0 0,
  ix_e 39 (.getfield (286)) 3 11 37 0 0 0,
  ix_e 42 (.invokevirtual (467)) 3 226 2 1 11 0,
  ix_e 45 (.putfield (286)) 3 11 37 0 0 0,
  ix_e 48 (.aload_n (0)) 1 0 0 0 0 0,
  ix_e 49 (.aload_n (0)) 1 0 0 0 0 0,
  ix_e 50 (.aload_n (0)) 1 0 0 0 0 0,
  ix_e 51 (.getfield (280)) 3 11 39 0 0 0,
  ix_e 54 (.invokevirtual (467)) 3 226 2 1 11 0,
  ix_e 57 (.putfield (280)) 3 11 39 0 0 0,
  ix_e 60 (.aload_n (0)) 1 0 0 0 0 0,
  ix_e 61 (.aload_n (0)) 1 0 0 0 0 0,
  ix_e 62 (.aload_n (0)) 1 0 0 0 0 0,
  ix_e 63 (.getfield (449)) 3 11 47 0 0 0,
  ix_e 66 (.invokevirtual (467)) 3 226 2 1 11 0,
  ix_e 69 (.putfield (449)) 3 11 47 0 0 0,
  ix_e 72 (.iconst (0)) 1 0 0 0 0 0,
  ix_e 73 (.istore_n (1)) 1 1 0 0 0 0,
  ix_c 74 (.iload_n (1)) 1 [true, true] 1 0 0 0 0,
  ix_e 75 (.bipush (12)) 2 0 0 0 0 12,
  ix_e 77 (.if_icmp .ge (89)) 3 166 0 0 0 0,
  ix_e 80 (.aload_n (0)) 1 0 0 0 0 0,
  ix_e 81 (.getfield (19)) 3 11 8 2 0 0,
  ix_e 84 (.iload_n (1)) 1 1 0 0 0 0,
  ix_e 85 (.aload_n (0)) 1 0 0 0 0 0,
  ix_e 86 (.aload_n (0)) 1 0 0 0 0 0,
  ix_e 87 (.getfield (19)) 3 11 8 2 0 0,
  ix_e 90 (.iload_n (1)) 1 1 0 0 0 0,
  ix_e 91 .iaload 1 0 0 0 0 0,
  ix_e 92 (.invokevirtual (467)) 3 226 2 1 11 0,
  ix_e 95 .iastore 1 0 0 0 0 0,
  ix_e 96 (.aload_n (0)) 1 0 0 0 0 0,
  ix_e 97 (.getfield (22)) 3 11 9 2 0 0,
  ix_e 100 (.iload_n (1)) 1 1 0 0 0 0,
  ix_e 101 (.aload_n (0)) 1 0 0 0 0 0,
  ix_e 102 (.aload_n (0)) 1 0 0 0 0 0,
  ix_e 103 (.getfield (22)) 3 11 9 2 0 0,
  ix_e 106 (.iload_n (1)) 1 1 0 0 0 0,
  ix_e 107 .iaload 1 0 0 0 0 0,
  ix_e 108 (.invokevirtual (467)) 3 226 2 1 11 0,
  ix_e 111 .iastore 1 0 0 0 0 0,
  ix_e 112 (.aload_n (0)) 1 0 0 0 0 0,
  ix_e 113 (.getfield (25)) 3 11 10 2 0 0,
  ix_e 116 (.iload_n (1)) 1 1 0 0 0 0,
  ix_e 117 (.aload_n (0)) 1 0 0 0 0 0,
  ix_e 118 (.aload_n (0)) 1 0 0 0 0 0,
  ix_e 119 (.getfield (25)) 3 11 10 2 0 0,
  ix_e 122 (.iload_n (1)) 1 1 0 0 0 0,
  ix_e 123 .iaload 1 0 0 0 0 0,
  ix_e 124 (.invokevirtual (467)) 3 226 2 1 11 0,
  ix_e 127 .iastore 1 0 0 0 0 0,
  ix_e 128 (.aload_n (0)) 1 0 0 0 0 0,
  ix_e 129 (.getfield (65)) 3 11 36 2 0 0,
  ix_e 132 (.iload_n (1)) 1 1 0 0 0 0,
  ix_e 133 (.aload_n (0)) 1 0 0 0 0 0,
  ix_e 134 (.aload_n (0)) 1 0 0 0 0 0,
  ix_e 135 (.getfield (65)) 3 11 36 2 0 0,
  ix_e 138 (.iload_n (1)) 1 1 0 0 0 0,
  ix_e 139 .iaload 1 0 0 0 0 0,
  ix_e 140 (.invokevirtual (467)) 3 226 2 1 11 0,
  ix_e 143 .iastore 1 0 0 0 0 0,
  ix_e 144 (.aload_n (0)) 1 0 0 0 0 0,
  ix_e 145 (.getfield (92)) 3 11 49 2 0 0,
  ix_e 148 (.iload_n (1)) 1 1 0 0 0 0,
  ix_e 149 (.aload_n (0)) 1 0 0 0 0 0,
  ix_e 150 (.aload_n (0)) 1 0 0 0 0 0,
  ix_e 151 (.getfield (92)) 3 11 49 2 0 0,
  ix_e 154 (.iload_n (1)) 1 1 0 0 0 0,
  ix_e 155 .iaload 1 0 0 0 0 0,
  ix_e 156 (.invokevirtual (467)) 3 226 2 1 11 0,
  ix_e 159 .iastore 1 0 0 0 0 0,
  ix_e 160 (.iinc 1 (1)) 3 1 0 0 0 1,
  ix_e 163 (.goto (-89)) 3 74 0 0 0 0,
  ix_e 166 (.iconst (0)) 1 0 0 0 0 0,
  ix_e 167 (.istore_n (1)) 1 1 0 0 0 0,
  ix_c 168 (.iload_n (1)) 1 [true, true] 1 0 0 0 0,
  ix_e 169 (.bipush (20)) 2 0 0 0 0 20,
  ix_e 171 (.if_icmp .ge (25)) 3 196 0 0 0 0,
  ix_e 174 (.aload_n (0)) 1 0 0 0 0 0,
  ix_e 175 (.getfield (89)) 3 11 48 2 0 0,
  ix_e 178 (.iload_n (1)) 1 1 0 0 0 0,
  ix_e 179 (.aload_n (0)) 1 0 0 0 0 0,
  ix_e 180 (.aload_n (0)) 1 0 0 0 0 0,
  ix_e 181 (.getfield (89)) 3 11 48 2 0 0,
  ix_e 184 (.iload_n (1)) 1 1 0 0 0 0,
  ix_e 185 .iaload 1 0 0 0 0 0,
  ix_e 186 (.invokevirtual (467)) 3 226 2 1 11 0,
  ix_e 189 .iastore 1 0 0 0 0 0,
  ix_e 190 (.iinc 1 (1)) 3 1 0 0 0 1,
  ix_e 193 (.goto (-25)) 3 168 0 0 0 0,
  ix_e 196 (.iconst (0)) 1 0 0 0 0 0,
  ix_e 197 (.istore_n (1)) 1 1 0 0 0 0,
  ix_c 198 (.iload_n (1)) 1 [true, true] 1 0 0 0 0,
  ix_e 199 (.bipush (32)) 2 0 0 0 0 32,
  ix_e 201 (.if_icmp .ge (25)) 3 226 0 0 0 0,
  ix_e 204 (.aload_n (0)) 1 0 0 0 0 0,
  ix_e 205 (.getfield (68)) 3 11 38 2 0 0,
  ix_e 208 (.iload_n (1)) 1 1 0 0 0 0,
  ix_e 209 (.aload_n (0)) 1 0 0 0 0 0,
  ix_e 210 (.aload_n (0)) 1 0 0 0 0 0,
  ix_e 211 (.getfield (68)) 3 11 38 2 0 0,
  ix_e 214 (.iload_n (1)) 1 1 0 0 0 0,
  ix_e 215 .iaload 1 0 0 0 0 0,
  ix_e 216 (.invokevirtual (467)) 3 226 2 1 11 0,
  ix_e 219 .iastore 1 0 0 0 0 0,
  ix_e 220 (.iinc 1 (1)) 3 1 0 0 0 1,
  ix_e 223 (.goto (-25)) 3 198 0 0 0 0,
  ix_e 226 (.iconst (0)) 1 0 0 0 0 0,
  ix_e 227 (.istore_n (1)) 1 1 0 0 0 0,
  ix_c 228 (.iload_n (1)) 1 [true, true] 1 0 0 0 0,
  ix_e 229 (.bipush (48)) 2 0 0 0 0 48,
  ix_e 231 (.if_icmp .ge (25)) 3 256 0 0 0 0,
  ix_e 234 (.aload_n (0)) 1 0 0 0 0 0,
  ix_e 235 (.getfield (71)) 3 11 40 2 0 0,
  ix_e 238 (.iload_n (1)) 1 1 0 0 0 0,
  ix_e 239 (.aload_n (0)) 1 0 0 0 0 0,
  ix_e 240 (.aload_n (0)) 1 0 0 0 0 0,
  ix_e 241 (.getfield (71)) 3 11 40 2 0 0,
  ix_e 244 (.iload_n (1)) 1 1 0 0 0 0,
  ix_e 245 .iaload 1 0 0 0 0 0,
  ix_e 246 (.invokevirtual (467)) 3 226 2 1 11 0,
  ix_e 249 .iastore 1 0 0 0 0 0,
  ix_e 250 (.iinc 1 (1)) 3 1 0 0 0 1,
  ix_e 253 (.goto (-25)) 3 228 0 0 0 0,
  ix_e 256 .return_ 1 0 0 0 0 0]
/-- VotedBankModel.keepsLaw ()V -/
def ix_t228 : List ix_E := [ix_e 0 (.aload_n (0)) 1 0 0 0 0 0,
  ix_e 1 (.getfield (37)) 3 11 19 2 0 0,
  ix_e 4 (.iconst (0)) 1 0 0 0 0 0,
  ix_e 5 (.aload_n (0)) 1 0 0 0 0 0,
  ix_e 6 (.aload_n (0)) 1 0 0 0 0 0,
  ix_e 7 (.getfield (37)) 3 11 19 2 0 0,
  ix_e 10 (.iconst (0)) 1 0 0 0 0 0,
  ix_e 11 .iaload 1 0 0 0 0 0,
  ix_e 12 (.invokevirtual (467)) 3 226 2 1 11 0,
  ix_e 15 .iastore 1 0 0 0 0 0,
  ix_e 16 (.iconst (0)) 1 0 0 0 0 0,
  ix_e 17 (.istore_n (1)) 1 1 0 0 0 0,
  ix_c 18 (.iload_n (1)) 1 [true, true] 1 0 0 0 0,
  ix_e 19 (.bipush (16)) 2 0 0 0 0 16,
  ix_e 21 (.if_icmp .ge (73)) 3 94 0 0 0 0,
  ix_e 24 (.aload_n (0)) 1 0 0 0 0 0,
  ix_e 25 (.getfield (40)) 3 11 20 2 0 0,
  ix_e 28 (.iload_n (1)) 1 1 0 0 0 0,
  ix_e 29 (.aload_n (0)) 1 0 0 0 0 0,
  ix_e 30 (.aload_n (0)) 1 0 0 0 0 0,
  ix_e 31 (.getfield (40)) 3 11 20 2 0 0,
  ix_e 34 (.iload_n (1)) 1 1 0 0 0 0,
  ix_e 35 .iaload 1 0 0 0 0 0,
  ix_e 36 (.invokevirtual (467)) 3 226 2 1 11 0,
  ix_e 39 .iastore 1 0 0 0 0 0,
  ix_e 40 (.aload_n (0)) 1 0 0 0 0 0,
  ix_e 41 (.getfield (43)) 3 11 21 2 0 0,
  ix_e 44 (.iload_n (1)) 1 1 0 0 0 0,
  ix_e 45 (.aload_n (0)) 1 0 0 0 0 0,
  ix_e 46 (.aload_n (0)) 1 0 0 0 0 0,
  ix_e 47 (.getfield (43)) 3 11 21 2 0 0,
  ix_e 50 (.iload_n (1)) 1 1 0 0 0 0,
  ix_e 51 .iaload 1 0 0 0 0 0,
  ix_e 52 (.invokevirtual (467)) 3 226 2 1 11 0,
  ix_e 55 .iastore 1 0 0 0 0 0,
  ix_e 56 (.aload_n (0)) 1 0 0 0 0 0,
  ix_e 57 (.getfield (46)) 3 11 22 2 0 0,
  ix_e 60 (.iload_n (1)) 1 1 0 0 0 0,
  ix_e 61 (.aload_n (0)) 1 0 0 0 0 0,
  ix_e 62 (.aload_n (0)) 1 0 0 0 0 0,
  ix_e 63 (.getfield (46)) 3 11 22 2 0 0,
  ix_e 66 (.iload_n (1)) 1 1 0 0 0 0,
  ix_e 67 .iaload 1 0 0 0 0 0,
  ix_e 68 (.invokevirtual (467)) 3 226 2 1 11 0,
  ix_e 71 .iastore 1 0 0 0 0 0,
  ix_e 72 (.aload_n (0)) 1 0 0 0 0 0,
  ix_e 73 (.getfield (49)) 3 11 23 2 0 0,
  ix_e 76 (.iload_n (1)) 1 1 0 0 0 0,
  ix_e 77 (.aload_n (0)) 1 0 0 0 0 0,
  ix_e 78 (.aload_n (0)) 1 0 0 0 0 0,
  ix_e 79 (.getfield (49)) 3 11 23 2 0 0,
  ix_e 82 (.iload_n (1)) 1 1 0 0 0 0,
  ix_e 83 .iaload 1 0 0 0 0 0,
  ix_e 84 (.invokevirtual (467)) 3 226 2 1 11 0,
  ix_e 87 .iastore 1 0 0 0 0 0,
  ix_e 88 (.iinc 1 (1)) 3 1 0 0 0 1,
  ix_e 91 (.goto (-73)) 3 18 0 0 0 0,
  ix_e 94 (.iconst (0)) 1 0 0 0 0 0,
  ix_e 95 (.istore_n (1)) 1 1 0 0 0 0,
  ix_c 96 (.iload_n (1)) 1 [true, true] 1 0 0 0 0,
  ix_e 97 (.sipush (400)) 3 0 0 0 0 400,
  ix_e 100 (.if_icmp .ge (41)) 3 141 0 0 0 0,
  ix_e 103 (.aload_n (0)) 1 0 0 0 0 0,
  ix_e 104 (.getfield (52)) 3 11 24 2 0 0,
  ix_e 107 (.iload_n (1)) 1 1 0 0 0 0,
  ix_e 108 (.aload_n (0)) 1 0 0 0 0 0,
  ix_e 109 (.aload_n (0)) 1 0 0 0 0 0,
  ix_e 110 (.getfield (52)) 3 11 24 2 0 0,
  ix_e 113 (.iload_n (1)) 1 1 0 0 0 0,
  ix_e 114 .iaload 1 0 0 0 0 0,
  ix_e 115 (.invokevirtual (467)) 3 226 2 1 11 0,
  ix_e 118 .iastore 1 0 0 0 0 0,
  ix_e 119 (.aload_n (0)) 1 0 0 0 0 0,
  ix_e 120 (.getfield (55)) 3 11 25 2 0 0,
  ix_e 123 (.iload_n (1)) 1 1 0 0 0 0,
  ix_e 124 (.aload_n (0)) 1 0 0 0 0 0,
  ix_e 125 (.aload_n (0)) 1 0 0 0 0 0,
  ix_e 126 (.getfield (55)) 3 11 25 2 0 0,
  ix_e 129 (.iload_n (1)) 1 1 0 0 0 0,
  ix_e 130 .iaload 1 0 0 0 0 0,
  ix_e 131 (.invokevirtual (467)) 3 226 2 1 11 0,
  ix_e 134 .iastore 1 0 0 0 0 0,
  ix_e 135 (.iinc 1 (1)) 3 1 0 0 0 1,
  ix_e 138 (.goto (-42)) 3 96 0 0 0 0,
  ix_e 141 .return_ 1 0 0 0 0 0]
/-- VotedBankModel.overSet ()I -/
def ix_t229 : List ix_E := [ix_e 0 (.iconst (0)) 1 0 0 0 0 0,
  ix_e 1 (.istore_n (1)) 1 1 0 0 0 0,
  ix_e 2 (.iconst (0)) 1 0 0 0 0 0,
  ix_e 3 (.istore_n (2)) 1 2 0 0 0 0,
  ix_c 4 (.iload_n (2)) 1 [true, true, true] 2 0 0 0 0,
  ix_e 5 (.aload_n (0)) 1 0 0 0 0 0,
  ix_e 6 (.getfield (125)) 3 11 7 0 0 0,
  ix_e 9 (.if_icmp .ge (28)) 3 37 0 0 0 0,
  ix_e 12 (.aload_n (0)) 1 0 0 0 0 0,
  ix_e 13 (.getfield (7)) 3 11 1 2 0 0,
  ix_e 16 (.bipush (18)) 2 0 0 0 0 18,
  ix_e 18 (.iload_n (2)) 1 2 0 0 0 0,
  ix_e 19 .iadd 1 0 0 0 0 0,
  ix_e 20 .iaload 1 0 0 0 0 0,
  ix_e 21 (.iconst (1)) 1 0 0 0 0 1,
  ix_e 22 (.if_icmp .ne (9)) 3 31 0 0 0 0,
  ix_e 25 (.iload_n (1)) 1 1 0 0 0 0,
  ix_e 26 (.iconst (1)) 1 0 0 0 0 1,
  ix_e 27 (.iload_n (2)) 1 2 0 0 0 0,
  ix_e 28 .ishl 1 0 0 0 0 0,
  ix_e 29 .ior 1 0 0 0 0 0,
  ix_e 30 (.istore_n (1)) 1 1 0 0 0 0,
  ix_e 31 (.iinc 2 (1)) 3 2 0 0 0 1,
  ix_e 34 (.goto (-30)) 3 4 0 0 0 0,
  ix_e 37 (.iload_n (1)) 1 1 0 0 0 0,
  ix_e 38 .ireturn 1 0 0 0 0 0]
/-- VotedBankModel.landAt (II)I -/
def ix_t230 : List ix_E := [ix_e 0 (.iload_n (1)) 1 1 0 0 0 0,
  ix_e 1 (.istore_n (3)) 1 3 0 0 0 0,
  ix_e 2 (.iconst (4)) 1 0 0 0 0 4,
  ix_e 3 (.istore (4)) 2 4 0 0 0 0,
  ix_c 5 (.iload (4)) 2 [false, false, true, true, true] 4 0 0 0 0,
  ix_e 7 (.iload_n (2)) 1 2 0 0 0 0,
  ix_e 8 (.if_icmp .le (14)) 3 22 0 0 0 0,
  ix_e 11 (.iload_n (3)) 1 3 0 0 0 0,
  ix_e 12 (.bipush (10)) 2 0 0 0 0 10,
  ix_e 14 .idiv 1 0 0 0 0 0,
  ix_e 15 (.istore_n (3)) 1 3 0 0 0 0,
  ix_e 16 (.iinc 4 (-1)) 3 4 0 1 0 1,
  ix_e 19 (.goto (-14)) 3 5 0 0 0 0,
  ix_e 22 (.iload_n (3)) 1 3 0 0 0 0,
  ix_e 23 (.bipush (10)) 2 0 0 0 0 10,
  ix_e 25 .irem 1 0 0 0 0 0,
  ix_e 26 .ireturn 1 0 0 0 0 0]
/-- VotedBankModel.notes (III)V -/
def ix_t231 : List ix_E := [ix_e 0 (.aload_n (0)) 1 0 0 0 0 0,
  ix_e 1 (.getfield (104)) 3 11 5 1 0 0,
  ix_e 4 (.ifCond .ne (15)) 3 19 0 0 0 0,
  ix_e 7 (.aload_n (0)) 1 0 0 0 0 0,
  ix_e 8 (.getfield (7)) 3 11 1 2 0 0,
  ix_e 11 (.iconst (2)) 1 0 0 0 0 2,
  ix_e 12 .iaload 1 0 0 0 0 0,
  ix_e 13 (.sipush (150)) 3 0 0 0 0 150,
  ix_e 16 (.if_icmp .ne (4)) 3 20 0 0 0 0,
  ix_e 19 .return_ 1 0 0 0 0 0,
  ix_e 20 (.iconst (4)) 1 0 0 0 0 4,
  ix_e 21 (.aload_n (0)) 1 0 0 0 0 0,
  ix_e 22 (.getfield (7)) 3 11 1 2 0 0,
  ix_e 25 (.iconst (2)) 1 0 0 0 0 2,
  ix_e 26 .iaload 1 0 0 0 0 0,
  ix_e 27 .imul 1 0 0 0 0 0,
  ix_e 28 (.istore (4)) 2 4 0 0 0 0,
  ix_e 30 (.aload_n (0)) 1 0 0 0 0 0,
  ix_e 31 (.getfield (28)) 3 11 11 2 0 0,
  ix_e 34 (.iload (4)) 2 4 0 0 0 0,
  ix_e 36 (.aload_n (0)) 1 0 0 0 0 0,
  ix_e 37 (.getfield (7)) 3 11 1 2 0 0,
  ix_e 40 (.iconst (5)) 1 0 0 0 0 5,
  ix_e 41 .iaload 1 0 0 0 0 0,
  ix_e 42 .iastore 1 0 0 0 0 0,
  ix_e 43 (.aload_n (0)) 1 0 0 0 0 0,
  ix_e 44 (.getfield (28)) 3 11 11 2 0 0,
  ix_e 47 (.iload (4)) 2 4 0 0 0 0,
  ix_e 49 (.iconst (1)) 1 0 0 0 0 1,
  ix_e 50 .iadd 1 0 0 0 0 0,
  ix_e 51 (.iload_n (1)) 1 1 0 0 0 0,
  ix_e 52 .iastore 1 0 0 0 0 0,
  ix_e 53 (.aload_n (0)) 1 0 0 0 0 0,
  ix_e 54 (.getfield (28)) 3 11 11 2 0 0,
  ix_e 57 (.iload (4)) 2 4 0 0 0 0,
  ix_e 59 (.iconst (2)) 1 0 0 0 0 2,
  ix_e 60 .iadd 1 0 0 0 0 0,
  ix_e 61 (.iload_n (2)) 1 2 0 0 0 0,
  ix_e 62 .iastore 1 0 0 0 0 0,
  ix_e 63 (.aload_n (0)) 1 0 0 0 0 0,
  ix_e 64 (.getfield (28)) 3 11 11 2 0 0,
  ix_e 67 (.iload (4)) 2 4 0 0 0 0,
  ix_e 69 (.iconst (3)) 1 0 0 0 0 3,
  ix_e 70 .iadd 1 0 0 0 0 0,
  ix_e 71 (.iload_n (3)) 1 3 0 0 0 0,
  ix_e 72 .iastore 1 0 0 0 0 0,
  ix_e 73 (.aload_n (0)) 1 0 0 0 0 0,
  ix_e 74 (.getfield (7)) 3 11 1 2 0 0,
  ix_e 77 (.iconst (2)) 1 0 0 0 0 2,
  ix_e 78 (.aload_n (0)) 1 0 0 0 0 0,
  ix_e 79 (.getfield (7)) 3 11 1 2 0 0,
  ix_e 82 (.iconst (2)) 1 0 0 0 0 2,
  ix_e 83 .iaload 1 0 0 0 0 0,
  ix_e 84 (.iconst (1)) 1 0 0 0 0 1,
  ix_e 85 .iadd 1 0 0 0 0 0,
  ix_e 86 .iastore 1 0 0 0 0 0,
  ix_e 87 .return_ 1 0 0 0 0 0]
/-- VotedBankModel.isOver (II)Z -/
def ix_t232 : List ix_E := [ix_e 0 (.aload_n (0)) 1 0 0 0 0 0,
  ix_e 1 (.iload_n (1)) 1 1 0 0 0 0,
  ix_e 2 (.invokevirtual (370)) 3 205 2 1 11 0,
  ix_e 5 (.iconst (-1)) 1 0 0 0 0 (-1),
  ix_e 6 (.if_icmp .eq (23)) 3 29 0 0 0 0,
  ix_e 9 (.iload_n (2)) 1 2 0 0 0 0,
  ix_e 10 (.aload_n (0)) 1 0 0 0 0 0,
  ix_e 11 (.getfield (71)) 3 11 40 2 0 0,
  ix_e 14 (.aload_n (0)) 1 0 0 0 0 0,
  ix_e 15 (.iload_n (1)) 1 1 0 0 0 0,
  ix_e 16 (.invokevirtual (370)) 3 205 2 1 11 0,
  ix_e 19 (.iconst (1)) 1 0 0 0 0 1,
  ix_e 20 .iadd 1 0 0 0 0 0,
  ix_e 21 .iaload 1 0 0 0 0 0,
  ix_e 22 (.if_icmp .lt (7)) 3 29 0 0 0 0,
  ix_e 25 (.iconst (1)) 1 0 0 0 0 1,
  ix_e 26 (.goto (4)) 3 30 0 0 0 0,
  ix_e 29 (.iconst (0)) 1 0 0 0 0 0,
  ix_e 30 .ireturn 1 1 0 0 0 0]
/-- VotedBankModel.reads ()V -/
def ix_t233 : List ix_E := [ix_c 0 (.aload_n (0)) 1 [true, false] 0 0 0 0 0,
  ix_e 1 (.aload_n (0)) 1 0 0 0 0 0,
  ix_e 2 (.getfield (152)) 3 11 14 0 0 0,
  ix_e 5 (.invokevirtual (155)) 3 249 2 1 11 0,
  ix_e 8 (.bipush (32)) 2 0 0 0 0 32,
  ix_e 10 (.if_icmp .eq (16)) 3 26 0 0 0 0,
  ix_e 13 (.aload_n (0)) 1 0 0 0 0 0,
  ix_e 14 (.aload_n (0)) 1 0 0 0 0 0,
  ix_e 15 (.getfield (152)) 3 11 14 0 0 0,
  ix_e 18 (.invokevirtual (155)) 3 249 2 1 11 0,
  ix_e 21 (.bipush (10)) 2 0 0 0 0 10,
  ix_e 23 (.if_icmp .ne (16)) 3 39 0 0 0 0,
  ix_e 26 (.aload_n (0)) 1 0 0 0 0 0,
  ix_e 27 (.aload_n (0)) 1 0 0 0 0 0,
  ix_e 28 (.getfield (152)) 3 11 14 0 0 0,
  ix_e 31 (.iconst (1)) 1 0 0 0 0 1,
  ix_e 32 .iadd 1 0 0 0 0 0,
  ix_e 33 (.putfield (152)) 3 11 14 0 0 0,
  ix_e 36 (.goto (-36)) 3 0 0 0 0 0,
  ix_e 39 (.aload_n (0)) 1 0 0 0 0 0,
  ix_e 40 (.aload_n (0)) 1 0 0 0 0 0,
  ix_e 41 (.getfield (152)) 3 11 14 0 0 0,
  ix_e 44 (.putfield (159)) 3 11 15 0 0 0,
  ix_e 47 (.aload_n (0)) 1 0 0 0 0 0,
  ix_e 48 (.iconst (1)) 1 0 0 0 0 1,
  ix_e 49 (.putfield (162)) 3 11 16 0 0 0,
  ix_e 52 (.aload_n (0)) 1 0 0 0 0 0,
  ix_e 53 (.aload_n (0)) 1 0 0 0 0 0,
  ix_e 54 (.getfield (152)) 3 11 14 0 0 0,
  ix_e 57 (.invokevirtual (155)) 3 249 2 1 11 0,
  ix_e 60 (.istore_n (1)) 1 1 0 0 0 0,
  ix_e 61 (.iload_n (1)) 1 1 0 0 0 0,
  ix_e 62 (.iconst (-1)) 1 0 0 0 0 (-1),
  ix_e 63 (.if_icmp .ne (9)) 3 72 0 0 0 0,
  ix_e 66 (.aload_n (0)) 1 0 0 0 0 0,
  ix_e 67 (.iconst (0)) 1 0 0 0 0 0,
  ix_e 68 (.putfield (162)) 3 11 16 0 0 0,
  ix_e 71 .return_ 1 0 0 0 0 0,
  ix_e 72 (.aload_n (0)) 1 0 0 0 0 0,
  ix_e 73 (.aload_n (0)) 1 0 0 0 0 0,
  ix_e 74 (.getfield (152)) 3 11 14 0 0 0,
  ix_e 77 (.iconst (1)) 1 0 0 0 0 1,
  ix_e 78 .iadd 1 0 0 0 0 0,
  ix_e 79 (.putfield (152)) 3 11 14 0 0 0,
  ix_e 82 (.aload_n (0)) 1 0 0 0 0 0,
  ix_e 83 (.iload_n (1)) 1 1 0 0 0 0,
  ix_e 84 (.putfield (165)) 3 11 17 0 0 0,
  ix_e 87 (.aload_n (0)) 1 0 0 0 0 0,
  ix_e 88 (.iload_n (1)) 1 1 0 0 0 0,
  ix_e 89 (.invokevirtual (168)) 3 250 2 1 11 0,
  ix_e 92 (.ifCond .eq (63)) 3 155 0 0 0 0,
  ix_c 95 (.aload_n (0)) 1 [true, false] 0 0 0 0 0,
  ix_e 96 (.aload_n (0)) 1 0 0 0 0 0,
  ix_e 97 (.aload_n (0)) 1 0 0 0 0 0,
  ix_e 98 (.getfield (152)) 3 11 14 0 0 0,
  ix_e 101 (.invokevirtual (155)) 3 249 2 1 11 0,
  ix_e 104 (.invokevirtual (168)) 3 250 2 1 11 0,
  ix_e 107 (.ifCond .eq (16)) 3 123 0 0 0 0,
  ix_e 110 (.aload_n (0)) 1 0 0 0 0 0,
  ix_e 111 (.aload_n (0)) 1 0 0 0 0 0,
  ix_e 112 (.getfield (152)) 3 11 14 0 0 0,
  ix_e 115 (.iconst (1)) 1 0 0 0 0 1,
  ix_e 116 .iadd 1 0 0 0 0 0,
  ix_e 117 (.putfield (152)) 3 11 14 0 0 0,
  ix_e 120 (.goto (-25)) 3 95 0 0 0 0,
  ix_e 123 (.aload_n (0)) 1 0 0 0 0 0,
  ix_e 124 (.aload_n (0)) 1 0 0 0 0 0,
  ix_e 125 (.aload_n (0)) 1 0 0 0 0 0,
  ix_e 126 (.getfield (159)) 3 11 15 0 0 0,
  ix_e 129 (.aload_n (0)) 1 0 0 0 0 0,
  ix_e 130 (.getfield (152)) 3 11 14 0 0 0,
  ix_e 133 (.invokevirtual (171)) 3 251 3 1 11 0,
  ix_e 136 (.putfield (165)) 3 11 17 0 0 0,
  ix_e 139 (.aload_n (0)) 1 0 0 0 0 0,
  ix_e 140 (.getfield (165)) 3 11 17 0 0 0,
  ix_e 143 (.iconst (-1)) 1 0 0 0 0 (-1),
  ix_e 144 (.if_icmp .eq (129)) 3 273 0 0 0 0,
  ix_e 147 (.aload_n (0)) 1 0 0 0 0 0,
  ix_e 148 (.iconst (2)) 1 0 0 0 0 2,
  ix_e 149 (.putfield (162)) 3 11 16 0 0 0,
  ix_e 152 (.goto (121)) 3 273 0 0 0 0,
  ix_e 155 (.aload_n (0)) 1 0 0 0 0 0,
  ix_e 156 (.iload_n (1)) 1 1 0 0 0 0,
  ix_e 157 (.invokevirtual (174)) 3 252 2 1 11 0,
  ix_e 160 (.ifCond .eq (100)) 3 260 0 0 0 0,
  ix_e 163 (.aload_n (0)) 1 0 0 0 0 0,
  ix_e 164 (.iload_n (1)) 1 1 0 0 0 0,
  ix_e 165 (.bipush (48)) 2 0 0 0 0 48,
  ix_e 167 .isub 1 0 0 0 0 0,
  ix_e 168 (.putfield (165)) 3 11 17 0 0 0,
  ix_c 171 (.aload_n (0)) 1 [true, false] 0 0 0 0 0,
  ix_e 172 (.aload_n (0)) 1 0 0 0 0 0,
  ix_e 173 (.aload_n (0)) 1 0 0 0 0 0,
  ix_e 174 (.getfield (152)) 3 11 14 0 0 0,
  ix_e 177 (.invokevirtual (155)) 3 249 2 1 11 0,
  ix_e 180 (.invokevirtual (174)) 3 252 2 1 11 0,
  ix_e 183 (.ifCond .eq (56)) 3 239 0 0 0 0,
  ix_e 186 (.aload_n (0)) 1 0 0 0 0 0,
  ix_e 187 (.aload_n (0)) 1 0 0 0 0 0,
  ix_e 188 (.getfield (165)) 3 11 17 0 0 0,
  ix_e 191 (.sipush (10000)) 3 0 0 0 0 10000,
  ix_e 194 (.if_icmp .ge (25)) 3 219 0 0 0 0,
  ix_e 197 (.bipush (10)) 2 0 0 0 0 10,
  ix_e 199 (.aload_n (0)) 1 0 0 0 0 0,
  ix_e 200 (.getfield (165)) 3 11 17 0 0 0,
  ix_e 203 .imul 1 0 0 0 0 0,
  ix_e 204 (.aload_n (0)) 1 0 0 0 0 0,
  ix_e 205 (.aload_n (0)) 1 0 0 0 0 0,
  ix_e 206 (.getfield (152)) 3 11 14 0 0 0,
  ix_e 209 (.invokevirtual (155)) 3 249 2 1 11 0,
  ix_e 212 .iadd 1 0 0 0 0 0,
  ix_e 213 (.bipush (48)) 2 0 0 0 0 48,
  ix_e 215 .isub 1 0 0 0 0 0,
  ix_e 216 (.goto (7)) 3 223 0 0 0 0,
  ix_e 219 (.aload_n (0)) 1 0 0 0 0 0,
  ix_e 220 (.getfield (165)) 3 11 17 0 0 0,
  ix_e 223 (.putfield (165)) 3 11 17 0 0 0,
  ix_e 226 (.aload_n (0)) 1 0 0 0 0 0,
  ix_e 227 (.aload_n (0)) 1 0 0 0 0 0,
  ix_e 228 (.getfield (152)) 3 11 14 0 0 0,
  ix_e 231 (.iconst (1)) 1 0 0 0 0 1,
  ix_e 232 .iadd 1 0 0 0 0 0,
  ix_e 233 (.putfield (152)) 3 11 14 0 0 0,
  ix_e 236 (.goto (-65)) 3 171 0 0 0 0,
  ix_e 239 (.aload_n (0)) 1 0 0 0 0 0,
  ix_e 240 (.getfield (152)) 3 11 14 0 0 0,
  ix_e 243 (.aload_n (0)) 1 0 0 0 0 0,
  ix_e 244 (.getfield (159)) 3 11 15 0 0 0,
  ix_e 247 .isub 1 0 0 0 0 0,
  ix_e 248 (.iconst (5)) 1 0 0 0 0 5,
  ix_e 249 (.if_icmp .ge (24)) 3 273 0 0 0 0,
  ix_e 252 (.aload_n (0)) 1 0 0 0 0 0,
  ix_e 253 (.iconst (3)) 1 0 0 0 0 3,
  ix_e 254 (.putfield (162)) 3 11 16 0 0 0,
  ix_e 257 (.goto (16)) 3 273 0 0 0 0,
  ix_e 260 (.aload_n (0)) 1 0 0 0 0 0,
  ix_e 261 (.iload_n (1)) 1 1 0 0 0 0,
  ix_e 262 (.invokevirtual (177)) 3 253 2 1 11 0,
  ix_e 265 (.ifCond .eq (8)) 3 273 0 0 0 0,
  ix_e 268 (.aload_n (0)) 1 0 0 0 0 0,
  ix_e 269 (.iconst (4)) 1 0 0 0 0 4,
  ix_e 270 (.putfield (162)) 3 11 16 0 0 0,
  ix_e 273 .return_ 1 0 0 0 0 0]
/-- VotedBankModel.readEars ()I -/
def ix_t234 : List ix_E := [ix_e 0 (.iconst (0)) 1 0 0 0 0 0,
  ix_e 1 (.istore_n (1)) 1 1 0 0 0 0,
  ix_c 2 (.iload_n (1)) 1 [true, true] 1 0 0 0 0,
  ix_e 3 (.bipush (12)) 2 0 0 0 0 12,
  ix_e 5 (.if_icmp .ge (19)) 3 24 0 0 0 0,
  ix_e 8 (.aload_n (0)) 1 0 0 0 0 0,
  ix_e 9 (.getfield (65)) 3 11 36 2 0 0,
  ix_e 12 (.bipush (12)) 2 0 0 0 0 12,
  ix_e 14 (.iload_n (1)) 1 1 0 0 0 0,
  ix_e 15 .iadd 1 0 0 0 0 0,
  ix_e 16 (.iconst (0)) 1 0 0 0 0 0,
  ix_e 17 .iastore 1 0 0 0 0 0,
  ix_e 18 (.iinc 1 (1)) 3 1 0 0 0 1,
  ix_e 21 (.goto (-19)) 3 2 0 0 0 0,
  ix_e 24 (.iconst (0)) 1 0 0 0 0 0,
  ix_e 25 (.istore_n (1)) 1 1 0 0 0 0,
  ix_c 26 (.aload_n (0)) 1 [true, true] 0 0 0 0 0,
  ix_e 27 (.bipush (18)) 2 0 0 0 0 18,
  ix_e 29 (.invokevirtual (220)) 3 254 2 1 11 0,
  ix_e 32 (.ifCond .eq (32)) 3 64 0 0 0 0,
  ix_e 35 (.iload_n (1)) 1 1 0 0 0 0,
  ix_e 36 (.bipush (16)) 2 0 0 0 0 16,
  ix_e 38 (.if_icmp .ne (9)) 3 47 0 0 0 0,
  ix_e 41 (.aload_n (0)) 1 0 0 0 0 0,
  ix_e 42 (.iconst (3)) 1 0 0 0 0 3,
  ix_e 43 (.invokevirtual (192)) 3 255 2 1 11 0,
  ix_e 46 .ireturn 1 0 0 0 0 0,
  ix_e 47 (.aload_n (0)) 1 0 0 0 0 0,
  ix_e 48 (.invokevirtual (252)) 3 256 1 1 11 0,
  ix_e 51 (.iconst (-1)) 1 0 0 0 0 (-1),
  ix_e 52 (.if_icmp .ne (5)) 3 57 0 0 0 0,
  ix_e 55 (.iconst (-1)) 1 0 0 0 0 (-1),
  ix_e 56 .ireturn 1 0 0 0 0 0,
  ix_e 57 (.iload_n (1)) 1 1 0 0 0 0,
  ix_e 58 (.iconst (1)) 1 0 0 0 0 1,
  ix_e 59 .iadd 1 0 0 0 0 0,
  ix_e 60 (.istore_n (1)) 1 1 0 0 0 0,
  ix_e 61 (.goto (-35)) 3 26 0 0 0 0,
  ix_e 64 (.aload_n (0)) 1 0 0 0 0 0,
  ix_e 65 (.getfield (162)) 3 11 16 0 0 0,
  ix_e 68 (.ifCond .ne (7)) 3 75 0 0 0 0,
  ix_e 71 (.iload_n (1)) 1 1 0 0 0 0,
  ix_e 72 (.goto (8)) 3 80 0 0 0 0,
  ix_e 75 (.aload_n (0)) 1 0 0 0 0 0,
  ix_e 76 (.iconst (1)) 1 0 0 0 0 1,
  ix_e 77 (.invokevirtual (192)) 3 255 2 1 11 0,
  ix_e 80 .ireturn 1 0 0 0 0 0]
/-- VotedBankModel.readLog ()I -/
def ix_t235 : List ix_E := [ix_e 0 (.iconst (0)) 1 0 0 0 0 0,
  ix_e 1 (.istore_n (1)) 1 1 0 0 0 0,
  ix_c 2 (.aload_n (0)) 1 [true, true] 0 0 0 0 0,
  ix_e 3 (.bipush (20)) 2 0 0 0 0 20,
  ix_e 5 (.invokevirtual (220)) 3 254 2 1 11 0,
  ix_e 8 (.ifCond .eq (38)) 3 46 0 0 0 0,
  ix_e 11 (.iload_n (1)) 1 1 0 0 0 0,
  ix_e 12 (.bipush (16)) 2 0 0 0 0 16,
  ix_e 14 (.if_icmp .ne (9)) 3 23 0 0 0 0,
  ix_e 17 (.aload_n (0)) 1 0 0 0 0 0,
  ix_e 18 (.iconst (3)) 1 0 0 0 0 3,
  ix_e 19 (.invokevirtual (192)) 3 255 2 1 11 0,
  ix_e 22 .ireturn 1 0 0 0 0 0,
  ix_e 23 (.aload_n (0)) 1 0 0 0 0 0,
  ix_e 24 (.bipush (32)) 2 0 0 0 0 32,
  ix_e 26 (.iconst (2)) 1 0 0 0 0 2,
  ix_e 27 (.iload_n (1)) 1 1 0 0 0 0,
  ix_e 28 .imul 1 0 0 0 0 0,
  ix_e 29 .iadd 1 0 0 0 0 0,
  ix_e 30 (.invokevirtual (262)) 3 257 2 1 11 0,
  ix_e 33 (.iconst (-1)) 1 0 0 0 0 (-1),
  ix_e 34 (.if_icmp .ne (5)) 3 39 0 0 0 0,
  ix_e 37 (.iconst (-1)) 1 0 0 0 0 (-1),
  ix_e 38 .ireturn 1 0 0 0 0 0,
  ix_e 39 (.iload_n (1)) 1 1 0 0 0 0,
  ix_e 40 (.iconst (1)) 1 0 0 0 0 1,
  ix_e 41 .iadd 1 0 0 0 0 0,
  ix_e 42 (.istore_n (1)) 1 1 0 0 0 0,
  ix_e 43 (.goto (-41)) 3 2 0 0 0 0,
  ix_e 46 (.aload_n (0)) 1 0 0 0 0 0,
  ix_e 47 (.getfield (162)) 3 11 16 0 0 0,
  ix_e 50 (.ifCond .ne (7)) 3 57 0 0 0 0,
  ix_e 53 (.iload_n (1)) 1 1 0 0 0 0,
  ix_e 54 (.goto (8)) 3 62 0 0 0 0,
  ix_e 57 (.aload_n (0)) 1 0 0 0 0 0,
  ix_e 58 (.iconst (1)) 1 0 0 0 0 1,
  ix_e 59 (.invokevirtual (192)) 3 255 2 1 11 0,
  ix_e 62 .ireturn 1 0 0 0 0 0]
/-- VotedBankModel.readSeasons ()I -/
def ix_t236 : List ix_E := [ix_e 0 (.iconst (0)) 1 0 0 0 0 0,
  ix_e 1 (.istore_n (1)) 1 1 0 0 0 0,
  ix_c 2 (.aload_n (0)) 1 [true, true] 0 0 0 0 0,
  ix_e 3 (.bipush (12)) 2 0 0 0 0 12,
  ix_e 5 (.invokevirtual (220)) 3 254 2 1 11 0,
  ix_e 8 (.ifCond .eq (38)) 3 46 0 0 0 0,
  ix_e 11 (.iload_n (1)) 1 1 0 0 0 0,
  ix_e 12 (.bipush (16)) 2 0 0 0 0 16,
  ix_e 14 (.if_icmp .ne (9)) 3 23 0 0 0 0,
  ix_e 17 (.aload_n (0)) 1 0 0 0 0 0,
  ix_e 18 (.iconst (3)) 1 0 0 0 0 3,
  ix_e 19 (.invokevirtual (192)) 3 255 2 1 11 0,
  ix_e 22 .ireturn 1 0 0 0 0 0,
  ix_e 23 (.aload_n (0)) 1 0 0 0 0 0,
  ix_e 24 (.bipush (48)) 2 0 0 0 0 48,
  ix_e 26 (.iconst (3)) 1 0 0 0 0 3,
  ix_e 27 (.iload_n (1)) 1 1 0 0 0 0,
  ix_e 28 .imul 1 0 0 0 0 0,
  ix_e 29 .iadd 1 0 0 0 0 0,
  ix_e 30 (.invokevirtual (265)) 3 258 2 1 11 0,
  ix_e 33 (.iconst (-1)) 1 0 0 0 0 (-1),
  ix_e 34 (.if_icmp .ne (5)) 3 39 0 0 0 0,
  ix_e 37 (.iconst (-1)) 1 0 0 0 0 (-1),
  ix_e 38 .ireturn 1 0 0 0 0 0,
  ix_e 39 (.iload_n (1)) 1 1 0 0 0 0,
  ix_e 40 (.iconst (1)) 1 0 0 0 0 1,
  ix_e 41 .iadd 1 0 0 0 0 0,
  ix_e 42 (.istore_n (1)) 1 1 0 0 0 0,
  ix_e 43 (.goto (-41)) 3 2 0 0 0 0,
  ix_e 46 (.aload_n (0)) 1 0 0 0 0 0,
  ix_e 47 (.getfield (162)) 3 11 16 0 0 0,
  ix_e 50 (.ifCond .ne (7)) 3 57 0 0 0 0,
  ix_e 53 (.iload_n (1)) 1 1 0 0 0 0,
  ix_e 54 (.goto (8)) 3 62 0 0 0 0,
  ix_e 57 (.aload_n (0)) 1 0 0 0 0 0,
  ix_e 58 (.iconst (1)) 1 0 0 0 0 1,
  ix_e 59 (.invokevirtual (192)) 3 255 2 1 11 0,
  ix_e 62 .ireturn 1 0 0 0 0 0]
/-- VotedBankModel.readLaw ()I -/
def ix_t237 : List ix_E := [ix_e 0 (.iconst (0)) 1 0 0 0 0 0,
  ix_e 1 (.istore_n (1)) 1 1 0 0 0 0,
  ix_c 2 (.aload_n (0)) 1 [true, true, false] 0 0 0 0 0,
  ix_e 3 (.invokevirtual (232)) 3 259 1 1 11 0,
  ix_e 6 (.ifCond .eq (122)) 3 128 0 0 0 0,
  ix_e 9 (.iload_n (1)) 1 1 0 0 0 0,
  ix_e 10 (.bipush (16)) 2 0 0 0 0 16,
  ix_e 12 (.if_icmp .ne (9)) 3 21 0 0 0 0,
  ix_e 15 (.aload_n (0)) 1 0 0 0 0 0,
  ix_e 16 (.iconst (3)) 1 0 0 0 0 3,
  ix_e 17 (.invokevirtual (192)) 3 255 2 1 11 0,
  ix_e 20 .ireturn 1 0 0 0 0 0,
  ix_e 21 (.bipush (32)) 2 0 0 0 0 32,
  ix_e 23 (.iload_n (1)) 1 1 0 0 0 0,
  ix_e 24 .iadd 1 0 0 0 0 0,
  ix_e 25 (.istore_n (2)) 1 2 0 0 0 0,
  ix_e 26 (.aload_n (0)) 1 0 0 0 0 0,
  ix_e 27 (.getfield (40)) 3 11 20 2 0 0,
  ix_e 30 (.iload_n (2)) 1 2 0 0 0 0,
  ix_e 31 (.aload_n (0)) 1 0 0 0 0 0,
  ix_e 32 (.getfield (165)) 3 11 17 0 0 0,
  ix_e 35 .iastore 1 0 0 0 0 0,
  ix_e 36 (.aload_n (0)) 1 0 0 0 0 0,
  ix_e 37 (.invokevirtual (199)) 3 233 1 0 11 0,
  ix_e 40 (.aload_n (0)) 1 0 0 0 0 0,
  ix_e 41 (.getfield (43)) 3 11 21 2 0 0,
  ix_e 44 (.iload_n (2)) 1 2 0 0 0 0,
  ix_e 45 (.aload_n (0)) 1 0 0 0 0 0,
  ix_e 46 (.getfield (186)) 3 11 27 0 0 0,
  ix_e 49 .iastore 1 0 0 0 0 0,
  ix_e 50 (.aload_n (0)) 1 0 0 0 0 0,
  ix_e 51 (.invokevirtual (211)) 3 260 1 1 11 0,
  ix_e 54 (.iconst (-1)) 1 0 0 0 0 (-1),
  ix_e 55 (.if_icmp .ne (5)) 3 60 0 0 0 0,
  ix_e 58 (.iconst (-1)) 1 0 0 0 0 (-1),
  ix_e 59 .ireturn 1 0 0 0 0 0,
  ix_e 60 (.aload_n (0)) 1 0 0 0 0 0,
  ix_e 61 (.getfield (46)) 3 11 22 2 0 0,
  ix_e 64 (.iload_n (2)) 1 2 0 0 0 0,
  ix_e 65 (.aload_n (0)) 1 0 0 0 0 0,
  ix_e 66 (.getfield (186)) 3 11 27 0 0 0,
  ix_e 69 .iastore 1 0 0 0 0 0,
  ix_e 70 (.aload_n (0)) 1 0 0 0 0 0,
  ix_e 71 (.iconst (3)) 1 0 0 0 0 3,
  ix_e 72 (.invokevirtual (220)) 3 254 2 1 11 0,
  ix_e 75 (.ifCond .eq (17)) 3 92 0 0 0 0,
  ix_e 78 (.aload_n (0)) 1 0 0 0 0 0,
  ix_e 79 (.invokevirtual (199)) 3 233 1 0 11 0,
  ix_e 82 (.aload_n (0)) 1 0 0 0 0 0,
  ix_e 83 (.invokevirtual (236)) 3 261 1 1 11 0,
  ix_e 86 (.iconst (-1)) 1 0 0 0 0 (-1),
  ix_e 87 (.if_icmp .ne (5)) 3 92 0 0 0 0,
  ix_e 90 (.iconst (-1)) 1 0 0 0 0 (-1),
  ix_e 91 .ireturn 1 0 0 0 0 0,
  ix_e 92 (.aload_n (0)) 1 0 0 0 0 0,
  ix_e 93 (.getfield (49)) 3 11 23 2 0 0,
  ix_e 96 (.iload_n (2)) 1 2 0 0 0 0,
  ix_e 97 (.aload_n (0)) 1 0 0 0 0 0,
  ix_e 98 (.getfield (186)) 3 11 27 0 0 0,
  ix_e 101 .iastore 1 0 0 0 0 0,
  ix_e 102 (.aload_n (0)) 1 0 0 0 0 0,
  ix_e 103 (.bipush (59)) 2 0 0 0 0 59,
  ix_e 105 (.invokevirtual (205)) 3 262 2 1 11 0,
  ix_e 108 (.ifCond .ne (9)) 3 117 0 0 0 0,
  ix_e 111 (.aload_n (0)) 1 0 0 0 0 0,
  ix_e 112 (.iconst (1)) 1 0 0 0 0 1,
  ix_e 113 (.invokevirtual (192)) 3 255 2 1 11 0,
  ix_e 116 .ireturn 1 0 0 0 0 0,
  ix_e 117 (.aload_n (0)) 1 0 0 0 0 0,
  ix_e 118 (.invokevirtual (199)) 3 233 1 0 11 0,
  ix_e 121 (.iload_n (1)) 1 1 0 0 0 0,
  ix_e 122 (.iconst (1)) 1 0 0 0 0 1,
  ix_e 123 .iadd 1 0 0 0 0 0,
  ix_e 124 (.istore_n (1)) 1 1 0 0 0 0,
  ix_e 125 (.goto (-123)) 3 2 0 0 0 0,
  ix_e 128 (.aload_n (0)) 1 0 0 0 0 0,
  ix_e 129 (.getfield (162)) 3 11 16 0 0 0,
  ix_e 132 (.ifCond .ne (7)) 3 139 0 0 0 0,
  ix_e 135 (.iload_n (1)) 1 1 0 0 0 0,
  ix_e 136 (.goto (8)) 3 144 0 0 0 0,
  ix_e 139 (.aload_n (0)) 1 0 0 0 0 0,
  ix_e 140 (.iconst (1)) 1 0 0 0 0 1,
  ix_e 141 (.invokevirtual (192)) 3 255 2 1 11 0,
  ix_e 144 .ireturn 1 0 0 0 0 0]
/-- VotedBankModel.shellsOf (III)I -/
def ix_t238 : List ix_E := [ix_e 0 (.aload_n (0)) 1 0 0 0 0 0,
  ix_e 1 (.iload_n (1)) 1 1 0 0 0 0,
  ix_e 2 (.aload_n (0)) 1 0 0 0 0 0,
  ix_e 3 (.getfield (22)) 3 11 9 2 0 0,
  ix_e 6 (.iload_n (1)) 1 1 0 0 0 0,
  ix_e 7 .iaload 1 0 0 0 0 0,
  ix_e 8 (.iload_n (2)) 1 2 0 0 0 0,
  ix_e 9 (.iload_n (3)) 1 3 0 0 0 0,
  ix_e 10 (.invokevirtual (319)) 3 239 5 0 11 0,
  ix_e 13 (.aload_n (0)) 1 0 0 0 0 0,
  ix_e 14 (.iconst (2)) 1 0 0 0 0 2,
  ix_e 15 (.iconst (2)) 1 0 0 0 0 2,
  ix_e 16 (.aload_n (0)) 1 0 0 0 0 0,
  ix_e 17 (.getfield (19)) 3 11 8 2 0 0,
  ix_e 20 (.iload_n (1)) 1 1 0 0 0 0,
  ix_e 21 .iaload 1 0 0 0 0 0,
  ix_e 22 .isub 1 0 0 0 0 0,
  ix_e 23 (.bipush (9)) 2 0 0 0 0 9,
  ix_e 25 (.invokevirtual (323)) 3 240 4 1 11 0,
  ix_e 28 .ireturn 1 0 0 0 0 0]
/-- VotedBankModel.asks (IIII)V -/
def ix_t239 : List ix_E := [ix_e 0 (.aload_n (0)) 1 0 0 0 0 0,
  ix_e 1 (.getfield (74)) 3 11 41 2 0 0,
  ix_e 4 (.iconst (0)) 1 0 0 0 0 0,
  ix_e 5 (.aload_n (0)) 1 0 0 0 0 0,
  ix_e 6 (.getfield (19)) 3 11 8 2 0 0,
  ix_e 9 (.iload_n (1)) 1 1 0 0 0 0,
  ix_e 10 .iaload 1 0 0 0 0 0,
  ix_e 11 .iastore 1 0 0 0 0 0,
  ix_e 12 (.aload_n (0)) 1 0 0 0 0 0,
  ix_e 13 (.getfield (74)) 3 11 41 2 0 0,
  ix_e 16 (.iconst (1)) 1 0 0 0 0 1,
  ix_e 17 (.iload_n (2)) 1 2 0 0 0 0,
  ix_e 18 .iastore 1 0 0 0 0 0,
  ix_e 19 (.aload_n (0)) 1 0 0 0 0 0,
  ix_e 20 (.getfield (74)) 3 11 41 2 0 0,
  ix_e 23 (.iconst (2)) 1 0 0 0 0 2,
  ix_e 24 (.aload_n (0)) 1 0 0 0 0 0,
  ix_e 25 (.getfield (25)) 3 11 10 2 0 0,
  ix_e 28 (.iload_n (1)) 1 1 0 0 0 0,
  ix_e 29 .iaload 1 0 0 0 0 0,
  ix_e 30 .iastore 1 0 0 0 0 0,
  ix_e 31 (.aload_n (0)) 1 0 0 0 0 0,
  ix_e 32 (.getfield (74)) 3 11 41 2 0 0,
  ix_e 35 (.iconst (3)) 1 0 0 0 0 3,
  ix_e 36 (.aload_n (0)) 1 0 0 0 0 0,
  ix_e 37 (.getfield (7)) 3 11 1 2 0 0,
  ix_e 40 (.bipush (30)) 2 0 0 0 0 30,
  ix_e 42 (.iload_n (1)) 1 1 0 0 0 0,
  ix_e 43 .iadd 1 0 0 0 0 0,
  ix_e 44 .iaload 1 0 0 0 0 0,
  ix_e 45 .iastore 1 0 0 0 0 0,
  ix_e 46 (.aload_n (0)) 1 0 0 0 0 0,
  ix_e 47 (.getfield (74)) 3 11 41 2 0 0,
  ix_e 50 (.iconst (4)) 1 0 0 0 0 4,
  ix_e 51 (.aload_n (0)) 1 0 0 0 0 0,
  ix_e 52 (.getfield (7)) 3 11 1 2 0 0,
  ix_e 55 (.bipush (42)) 2 0 0 0 0 42,
  ix_e 57 (.iload_n (1)) 1 1 0 0 0 0,
  ix_e 58 .iadd 1 0 0 0 0 0,
  ix_e 59 .iaload 1 0 0 0 0 0,
  ix_e 60 .iastore 1 0 0 0 0 0,
  ix_e 61 (.aload_n (0)) 1 0 0 0 0 0,
  ix_e 62 (.getfield (74)) 3 11 41 2 0 0,
  ix_e 65 (.iconst (5)) 1 0 0 0 0 5,
  ix_e 66 (.aload_n (0)) 1 0 0 0 0 0,
  ix_e 67 (.getfield (7)) 3 11 1 2 0 0,
  ix_e 70 (.iconst (3)) 1 0 0 0 0 3,
  ix_e 71 .iaload 1 0 0 0 0 0,
  ix_e 72 .iastore 1 0 0 0 0 0,
  ix_e 73 (.aload_n (0)) 1 0 0 0 0 0,
  ix_e 74 (.getfield (74)) 3 11 41 2 0 0,
  ix_e 77 (.bipush (6)) 2 0 0 0 0 6,
  ix_e 79 (.aload_n (0)) 1 0 0 0 0 0,
  ix_e 80 (.getfield (7)) 3 11 1 2 0 0,
  ix_e 83 (.iconst (4)) 1 0 0 0 0 4,
  ix_e 84 .iaload 1 0 0 0 0 0,
  ix_e 85 .iastore 1 0 0 0 0 0,
  ix_e 86 (.aload_n (0)) 1 0 0 0 0 0,
  ix_e 87 (.getfield (74)) 3 11 41 2 0 0,
  ix_e 90 (.bipush (7)) 2 0 0 0 0 7,
  ix_e 92 (.aload_n (0)) 1 0 0 0 0 0,
  ix_e 93 (.getfield (142)) 3 11 6 0 0 0,
  ix_e 96 .iastore 1 0 0 0 0 0,
  ix_e 97 (.aload_n (0)) 1 0 0 0 0 0,
  ix_e 98 (.getfield (74)) 3 11 41 2 0 0,
  ix_e 101 (.bipush (8)) 2 0 0 0 0 8,
  ix_e 103 (.iload_n (3)) 1 3 0 0 0 0,
  ix_e 104 .iastore 1 0 0 0 0 0,
  ix_e 105 (.aload_n (0)) 1 0 0 0 0 0,
  ix_e 106 (.getfield (74)) 3 11 41 2 0 0,
  ix_e 109 (.bipush (9)) 2 0 0 0 0 9,
  ix_e 111 (.aload_n (0)) 1 0 0 0 0 0,
  ix_e 112 (.iload (4)) 2 4 0 0 0 0,
  ix_e 114 (.invokevirtual (307)) 3 210 2 1 11 0,
  ix_e 117 .iastore 1 0 0 0 0 0,
  ix_e 118 (.aload_n (0)) 1 0 0 0 0 0,
  ix_e 119 (.getfield (74)) 3 11 41 2 0 0,
  ix_e 122 (.bipush (10)) 2 0 0 0 0 10,
  ix_e 124 (.iconst (0)) 1 0 0 0 0 0,
  ix_e 125 .iastore 1 0 0 0 0 0,
  ix_e 126 (.iconst (0)) 1 0 0 0 0 0,
  ix_e 127 (.istore (5)) 2 5 0 0 0 0,
  ix_c 129 (.iload (5)) 2 [true, true, false, false, true, true] 5 0 0 0 0,
  ix_e 131 (.aload_n (0)) 1 0 0 0 0 0,
  ix_e 132 (.getfield (125)) 3 11 7 0 0 0,
  ix_e 135 (.if_icmp .ge (50)) 3 185 0 0 0 0,
  ix_e 138 (.aload_n (0)) 1 0 0 0 0 0,
  ix_e 139 (.iload (4)) 2 4 0 0 0 0,
  ix_e 141 (.iload (5)) 2 5 0 0 0 0,
  ix_e 143 (.invokevirtual (255)) 3 197 3 1 11 0,
  ix_e 146 (.ifCond .eq (33)) 3 179 0 0 0 0,
  ix_e 149 (.aload_n (0)) 1 0 0 0 0 0,
  ix_e 150 (.iload (5)) 2 5 0 0 0 0,
  ix_e 152 (.invokevirtual (310)) 3 243 2 1 11 0,
  ix_e 155 (.aload_n (0)) 1 0 0 0 0 0,
  ix_e 156 (.iload_n (1)) 1 1 0 0 0 0,
  ix_e 157 (.invokevirtual (310)) 3 243 2 1 11 0,
  ix_e 160 (.if_icmp .ne (19)) 3 179 0 0 0 0,
  ix_e 163 (.aload_n (0)) 1 0 0 0 0 0,
  ix_e 164 (.getfield (74)) 3 11 41 2 0 0,
  ix_e 167 (.bipush (10)) 2 0 0 0 0 10,
  ix_e 169 (.aload_n (0)) 1 0 0 0 0 0,
  ix_e 170 (.getfield (74)) 3 11 41 2 0 0,
  ix_e 173 (.bipush (10)) 2 0 0 0 0 10,
  ix_e 175 .iaload 1 0 0 0 0 0,
  ix_e 176 (.iconst (1)) 1 0 0 0 0 1,
  ix_e 177 .iadd 1 0 0 0 0 0,
  ix_e 178 .iastore 1 0 0 0 0 0,
  ix_e 179 (.iinc 5 (1)) 3 5 0 0 0 1,
  ix_e 182 (.goto (-53)) 3 129 0 0 0 0,
  ix_e 185 .return_ 1 0 0 0 0 0]
/-- VotedBankModel.lawTells (III)I -/
def ix_t240 : List ix_E := [ix_e 0 (.aload_n (0)) 1 0 0 0 0 0,
  ix_e 1 (.iload_n (1)) 1 1 0 0 0 0,
  ix_e 2 (.invokevirtual (313)) 3 263 2 1 11 0,
  ix_e 5 (.istore (4)) 2 4 0 0 0 0,
  ix_e 7 (.aload_n (0)) 1 0 0 0 0 0,
  ix_e 8 (.iload (4)) 2 4 0 0 0 0,
  ix_e 10 (.iconst (-1)) 1 0 0 0 0 (-1),
  ix_e 11 (.if_icmp .ne (7)) 3 18 0 0 0 0,
  ix_e 14 (.iload_n (2)) 1 2 0 0 0 0,
  ix_e 15 (.goto (22)) 3 37 0 0 0 0,
  ix_e 18 (.aload_n (0)) 1 0 0 0 0 0,
  ix_e 19 (.iconst (0)) 1 0 0 0 0 0,
  ix_e 20 (.aload_n (0)) 1 0 0 0 0 0,
  ix_e 21 (.getfield (43)) 3 11 21 2 0 0,
  ix_e 24 (.iload (4)) 2 4 0 0 0 0,
  ix_e 26 .iaload 1 0 0 0 0 0,
  ix_e 27 (.aload_n (0)) 1 0 0 0 0 0,
  ix_e 28 (.getfield (46)) 3 11 22 2 0 0,
  ix_e 31 (.iload (4)) 2 4 0 0 0 0,
  ix_e 33 .iaload 1 0 0 0 0 0,
  ix_e 34 (.invokevirtual (304)) 3 264 4 1 11 0,
  ix_e 37 (.iconst (0)) 1 0 0 0 0 0,
  ix_e 38 (.iload_n (3)) 1 3 0 0 0 0,
  ix_e 39 (.invokevirtual (316)) 3 265 4 1 11 0,
  ix_e 42 .ireturn 1 0 0 0 0 0]
/-- VotedBankModel.isTalkedTo (III)V -/
def ix_t241 : List ix_E := [ix_e 0 (.aload_n (0)) 1 0 0 0 0 0,
  ix_e 1 (.iload_n (1)) 1 1 0 0 0 0,
  ix_e 2 (.iload_n (3)) 1 3 0 0 0 0,
  ix_e 3 (.invokevirtual (332)) 3 266 3 1 11 0,
  ix_e 6 (.istore (4)) 2 4 0 0 0 0,
  ix_e 8 (.iload (4)) 2 4 0 0 0 0,
  ix_e 10 (.iconst (-1)) 1 0 0 0 0 (-1),
  ix_e 11 (.if_icmp .ne (4)) 3 15 0 0 0 0,
  ix_e 14 .return_ 1 0 0 0 0 0,
  ix_e 15 (.aload_n (0)) 1 0 0 0 0 0,
  ix_e 16 (.iload_n (1)) 1 1 0 0 0 0,
  ix_e 17 (.iload (4)) 2 4 0 0 0 0,
  ix_e 19 (.iload_n (2)) 1 2 0 0 0 0,
  ix_e 20 (.iload_n (3)) 1 3 0 0 0 0,
  ix_e 21 (.invokevirtual (335)) 3 204 5 1 11 0,
  ix_e 24 (.istore (5)) 2 5 0 0 0 0,
  ix_e 26 (.aload_n (0)) 1 0 0 0 0 0,
  ix_e 27 (.getfield (104)) 3 11 5 1 0 0,
  ix_e 30 (.ifCond .eq (16)) 3 46 0 0 0 0,
  ix_e 33 (.iconst (2)) 1 0 0 0 0 2,
  ix_e 34 (.iload (5)) 2 5 0 0 0 0,
  ix_e 36 .imul 1 0 0 0 0 0,
  ix_e 37 (.sipush (1000)) 3 0 0 0 0 1000,
  ix_e 40 (.if_icmp .ge (19)) 3 59 0 0 0 0,
  ix_e 43 (.goto (15)) 3 58 0 0 0 0,
  ix_e 46 (.aload_n (0)) 1 0 0 0 0 0,
  ix_e 47 (.sipush (1000)) 3 0 0 0 0 1000,
  ix_e 50 (.invokevirtual (339)) 3 267 2 1 11 0,
  ix_e 53 (.iload (5)) 2 5 0 0 0 0,
  ix_e 55 (.if_icmp .lt (4)) 3 59 0 0 0 0,
  ix_e 58 .return_ 1 0 0 0 0 0,
  ix_e 59 (.aload_n (0)) 1 0 0 0 0 0,
  ix_e 60 (.getfield (7)) 3 11 1 2 0 0,
  ix_e 63 (.bipush (6)) 2 0 0 0 0 6,
  ix_e 65 (.iload_n (1)) 1 1 0 0 0 0,
  ix_e 66 .iadd 1 0 0 0 0 0,
  ix_e 67 (.aload_n (0)) 1 0 0 0 0 0,
  ix_e 68 (.aload_n (0)) 1 0 0 0 0 0,
  ix_e 69 (.iload (4)) 2 4 0 0 0 0,
  ix_e 71 (.invokevirtual (310)) 3 243 2 1 11 0,
  ix_e 74 (.aload_n (0)) 1 0 0 0 0 0,
  ix_e 75 (.getfield (7)) 3 11 1 2 0 0,
  ix_e 78 (.bipush (6)) 2 0 0 0 0 6,
  ix_e 80 (.iload_n (1)) 1 1 0 0 0 0,
  ix_e 81 .iadd 1 0 0 0 0 0,
  ix_e 82 .iaload 1 0 0 0 0 0,
  ix_e 83 (.invokevirtual (342)) 3 268 3 1 11 0,
  ix_e 86 .iastore 1 0 0 0 0 0,
  ix_e 87 (.aload_n (0)) 1 0 0 0 0 0,
  ix_e 88 (.getfield (7)) 3 11 1 2 0 0,
  ix_e 91 (.bipush (42)) 2 0 0 0 0 42,
  ix_e 93 (.iload_n (1)) 1 1 0 0 0 0,
  ix_e 94 .iadd 1 0 0 0 0 0,
  ix_e 95 (.aload_n (0)) 1 0 0 0 0 0,
  ix_e 96 (.getfield (7)) 3 11 1 2 0 0,
  ix_e 99 (.bipush (42)) 2 0 0 0 0 42,
  ix_e 101 (.iload_n (1)) 1 1 0 0 0 0,
  ix_e 102 .iadd 1 0 0 0 0 0,
  ix_e 103 .iaload 1 0 0 0 0 0,
  ix_e 104 (.iconst (1)) 1 0 0 0 0 1,
  ix_e 105 .iadd 1 0 0 0 0 0,
  ix_e 106 .iastore 1 0 0 0 0 0,
  ix_e 107 (.aload_n (0)) 1 0 0 0 0 0,
  ix_e 108 (.aload_n (0)) 1 0 0 0 0 0,
  ix_e 109 (.getfield (345)) 3 11 43 0 0 0,
  ix_e 112 (.iconst (1)) 1 0 0 0 0 1,
  ix_e 113 .iadd 1 0 0 0 0 0,
  ix_e 114 (.putfield (345)) 3 11 43 0 0 0,
  ix_e 117 (.aload_n (0)) 1 0 0 0 0 0,
  ix_e 118 (.iconst (0)) 1 0 0 0 0 0,
  ix_e 119 (.iload_n (1)) 1 1 0 0 0 0,
  ix_e 120 (.aload_n (0)) 1 0 0 0 0 0,
  ix_e 121 (.iload (4)) 2 4 0 0 0 0,
  ix_e 123 (.invokevirtual (310)) 3 243 2 1 11 0,
  ix_e 126 (.invokevirtual (348)) 3 231 4 0 11 0,
  ix_e 129 .return_ 1 0 0 0 0 0]
/-- VotedBankModel.wadingOf (II)I -/
def ix_t242 : List ix_E := [ix_e 0 (.iconst (0)) 1 0 0 0 0 0,
  ix_e 1 (.istore_n (3)) 1 3 0 0 0 0,
  ix_e 2 (.iconst (0)) 1 0 0 0 0 0,
  ix_e 3 (.istore (4)) 2 4 0 0 0 0,
  ix_c 5 (.iload (4)) 2 [true, true, true, true, true] 4 0 0 0 0,
  ix_e 7 (.aload_n (0)) 1 0 0 0 0 0,
  ix_e 8 (.getfield (125)) 3 11 7 0 0 0,
  ix_e 11 (.if_icmp .ge (79)) 3 90 0 0 0 0,
  ix_e 14 (.aload_n (0)) 1 0 0 0 0 0,
  ix_e 15 (.iload_n (1)) 1 1 0 0 0 0,
  ix_e 16 (.iload (4)) 2 4 0 0 0 0,
  ix_e 18 (.invokevirtual (255)) 3 197 3 1 11 0,
  ix_e 21 (.ifCond .eq (63)) 3 84 0 0 0 0,
  ix_e 24 (.aload_n (0)) 1 0 0 0 0 0,
  ix_e 25 (.iload (4)) 2 4 0 0 0 0,
  ix_e 27 (.iload_n (2)) 1 2 0 0 0 0,
  ix_e 28 (.iload_n (1)) 1 1 0 0 0 0,
  ix_e 29 (.invokevirtual (355)) 3 269 4 1 11 0,
  ix_e 32 (.ifCond .ne (6)) 3 38 0 0 0 0,
  ix_e 35 (.goto (49)) 3 84 0 0 0 0,
  ix_e 38 (.iload_n (3)) 1 3 0 0 0 0,
  ix_e 39 (.iconst (1)) 1 0 0 0 0 1,
  ix_e 40 (.iload (4)) 2 4 0 0 0 0,
  ix_e 42 .ishl 1 0 0 0 0 0,
  ix_e 43 .ior 1 0 0 0 0 0,
  ix_e 44 (.istore_n (3)) 1 3 0 0 0 0,
  ix_e 45 (.aload_n (0)) 1 0 0 0 0 0,
  ix_e 46 (.getfield (7)) 3 11 1 2 0 0,
  ix_e 49 (.bipush (30)) 2 0 0 0 0 30,
  ix_e 51 (.iload (4)) 2 4 0 0 0 0,
  ix_e 53 .iadd 1 0 0 0 0 0,
  ix_e 54 (.aload_n (0)) 1 0 0 0 0 0,
  ix_e 55 (.getfield (7)) 3 11 1 2 0 0,
  ix_e 58 (.bipush (30)) 2 0 0 0 0 30,
  ix_e 60 (.iload (4)) 2 4 0 0 0 0,
  ix_e 62 .iadd 1 0 0 0 0 0,
  ix_e 63 .iaload 1 0 0 0 0 0,
  ix_e 64 (.iconst (1)) 1 0 0 0 0 1,
  ix_e 65 .iadd 1 0 0 0 0 0,
  ix_e 66 .iastore 1 0 0 0 0 0,
  ix_e 67 (.aload_n (0)) 1 0 0 0 0 0,
  ix_e 68 (.iconst (1)) 1 0 0 0 0 1,
  ix_e 69 (.iload (4)) 2 4 0 0 0 0,
  ix_e 71 (.aload_n (0)) 1 0 0 0 0 0,
  ix_e 72 (.getfield (7)) 3 11 1 2 0 0,
  ix_e 75 (.bipush (30)) 2 0 0 0 0 30,
  ix_e 77 (.iload (4)) 2 4 0 0 0 0,
  ix_e 79 .iadd 1 0 0 0 0 0,
  ix_e 80 .iaload 1 0 0 0 0 0,
  ix_e 81 (.invokevirtual (348)) 3 231 4 0 11 0,
  ix_e 84 (.iinc 4 (1)) 3 4 0 0 0 1,
  ix_e 87 (.goto (-82)) 3 5 0 0 0 0,
  ix_e 90 (.iload_n (3)) 1 3 0 0 0 0,
  ix_e 91 .ireturn 1 0 0 0 0 0]
/-- VotedBankModel.firstOf (I)I -/
def ix_t243 : List ix_E := [ix_e 0 (.aload_n (0)) 1 0 0 0 0 0,
  ix_e 1 (.aload_n (0)) 1 0 0 0 0 0,
  ix_e 2 (.getfield (7)) 3 11 1 2 0 0,
  ix_e 5 (.bipush (6)) 2 0 0 0 0 6,
  ix_e 7 (.iload_n (1)) 1 1 0 0 0 0,
  ix_e 8 .iadd 1 0 0 0 0 0,
  ix_e 9 .iaload 1 0 0 0 0 0,
  ix_e 10 (.iconst (0)) 1 0 0 0 0 0,
  ix_e 11 (.invokevirtual (110)) 3 230 3 1 11 0,
  ix_e 14 .ireturn 1 0 0 0 0 0]
/-- VotedBankModel.winner ()I -/
def ix_t244 : List ix_E := [ix_e 0 (.iconst (0)) 1 0 0 0 0 0,
  ix_e 1 (.istore_n (1)) 1 1 0 0 0 0,
  ix_e 2 (.iconst (0)) 1 0 0 0 0 0,
  ix_e 3 (.istore_n (2)) 1 2 0 0 0 0,
  ix_e 4 (.iconst (1)) 1 0 0 0 0 1,
  ix_e 5 (.istore_n (3)) 1 3 0 0 0 0,
  ix_c 6 (.iload_n (3)) 1 [true, true, true, true] 3 0 0 0 0,
  ix_e 7 (.bipush (6)) 2 0 0 0 0 6,
  ix_e 9 (.if_icmp .ge (51)) 3 60 0 0 0 0,
  ix_e 12 (.aload_n (0)) 1 0 0 0 0 0,
  ix_e 13 (.getfield (80)) 3 11 44 2 0 0,
  ix_e 16 (.iload_n (3)) 1 3 0 0 0 0,
  ix_e 17 .iaload 1 0 0 0 0 0,
  ix_e 18 (.iload_n (2)) 1 2 0 0 0 0,
  ix_e 19 (.if_icmp .le (7)) 3 26 0 0 0 0,
  ix_e 22 (.iload_n (3)) 1 3 0 0 0 0,
  ix_e 23 (.goto (18)) 3 41 0 0 0 0,
  ix_e 26 (.aload_n (0)) 1 0 0 0 0 0,
  ix_e 27 (.getfield (80)) 3 11 44 2 0 0,
  ix_e 30 (.iload_n (3)) 1 3 0 0 0 0,
  ix_e 31 .iaload 1 0 0 0 0 0,
  ix_e 32 (.iload_n (2)) 1 2 0 0 0 0,
  ix_e 33 (.if_icmp .ne (7)) 3 40 0 0 0 0,
  ix_e 36 (.iconst (0)) 1 0 0 0 0 0,
  ix_e 37 (.goto (4)) 3 41 0 0 0 0,
  ix_e 40 (.iload_n (1)) 1 1 0 0 0 0,
  ix_e 41 (.istore_n (1)) 1 1 0 0 0 0,
  ix_e 42 (.aload_n (0)) 1 0 0 0 0 0,
  ix_e 43 (.iload_n (2)) 1 2 0 0 0 0,
  ix_e 44 (.aload_n (0)) 1 0 0 0 0 0,
  ix_e 45 (.getfield (80)) 3 11 44 2 0 0,
  ix_e 48 (.iload_n (3)) 1 3 0 0 0 0,
  ix_e 49 .iaload 1 0 0 0 0 0,
  ix_e 50 (.invokevirtual (358)) 3 270 3 1 11 0,
  ix_e 53 (.istore_n (2)) 1 2 0 0 0 0,
  ix_e 54 (.iinc 3 (1)) 3 3 0 0 0 1,
  ix_e 57 (.goto (-51)) 3 6 0 0 0 0,
  ix_e 60 (.iload_n (1)) 1 1 0 0 0 0,
  ix_e 61 .ireturn 1 0 0 0 0 0]
/-- VotedBankModel.isAhead (III)Z -/
def ix_t245 : List ix_E := [ix_e 0 (.aload_n (0)) 1 0 0 0 0 0,
  ix_e 1 (.iload_n (1)) 1 1 0 0 0 0,
  ix_e 2 (.iload_n (2)) 1 2 0 0 0 0,
  ix_e 3 (.invokevirtual (119)) 3 247 3 1 11 0,
  ix_e 6 (.aload_n (0)) 1 0 0 0 0 0,
  ix_e 7 (.iload_n (1)) 1 1 0 0 0 0,
  ix_e 8 (.iload_n (3)) 1 3 0 0 0 0,
  ix_e 9 (.invokevirtual (119)) 3 247 3 1 11 0,
  ix_e 12 (.if_icmp .ge (7)) 3 19 0 0 0 0,
  ix_e 15 (.iconst (1)) 1 0 0 0 0 1,
  ix_e 16 (.goto (4)) 3 20 0 0 0 0,
  ix_e 19 (.iconst (0)) 1 0 0 0 0 0,
  ix_e 20 .ireturn 1 1 0 0 0 0]
/-- VotedBankModel.goesAmong (I)I -/
def ix_t246 : List ix_E := [ix_e 0 (.iconst (0)) 1 0 0 0 0 0,
  ix_e 1 (.istore_n (2)) 1 2 0 0 0 0,
  ix_c 2 (.iload_n (2)) 1 [true, true, true, false] 2 0 0 0 0,
  ix_e 3 (.bipush (6)) 2 0 0 0 0 6,
  ix_e 5 (.if_icmp .ge (16)) 3 21 0 0 0 0,
  ix_e 8 (.aload_n (0)) 1 0 0 0 0 0,
  ix_e 9 (.getfield (80)) 3 11 44 2 0 0,
  ix_e 12 (.iload_n (2)) 1 2 0 0 0 0,
  ix_e 13 (.iconst (0)) 1 0 0 0 0 0,
  ix_e 14 .iastore 1 0 0 0 0 0,
  ix_e 15 (.iinc 2 (1)) 3 2 0 0 0 1,
  ix_e 18 (.goto (-16)) 3 2 0 0 0 0,
  ix_e 21 (.iconst (0)) 1 0 0 0 0 0,
  ix_e 22 (.istore_n (2)) 1 2 0 0 0 0,
  ix_c 23 (.iload_n (2)) 1 [true, true, true, false] 2 0 0 0 0,
  ix_e 24 (.aload_n (0)) 1 0 0 0 0 0,
  ix_e 25 (.getfield (125)) 3 11 7 0 0 0,
  ix_e 28 (.if_icmp .ge (59)) 3 87 0 0 0 0,
  ix_e 31 (.aload_n (0)) 1 0 0 0 0 0,
  ix_e 32 (.getfield (7)) 3 11 1 2 0 0,
  ix_e 35 (.bipush (18)) 2 0 0 0 0 18,
  ix_e 37 (.iload_n (2)) 1 2 0 0 0 0,
  ix_e 38 .iadd 1 0 0 0 0 0,
  ix_e 39 .iaload 1 0 0 0 0 0,
  ix_e 40 (.iconst (1)) 1 0 0 0 0 1,
  ix_e 41 (.if_icmp .ne (6)) 3 47 0 0 0 0,
  ix_e 44 (.goto (37)) 3 81 0 0 0 0,
  ix_e 47 (.aload_n (0)) 1 0 0 0 0 0,
  ix_e 48 (.aload_n (0)) 1 0 0 0 0 0,
  ix_e 49 (.getfield (7)) 3 11 1 2 0 0,
  ix_e 52 (.bipush (6)) 2 0 0 0 0 6,
  ix_e 54 (.iload_n (2)) 1 2 0 0 0 0,
  ix_e 55 .iadd 1 0 0 0 0 0,
  ix_e 56 .iaload 1 0 0 0 0 0,
  ix_e 57 (.iload_n (1)) 1 1 0 0 0 0,
  ix_e 58 (.invokevirtual (412)) 3 271 3 1 11 0,
  ix_e 61 (.istore_n (3)) 1 3 0 0 0 0,
  ix_e 62 (.aload_n (0)) 1 0 0 0 0 0,
  ix_e 63 (.getfield (80)) 3 11 44 2 0 0,
  ix_e 66 (.iload_n (3)) 1 3 0 0 0 0,
  ix_e 67 (.aload_n (0)) 1 0 0 0 0 0,
  ix_e 68 (.getfield (80)) 3 11 44 2 0 0,
  ix_e 71 (.iload_n (3)) 1 3 0 0 0 0,
  ix_e 72 .iaload 1 0 0 0 0 0,
  ix_e 73 (.aload_n (0)) 1 0 0 0 0 0,
  ix_e 74 (.getfield (83)) 3 11 45 2 0 0,
  ix_e 77 (.iload_n (2)) 1 2 0 0 0 0,
  ix_e 78 .iaload 1 0 0 0 0 0,
  ix_e 79 .iadd 1 0 0 0 0 0,
  ix_e 80 .iastore 1 0 0 0 0 0,
  ix_e 81 (.iinc 2 (1)) 3 2 0 0 0 1,
  ix_e 84 (.goto (-61)) 3 23 0 0 0 0,
  ix_e 87 (.iconst (-1)) 1 0 0 0 0 (-1),
  ix_e 88 (.istore_n (2)) 1 2 0 0 0 0,
  ix_e 89 (.iconst (1)) 1 0 0 0 0 1,
  ix_e 90 (.istore_n (3)) 1 3 0 0 0 0,
  ix_c 91 (.iload_n (3)) 1 [true, true, true, true] 3 0 0 0 0,
  ix_e 92 (.bipush (6)) 2 0 0 0 0 6,
  ix_e 94 (.if_icmp .ge (40)) 3 134 0 0 0 0,
  ix_e 97 (.aload_n (0)) 1 0 0 0 0 0,
  ix_e 98 (.iload_n (1)) 1 1 0 0 0 0,
  ix_e 99 (.iload_n (3)) 1 3 0 0 0 0,
  ix_e 100 (.invokevirtual (255)) 3 197 3 1 11 0,
  ix_e 103 (.ifCond .eq (25)) 3 128 0 0 0 0,
  ix_e 106 (.iload_n (2)) 1 2 0 0 0 0,
  ix_e 107 (.iconst (-1)) 1 0 0 0 0 (-1),
  ix_e 108 (.if_icmp .eq (18)) 3 126 0 0 0 0,
  ix_e 111 (.aload_n (0)) 1 0 0 0 0 0,
  ix_e 112 (.getfield (80)) 3 11 44 2 0 0,
  ix_e 115 (.iload_n (3)) 1 3 0 0 0 0,
  ix_e 116 .iaload 1 0 0 0 0 0,
  ix_e 117 (.aload_n (0)) 1 0 0 0 0 0,
  ix_e 118 (.getfield (80)) 3 11 44 2 0 0,
  ix_e 121 (.iload_n (2)) 1 2 0 0 0 0,
  ix_e 122 .iaload 1 0 0 0 0 0,
  ix_e 123 (.if_icmp .gt (5)) 3 128 0 0 0 0,
  ix_e 126 (.iload_n (3)) 1 3 0 0 0 0,
  ix_e 127 (.istore_n (2)) 1 2 0 0 0 0,
  ix_e 128 (.iinc 3 (1)) 3 3 0 0 0 1,
  ix_e 131 (.goto (-40)) 3 91 0 0 0 0,
  ix_e 134 (.iload_n (2)) 1 2 0 0 0 0,
  ix_e 135 .ireturn 1 0 0 0 0 0]
/-- VotedBankModel.placeIn (II)I -/
def ix_t247 : List ix_E := [ix_e 0 (.iconst (0)) 1 0 0 0 0 0,
  ix_e 1 (.istore_n (3)) 1 3 0 0 0 0,
  ix_c 2 (.aload_n (0)) 1 [true, true, true, true] 0 0 0 0 0,
  ix_e 3 (.iload_n (1)) 1 1 0 0 0 0,
  ix_e 4 (.iload_n (3)) 1 3 0 0 0 0,
  ix_e 5 (.invokevirtual (110)) 3 230 3 1 11 0,
  ix_e 8 (.iload_n (2)) 1 2 0 0 0 0,
  ix_e 9 (.if_icmp .eq (10)) 3 19 0 0 0 0,
  ix_e 12 (.iload_n (3)) 1 3 0 0 0 0,
  ix_e 13 (.iconst (1)) 1 0 0 0 0 1,
  ix_e 14 .iadd 1 0 0 0 0 0,
  ix_e 15 (.istore_n (3)) 1 3 0 0 0 0,
  ix_e 16 (.goto (-14)) 3 2 0 0 0 0,
  ix_e 19 (.iload_n (3)) 1 3 0 0 0 0,
  ix_e 20 .ireturn 1 0 0 0 0 0]
/-- VotedBankModel.putBy (I)I -/
def ix_t248 : List ix_E := [ix_e 0 (.aload_n (0)) 1 0 0 0 0 0,
  ix_e 1 (.iload_n (1)) 1 1 0 0 0 0,
  ix_e 2 (.iconst (0)) 1 0 0 0 0 0,
  ix_e 3 (.invokevirtual (110)) 3 230 3 1 11 0,
  ix_e 6 (.istore_n (2)) 1 2 0 0 0 0,
  ix_e 7 (.iconst (1)) 1 0 0 0 0 1,
  ix_e 8 (.istore_n (3)) 1 3 0 0 0 0,
  ix_c 9 (.iload_n (3)) 1 [true, true, true, true] 3 0 0 0 0,
  ix_e 10 (.iconst (5)) 1 0 0 0 0 5,
  ix_e 11 (.if_icmp .ge (35)) 3 46 0 0 0 0,
  ix_e 14 (.aload_n (0)) 1 0 0 0 0 0,
  ix_e 15 (.getfield (86)) 3 11 46 2 0 0,
  ix_e 18 (.bipush (6)) 2 0 0 0 0 6,
  ix_e 20 (.iload_n (2)) 1 2 0 0 0 0,
  ix_e 21 .imul 1 0 0 0 0 0,
  ix_e 22 (.aload_n (0)) 1 0 0 0 0 0,
  ix_e 23 (.iload_n (1)) 1 1 0 0 0 0,
  ix_e 24 (.iload_n (3)) 1 3 0 0 0 0,
  ix_e 25 (.invokevirtual (110)) 3 230 3 1 11 0,
  ix_e 28 .iadd 1 0 0 0 0 0,
  ix_e 29 .iaload 1 0 0 0 0 0,
  ix_e 30 (.ifCond .ge (10)) 3 40 0 0 0 0,
  ix_e 33 (.aload_n (0)) 1 0 0 0 0 0,
  ix_e 34 (.iload_n (1)) 1 1 0 0 0 0,
  ix_e 35 (.iload_n (3)) 1 3 0 0 0 0,
  ix_e 36 (.invokevirtual (110)) 3 230 3 1 11 0,
  ix_e 39 (.istore_n (2)) 1 2 0 0 0 0,
  ix_e 40 (.iinc 3 (1)) 3 3 0 0 0 1,
  ix_e 43 (.goto (-34)) 3 9 0 0 0 0,
  ix_e 46 (.iload_n (2)) 1 2 0 0 0 0,
  ix_e 47 .ireturn 1 0 0 0 0 0]
/-- VotedBankModel.raw (I)I -/
def ix_t249 : List ix_E := [ix_e 0 (.iload_n (1)) 1 1 0 0 0 0,
  ix_e 1 (.aload_n (0)) 1 0 0 0 0 0,
  ix_e 2 (.getfield (145)) 3 11 13 0 0 0,
  ix_e 5 (.if_icmp .ge (12)) 3 17 0 0 0 0,
  ix_e 8 (.aload_n (0)) 1 0 0 0 0 0,
  ix_e 9 (.getfield (31)) 3 11 12 2 0 0,
  ix_e 12 (.iload_n (1)) 1 1 0 0 0 0,
  ix_e 13 .iaload 1 0 0 0 0 0,
  ix_e 14 (.goto (4)) 3 18 0 0 0 0,
  ix_e 17 (.iconst (-1)) 1 0 0 0 0 (-1),
  ix_e 18 .ireturn 1 0 0 0 0 0]
/-- VotedBankModel.isLetter (I)Z -/
def ix_t250 : List ix_E := [ix_e 0 (.aload_n (0)) 1 0 0 0 0 0,
  ix_e 1 (.iload_n (1)) 1 1 0 0 0 0,
  ix_e 2 (.bipush (97)) 2 0 0 0 0 97,
  ix_e 4 (.bipush (122)) 2 0 0 0 0 122,
  ix_e 6 (.invokevirtual (115)) 3 189 4 1 11 0,
  ix_e 9 (.ifCond .ne (15)) 3 24 0 0 0 0,
  ix_e 12 (.aload_n (0)) 1 0 0 0 0 0,
  ix_e 13 (.iload_n (1)) 1 1 0 0 0 0,
  ix_e 14 (.bipush (65)) 2 0 0 0 0 65,
  ix_e 16 (.bipush (90)) 2 0 0 0 0 90,
  ix_e 18 (.invokevirtual (115)) 3 189 4 1 11 0,
  ix_e 21 (.ifCond .eq (7)) 3 28 0 0 0 0,
  ix_e 24 (.iconst (1)) 1 0 0 0 0 1,
  ix_e 25 (.goto (4)) 3 29 0 0 0 0,
  ix_e 28 (.iconst (0)) 1 0 0 0 0 0,
  ix_e 29 .ireturn 1 1 0 0 0 0]
/-- VotedBankModel.wordAt (II)I -/
def ix_t251 : List ix_E := [ix_e 0 (.iconst (-1)) 1 0 0 0 0 (-1),
  ix_e 1 (.istore_n (3)) 1 3 0 0 0 0,
  ix_e 2 (.iconst (0)) 1 0 0 0 0 0,
  ix_e 3 (.istore (4)) 2 4 0 0 0 0,
  ix_c 5 (.iload (4)) 2 [true, true, true, true, true, false] 4 0 0 0 0,
  ix_e 7 (.sipush (134)) 3 0 0 0 0 134,
  ix_e 10 (.if_icmp .ge (108)) 3 118 0 0 0 0,
  ix_e 13 (.iconst (0)) 1 0 0 0 0 0,
  ix_e 14 (.istore (5)) 2 5 0 0 0 0,
  ix_e 16 (.iload_n (3)) 1 3 0 0 0 0,
  ix_e 17 (.iconst (1)) 1 0 0 0 0 1,
  ix_e 18 .iadd 1 0 0 0 0 0,
  ix_e 19 (.istore_n (3)) 1 3 0 0 0 0,
  ix_c 20 (.iload_n (1)) 1 [true, true, true, true, true, true] 1 0 0 0 0,
  ix_e 21 (.iload (5)) 2 5 0 0 0 0,
  ix_e 23 .iadd 1 0 0 0 0 0,
  ix_e 24 (.iload_n (2)) 1 2 0 0 0 0,
  ix_e 25 (.if_icmp .ge (36)) 3 61 0 0 0 0,
  ix_e 28 (.aload_n (0)) 1 0 0 0 0 0,
  ix_e 29 (.getfield (34)) 3 11 18 2 0 0,
  ix_e 32 (.iload (4)) 2 4 0 0 0 0,
  ix_e 34 (.iconst (1)) 1 0 0 0 0 1,
  ix_e 35 .iadd 1 0 0 0 0 0,
  ix_e 36 (.iload (5)) 2 5 0 0 0 0,
  ix_e 38 .iadd 1 0 0 0 0 0,
  ix_e 39 .iaload 1 0 0 0 0 0,
  ix_e 40 (.aload_n (0)) 1 0 0 0 0 0,
  ix_e 41 (.getfield (31)) 3 11 12 2 0 0,
  ix_e 44 (.iload_n (1)) 1 1 0 0 0 0,
  ix_e 45 (.iload (5)) 2 5 0 0 0 0,
  ix_e 47 .iadd 1 0 0 0 0 0,
  ix_e 48 .iaload 1 0 0 0 0 0,
  ix_e 49 (.if_icmp .ne (12)) 3 61 0 0 0 0,
  ix_e 52 (.iload (5)) 2 5 0 0 0 0,
  ix_e 54 (.iconst (1)) 1 0 0 0 0 1,
  ix_e 55 .iadd 1 0 0 0 0 0,
  ix_e 56 (.istore (5)) 2 5 0 0 0 0,
  ix_e 58 (.goto (-38)) 3 20 0 0 0 0,
  ix_e 61 (.iload_n (1)) 1 1 0 0 0 0,
  ix_e 62 (.iload (5)) 2 5 0 0 0 0,
  ix_e 64 .iadd 1 0 0 0 0 0,
  ix_e 65 (.iload_n (2)) 1 2 0 0 0 0,
  ix_e 66 (.if_icmp .ne (22)) 3 88 0 0 0 0,
  ix_e 69 (.aload_n (0)) 1 0 0 0 0 0,
  ix_e 70 (.getfield (34)) 3 11 18 2 0 0,
  ix_e 73 (.iload (4)) 2 4 0 0 0 0,
  ix_e 75 (.iconst (1)) 1 0 0 0 0 1,
  ix_e 76 .iadd 1 0 0 0 0 0,
  ix_e 77 (.iload (5)) 2 5 0 0 0 0,
  ix_e 79 .iadd 1 0 0 0 0 0,
  ix_e 80 .iaload 1 0 0 0 0 0,
  ix_e 81 (.bipush (32)) 2 0 0 0 0 32,
  ix_e 83 (.if_icmp .ne (5)) 3 88 0 0 0 0,
  ix_e 86 (.iload_n (3)) 1 3 0 0 0 0,
  ix_e 87 .ireturn 1 0 0 0 0 0,
  ix_e 88 (.iload (4)) 2 4 0 0 0 0,
  ix_e 90 (.iconst (1)) 1 0 0 0 0 1,
  ix_e 91 .iadd 1 0 0 0 0 0,
  ix_e 92 (.istore (4)) 2 4 0 0 0 0,
  ix_c 94 (.aload_n (0)) 1 [true, true, true, true, true, false] 0 0 0 0 0,
  ix_e 95 (.getfield (34)) 3 11 18 2 0 0,
  ix_e 98 (.iload (4)) 2 4 0 0 0 0,
  ix_e 100 .iaload 1 0 0 0 0 0,
  ix_e 101 (.bipush (32)) 2 0 0 0 0 32,
  ix_e 103 (.if_icmp .eq (12)) 3 115 0 0 0 0,
  ix_e 106 (.iload (4)) 2 4 0 0 0 0,
  ix_e 108 (.iconst (1)) 1 0 0 0 0 1,
  ix_e 109 .iadd 1 0 0 0 0 0,
  ix_e 110 (.istore (4)) 2 4 0 0 0 0,
  ix_e 112 (.goto (-18)) 3 94 0 0 0 0,
  ix_e 115 (.goto (-110)) 3 5 0 0 0 0,
  ix_e 118 (.iconst (-1)) 1 0 0 0 0 (-1),
  ix_e 119 .ireturn 1 0 0 0 0 0]
/-- VotedBankModel.isDigit (I)Z -/
def ix_t252 : List ix_E := [ix_e 0 (.aload_n (0)) 1 0 0 0 0 0,
  ix_e 1 (.iload_n (1)) 1 1 0 0 0 0,
  ix_e 2 (.bipush (48)) 2 0 0 0 0 48,
  ix_e 4 (.bipush (57)) 2 0 0 0 0 57,
  ix_e 6 (.invokevirtual (115)) 3 189 4 1 11 0,
  ix_e 9 .ireturn 1 1 0 0 0 0]
/-- VotedBankModel.isMarkSign (I)Z -/
def ix_t253 : List ix_E := [ix_e 0 (.iload_n (1)) 1 1 0 0 0 0,
  ix_e 1 (.bipush (59)) 2 0 0 0 0 59,
  ix_e 3 (.if_icmp .eq (57)) 3 60 0 0 0 0,
  ix_e 6 (.iload_n (1)) 1 1 0 0 0 0,
  ix_e 7 (.bipush (43)) 2 0 0 0 0 43,
  ix_e 9 (.if_icmp .eq (51)) 3 60 0 0 0 0,
  ix_e 12 (.iload_n (1)) 1 1 0 0 0 0,
  ix_e 13 (.bipush (45)) 2 0 0 0 0 45,
  ix_e 15 (.if_icmp .eq (45)) 3 60 0 0 0 0,
  ix_e 18 (.iload_n (1)) 1 1 0 0 0 0,
  ix_e 19 (.bipush (42)) 2 0 0 0 0 42,
  ix_e 21 (.if_icmp .eq (39)) 3 60 0 0 0 0,
  ix_e 24 (.iload_n (1)) 1 1 0 0 0 0,
  ix_e 25 (.bipush (47)) 2 0 0 0 0 47,
  ix_e 27 (.if_icmp .eq (33)) 3 60 0 0 0 0,
  ix_e 30 (.iload_n (1)) 1 1 0 0 0 0,
  ix_e 31 (.bipush (40)) 2 0 0 0 0 40,
  ix_e 33 (.if_icmp .eq (27)) 3 60 0 0 0 0,
  ix_e 36 (.iload_n (1)) 1 1 0 0 0 0,
  ix_e 37 (.bipush (41)) 2 0 0 0 0 41,
  ix_e 39 (.if_icmp .eq (21)) 3 60 0 0 0 0,
  ix_e 42 (.iload_n (1)) 1 1 0 0 0 0,
  ix_e 43 (.bipush (60)) 2 0 0 0 0 60,
  ix_e 45 (.if_icmp .eq (15)) 3 60 0 0 0 0,
  ix_e 48 (.iload_n (1)) 1 1 0 0 0 0,
  ix_e 49 (.bipush (61)) 2 0 0 0 0 61,
  ix_e 51 (.if_icmp .eq (9)) 3 60 0 0 0 0,
  ix_e 54 (.iload_n (1)) 1 1 0 0 0 0,
  ix_e 55 (.bipush (62)) 2 0 0 0 0 62,
  ix_e 57 (.if_icmp .ne (7)) 3 64 0 0 0 0,
  ix_e 60 (.iconst (1)) 1 0 0 0 0 1,
  ix_e 61 (.goto (4)) 3 65 0 0 0 0,
  ix_e 64 (.iconst (0)) 1 0 0 0 0 0,
  ix_e 65 .ireturn 1 1 0 0 0 0]
/-- VotedBankModel.isWord (I)Z -/
def ix_t254 : List ix_E := [ix_e 0 (.aload_n (0)) 1 0 0 0 0 0,
  ix_e 1 (.getfield (162)) 3 11 16 0 0 0,
  ix_e 4 (.iconst (2)) 1 0 0 0 0 2,
  ix_e 5 (.if_icmp .ne (15)) 3 20 0 0 0 0,
  ix_e 8 (.aload_n (0)) 1 0 0 0 0 0,
  ix_e 9 (.getfield (165)) 3 11 17 0 0 0,
  ix_e 12 (.iload_n (1)) 1 1 0 0 0 0,
  ix_e 13 (.if_icmp .ne (7)) 3 20 0 0 0 0,
  ix_e 16 (.iconst (1)) 1 0 0 0 0 1,
  ix_e 17 (.goto (4)) 3 21 0 0 0 0,
  ix_e 20 (.iconst (0)) 1 0 0 0 0 0,
  ix_e 21 .ireturn 1 1 0 0 0 0]
/-- VotedBankModel.errs (I)I -/
def ix_t255 : List ix_E := [ix_e 0 (.aload_n (0)) 1 0 0 0 0 0,
  ix_e 1 (.iload_n (1)) 1 1 0 0 0 0,
  ix_e 2 (.putfield (180)) 3 11 31 0 0 0,
  ix_e 5 (.aload_n (0)) 1 0 0 0 0 0,
  ix_e 6 (.aload_n (0)) 1 0 0 0 0 0,
  ix_e 7 (.getfield (159)) 3 11 15 0 0 0,
  ix_e 10 (.putfield (183)) 3 11 32 0 0 0,
  ix_e 13 (.iconst (-1)) 1 0 0 0 0 (-1),
  ix_e 14 .ireturn 1 0 0 0 0 0]
/-- VotedBankModel.readEar ()I -/
def ix_t256 : List ix_E := [ix_e 0 (.aload_n (0)) 1 0 0 0 0 0,
  ix_e 1 (.bipush (18)) 2 0 0 0 0 18,
  ix_e 3 (.iconst (0)) 1 0 0 0 0 0,
  ix_e 4 (.aload_n (0)) 1 0 0 0 0 0,
  ix_e 5 (.getfield (125)) 3 11 7 0 0 0,
  ix_e 8 (.iconst (1)) 1 0 0 0 0 1,
  ix_e 9 .isub 1 0 0 0 0 0,
  ix_e 10 (.invokevirtual (245)) 3 272 4 1 11 0,
  ix_e 13 (.istore_n (1)) 1 1 0 0 0 0,
  ix_e 14 (.iload_n (1)) 1 1 0 0 0 0,
  ix_e 15 (.iconst (-1)) 1 0 0 0 0 (-1),
  ix_e 16 (.if_icmp .ne (5)) 3 21 0 0 0 0,
  ix_e 19 (.iconst (-1)) 1 0 0 0 0 (-1),
  ix_e 20 .ireturn 1 0 0 0 0 0,
  ix_e 21 (.aload_n (0)) 1 0 0 0 0 0,
  ix_e 22 (.bipush (19)) 2 0 0 0 0 19,
  ix_e 24 (.invokevirtual (220)) 3 254 2 1 11 0,
  ix_e 27 (.ifCond .ne (9)) 3 36 0 0 0 0,
  ix_e 30 (.aload_n (0)) 1 0 0 0 0 0,
  ix_e 31 (.iconst (1)) 1 0 0 0 0 1,
  ix_e 32 (.invokevirtual (192)) 3 255 2 1 11 0,
  ix_e 35 .ireturn 1 0 0 0 0 0,
  ix_e 36 (.aload_n (0)) 1 0 0 0 0 0,
  ix_e 37 (.invokevirtual (199)) 3 233 1 0 11 0,
  ix_e 40 (.aload_n (0)) 1 0 0 0 0 0,
  ix_e 41 (.getfield (162)) 3 11 16 0 0 0,
  ix_e 44 (.iconst (3)) 1 0 0 0 0 3,
  ix_e 45 (.if_icmp .ne (17)) 3 62 0 0 0 0,
  ix_e 48 (.aload_n (0)) 1 0 0 0 0 0,
  ix_e 49 (.getfield (165)) 3 11 17 0 0 0,
  ix_e 52 (.iload_n (1)) 1 1 0 0 0 0,
  ix_e 53 (.if_icmp .ne (9)) 3 62 0 0 0 0,
  ix_e 56 (.aload_n (0)) 1 0 0 0 0 0,
  ix_e 57 (.iconst (2)) 1 0 0 0 0 2,
  ix_e 58 (.invokevirtual (192)) 3 255 2 1 11 0,
  ix_e 61 .ireturn 1 0 0 0 0 0,
  ix_e 62 (.aload_n (0)) 1 0 0 0 0 0,
  ix_e 63 (.iconst (0)) 1 0 0 0 0 0,
  ix_e 64 (.aload_n (0)) 1 0 0 0 0 0,
  ix_e 65 (.getfield (125)) 3 11 7 0 0 0,
  ix_e 68 (.iconst (1)) 1 0 0 0 0 1,
  ix_e 69 .isub 1 0 0 0 0 0,
  ix_e 70 (.invokevirtual (242)) 3 273 3 1 11 0,
  ix_e 73 (.istore_n (2)) 1 2 0 0 0 0,
  ix_e 74 (.iload_n (2)) 1 2 0 0 0 0,
  ix_e 75 (.iconst (-1)) 1 0 0 0 0 (-1),
  ix_e 76 (.if_icmp .ne (5)) 3 81 0 0 0 0,
  ix_e 79 (.iconst (-1)) 1 0 0 0 0 (-1),
  ix_e 80 .ireturn 1 0 0 0 0 0,
  ix_e 81 (.aload_n (0)) 1 0 0 0 0 0,
  ix_e 82 (.getfield (65)) 3 11 36 2 0 0,
  ix_e 85 (.bipush (12)) 2 0 0 0 0 12,
  ix_e 87 (.iload_n (1)) 1 1 0 0 0 0,
  ix_e 88 .iadd 1 0 0 0 0 0,
  ix_e 89 (.aload_n (0)) 1 0 0 0 0 0,
  ix_e 90 (.getfield (65)) 3 11 36 2 0 0,
  ix_e 93 (.bipush (12)) 2 0 0 0 0 12,
  ix_e 95 (.iload_n (1)) 1 1 0 0 0 0,
  ix_e 96 .iadd 1 0 0 0 0 0,
  ix_e 97 .iaload 1 0 0 0 0 0,
  ix_e 98 (.iconst (1)) 1 0 0 0 0 1,
  ix_e 99 (.iload_n (2)) 1 2 0 0 0 0,
  ix_e 100 .ishl 1 0 0 0 0 0,
  ix_e 101 .ior 1 0 0 0 0 0,
  ix_e 102 .iastore 1 0 0 0 0 0,
  ix_e 103 (.aload_n (0)) 1 0 0 0 0 0,
  ix_e 104 (.bipush (59)) 2 0 0 0 0 59,
  ix_e 106 (.invokevirtual (249)) 3 274 2 1 11 0,
  ix_e 109 .ireturn 1 0 0 0 0 0]
/-- VotedBankModel.readLogLine (I)I -/
def ix_t257 : List ix_E := [ix_e 0 (.aload_n (0)) 1 0 0 0 0 0,
  ix_e 1 (.getfield (68)) 3 11 38 2 0 0,
  ix_e 4 (.iload_n (1)) 1 1 0 0 0 0,
  ix_e 5 (.aload_n (0)) 1 0 0 0 0 0,
  ix_e 6 (.sipush (4095)) 3 0 0 0 0 4095,
  ix_e 9 (.invokevirtual (259)) 3 275 2 1 11 0,
  ix_e 12 .iastore 1 0 0 0 0 0,
  ix_e 13 (.aload_n (0)) 1 0 0 0 0 0,
  ix_e 14 (.getfield (68)) 3 11 38 2 0 0,
  ix_e 17 (.iload_n (1)) 1 1 0 0 0 0,
  ix_e 18 .iaload 1 0 0 0 0 0,
  ix_e 19 (.iconst (-1)) 1 0 0 0 0 (-1),
  ix_e 20 (.if_icmp .ne (5)) 3 25 0 0 0 0,
  ix_e 23 (.iconst (-1)) 1 0 0 0 0 (-1),
  ix_e 24 .ireturn 1 0 0 0 0 0,
  ix_e 25 (.aload_n (0)) 1 0 0 0 0 0,
  ix_e 26 (.getfield (68)) 3 11 38 2 0 0,
  ix_e 29 (.iload_n (1)) 1 1 0 0 0 0,
  ix_e 30 (.iconst (1)) 1 0 0 0 0 1,
  ix_e 31 .iadd 1 0 0 0 0 0,
  ix_e 32 (.aload_n (0)) 1 0 0 0 0 0,
  ix_e 33 (.bipush (21)) 2 0 0 0 0 21,
  ix_e 35 (.invokevirtual (220)) 3 254 2 1 11 0,
  ix_e 38 (.ifCond .eq (16)) 3 54 0 0 0 0,
  ix_e 41 (.aload_n (0)) 1 0 0 0 0 0,
  ix_e 42 (.aload_n (0)) 1 0 0 0 0 0,
  ix_e 43 (.getfield (68)) 3 11 38 2 0 0,
  ix_e 46 (.iload_n (1)) 1 1 0 0 0 0,
  ix_e 47 .iaload 1 0 0 0 0 0,
  ix_e 48 (.invokevirtual (259)) 3 275 2 1 11 0,
  ix_e 51 (.goto (4)) 3 55 0 0 0 0,
  ix_e 54 (.iconst (0)) 1 0 0 0 0 0,
  ix_e 55 .iastore 1 0 0 0 0 0,
  ix_e 56 (.aload_n (0)) 1 0 0 0 0 0,
  ix_e 57 (.getfield (68)) 3 11 38 2 0 0,
  ix_e 60 (.iload_n (1)) 1 1 0 0 0 0,
  ix_e 61 (.iconst (1)) 1 0 0 0 0 1,
  ix_e 62 .iadd 1 0 0 0 0 0,
  ix_e 63 .iaload 1 0 0 0 0 0,
  ix_e 64 (.iconst (-1)) 1 0 0 0 0 (-1),
  ix_e 65 (.if_icmp .ne (7)) 3 72 0 0 0 0,
  ix_e 68 (.iconst (-1)) 1 0 0 0 0 (-1),
  ix_e 69 (.goto (9)) 3 78 0 0 0 0,
  ix_e 72 (.aload_n (0)) 1 0 0 0 0 0,
  ix_e 73 (.bipush (59)) 2 0 0 0 0 59,
  ix_e 75 (.invokevirtual (249)) 3 274 2 1 11 0,
  ix_e 78 .ireturn 1 0 0 0 0 0]
/-- VotedBankModel.readSeason (I)I -/
def ix_t258 : List ix_E := [ix_e 0 (.aload_n (0)) 1 0 0 0 0 0,
  ix_e 1 (.getfield (71)) 3 11 40 2 0 0,
  ix_e 4 (.iload_n (1)) 1 1 0 0 0 0,
  ix_e 5 (.aload_n (0)) 1 0 0 0 0 0,
  ix_e 6 (.bipush (12)) 2 0 0 0 0 12,
  ix_e 8 (.iconst (0)) 1 0 0 0 0 0,
  ix_e 9 (.iconst (5)) 1 0 0 0 0 5,
  ix_e 10 (.invokevirtual (245)) 3 272 4 1 11 0,
  ix_e 13 .iastore 1 0 0 0 0 0,
  ix_e 14 (.aload_n (0)) 1 0 0 0 0 0,
  ix_e 15 (.getfield (71)) 3 11 40 2 0 0,
  ix_e 18 (.iload_n (1)) 1 1 0 0 0 0,
  ix_e 19 .iaload 1 0 0 0 0 0,
  ix_e 20 (.iconst (-1)) 1 0 0 0 0 (-1),
  ix_e 21 (.if_icmp .ne (5)) 3 26 0 0 0 0,
  ix_e 24 (.iconst (-1)) 1 0 0 0 0 (-1),
  ix_e 25 .ireturn 1 0 0 0 0 0,
  ix_e 26 (.aload_n (0)) 1 0 0 0 0 0,
  ix_e 27 (.getfield (71)) 3 11 40 2 0 0,
  ix_e 30 (.iload_n (1)) 1 1 0 0 0 0,
  ix_e 31 (.iconst (1)) 1 0 0 0 0 1,
  ix_e 32 .iadd 1 0 0 0 0 0,
  ix_e 33 (.aload_n (0)) 1 0 0 0 0 0,
  ix_e 34 (.bipush (22)) 2 0 0 0 0 22,
  ix_e 36 (.iconst (1)) 1 0 0 0 0 1,
  ix_e 37 (.bipush (99)) 2 0 0 0 0 99,
  ix_e 39 (.invokevirtual (245)) 3 272 4 1 11 0,
  ix_e 42 .iastore 1 0 0 0 0 0,
  ix_e 43 (.aload_n (0)) 1 0 0 0 0 0,
  ix_e 44 (.getfield (71)) 3 11 40 2 0 0,
  ix_e 47 (.iload_n (1)) 1 1 0 0 0 0,
  ix_e 48 (.iconst (1)) 1 0 0 0 0 1,
  ix_e 49 .iadd 1 0 0 0 0 0,
  ix_e 50 .iaload 1 0 0 0 0 0,
  ix_e 51 (.iconst (-1)) 1 0 0 0 0 (-1),
  ix_e 52 (.if_icmp .ne (5)) 3 57 0 0 0 0,
  ix_e 55 (.iconst (-1)) 1 0 0 0 0 (-1),
  ix_e 56 .ireturn 1 0 0 0 0 0,
  ix_e 57 (.aload_n (0)) 1 0 0 0 0 0,
  ix_e 58 (.getfield (71)) 3 11 40 2 0 0,
  ix_e 61 (.iload_n (1)) 1 1 0 0 0 0,
  ix_e 62 (.iconst (2)) 1 0 0 0 0 2,
  ix_e 63 .iadd 1 0 0 0 0 0,
  ix_e 64 (.aload_n (0)) 1 0 0 0 0 0,
  ix_e 65 (.bipush (23)) 2 0 0 0 0 23,
  ix_e 67 (.iconst (0)) 1 0 0 0 0 0,
  ix_e 68 (.iconst (5)) 1 0 0 0 0 5,
  ix_e 69 (.invokevirtual (245)) 3 272 4 1 11 0,
  ix_e 72 .iastore 1 0 0 0 0 0,
  ix_e 73 (.aload_n (0)) 1 0 0 0 0 0,
  ix_e 74 (.getfield (71)) 3 11 40 2 0 0,
  ix_e 77 (.iload_n (1)) 1 1 0 0 0 0,
  ix_e 78 (.iconst (2)) 1 0 0 0 0 2,
  ix_e 79 .iadd 1 0 0 0 0 0,
  ix_e 80 .iaload 1 0 0 0 0 0,
  ix_e 81 (.iconst (-1)) 1 0 0 0 0 (-1),
  ix_e 82 (.if_icmp .ne (7)) 3 89 0 0 0 0,
  ix_e 85 (.iconst (-1)) 1 0 0 0 0 (-1),
  ix_e 86 (.goto (9)) 3 95 0 0 0 0,
  ix_e 89 (.aload_n (0)) 1 0 0 0 0 0,
  ix_e 90 (.bipush (59)) 2 0 0 0 0 59,
  ix_e 92 (.invokevirtual (249)) 3 274 2 1 11 0,
  ix_e 95 .ireturn 1 0 0 0 0 0]
/-- VotedBankModel.isLineWord ()Z -/
def ix_t259 : List ix_E := [ix_e 0 (.aload_n (0)) 1 0 0 0 0 0,
  ix_e 1 (.getfield (162)) 3 11 16 0 0 0,
  ix_e 4 (.iconst (2)) 1 0 0 0 0 2,
  ix_e 5 (.if_icmp .ne (20)) 3 25 0 0 0 0,
  ix_e 8 (.aload_n (0)) 1 0 0 0 0 0,
  ix_e 9 (.aload_n (0)) 1 0 0 0 0 0,
  ix_e 10 (.getfield (165)) 3 11 17 0 0 0,
  ix_e 13 (.iconst (0)) 1 0 0 0 0 0,
  ix_e 14 (.iconst (2)) 1 0 0 0 0 2,
  ix_e 15 (.invokevirtual (115)) 3 189 4 1 11 0,
  ix_e 18 (.ifCond .eq (7)) 3 25 0 0 0 0,
  ix_e 21 (.iconst (1)) 1 0 0 0 0 1,
  ix_e 22 (.goto (4)) 3 26 0 0 0 0,
  ix_e 25 (.iconst (0)) 1 0 0 0 0 0,
  ix_e 26 .ireturn 1 1 0 0 0 0]
/-- VotedBankModel.readSum ()I -/
def ix_t260 : List ix_E := [ix_e 0 (.aload_n (0)) 1 0 0 0 0 0,
  ix_e 1 (.invokevirtual (208)) 3 276 1 1 11 0,
  ix_e 4 (.iconst (-1)) 1 0 0 0 0 (-1),
  ix_e 5 (.if_icmp .ne (5)) 3 10 0 0 0 0,
  ix_e 8 (.iconst (-1)) 1 0 0 0 0 (-1),
  ix_e 9 .ireturn 1 0 0 0 0 0,
  ix_c 10 (.aload_n (0)) 1 [true, false] 0 0 0 0 0,
  ix_e 11 (.bipush (43)) 2 0 0 0 0 43,
  ix_e 13 (.invokevirtual (205)) 3 262 2 1 11 0,
  ix_e 16 (.ifCond .ne (12)) 3 28 0 0 0 0,
  ix_e 19 (.aload_n (0)) 1 0 0 0 0 0,
  ix_e 20 (.bipush (45)) 2 0 0 0 0 45,
  ix_e 22 (.invokevirtual (205)) 3 262 2 1 11 0,
  ix_e 25 (.ifCond .eq (41)) 3 66 0 0 0 0,
  ix_e 28 (.aload_n (0)) 1 0 0 0 0 0,
  ix_e 29 (.getfield (165)) 3 11 17 0 0 0,
  ix_e 32 (.bipush (43)) 2 0 0 0 0 43,
  ix_e 34 (.if_icmp .ne (7)) 3 41 0 0 0 0,
  ix_e 37 (.iconst (2)) 1 0 0 0 0 2,
  ix_e 38 (.goto (4)) 3 42 0 0 0 0,
  ix_e 41 (.iconst (3)) 1 0 0 0 0 3,
  ix_e 42 (.istore_n (1)) 1 1 0 0 0 0,
  ix_e 43 (.aload_n (0)) 1 0 0 0 0 0,
  ix_e 44 (.invokevirtual (199)) 3 233 1 0 11 0,
  ix_e 47 (.aload_n (0)) 1 0 0 0 0 0,
  ix_e 48 (.invokevirtual (208)) 3 276 1 1 11 0,
  ix_e 51 (.iconst (-1)) 1 0 0 0 0 (-1),
  ix_e 52 (.if_icmp .ne (5)) 3 57 0 0 0 0,
  ix_e 55 (.iconst (-1)) 1 0 0 0 0 (-1),
  ix_e 56 .ireturn 1 0 0 0 0 0,
  ix_e 57 (.aload_n (0)) 1 0 0 0 0 0,
  ix_e 58 (.iload_n (1)) 1 1 0 0 0 0,
  ix_e 59 (.iconst (0)) 1 0 0 0 0 0,
  ix_e 60 (.invokevirtual (195)) 3 277 3 0 11 0,
  ix_e 63 (.goto (-53)) 3 10 0 0 0 0,
  ix_e 66 (.iconst (0)) 1 0 0 0 0 0,
  ix_e 67 .ireturn 1 0 0 0 0 0]
/-- VotedBankModel.readAny ()I -/
def ix_t261 : List ix_E := [ix_e 0 (.iconst (0)) 1 0 0 0 0 0,
  ix_e 1 (.istore_n (1)) 1 1 0 0 0 0,
  ix_e 2 (.aload_n (0)) 1 0 0 0 0 0,
  ix_e 3 (.iconst (0)) 1 0 0 0 0 0,
  ix_e 4 (.putfield (214)) 3 11 30 0 0 0,
  ix_e 7 (.iconst (1)) 1 0 0 0 0 1,
  ix_e 8 (.istore_n (2)) 1 2 0 0 0 0,
  ix_c 9 (.iload_n (2)) 1 [true, true, true, false] 2 0 0 0 0,
  ix_e 10 (.ifCond .eq (99)) 3 109 0 0 0 0,
  ix_e 13 (.aload_n (0)) 1 0 0 0 0 0,
  ix_e 14 (.bipush (6)) 2 0 0 0 0 6,
  ix_e 16 (.invokevirtual (220)) 3 254 2 1 11 0,
  ix_e 19 (.istore_n (3)) 1 3 0 0 0 0,
  ix_e 20 (.iload_n (3)) 1 3 0 0 0 0,
  ix_e 21 (.ifCond .ne (12)) 3 33 0 0 0 0,
  ix_e 24 (.aload_n (0)) 1 0 0 0 0 0,
  ix_e 25 (.bipush (40)) 2 0 0 0 0 40,
  ix_e 27 (.invokevirtual (205)) 3 262 2 1 11 0,
  ix_e 30 (.ifCond .eq (58)) 3 88 0 0 0 0,
  ix_e 33 (.aload_n (0)) 1 0 0 0 0 0,
  ix_e 34 (.getfield (217)) 3 11 28 0 0 0,
  ix_e 37 (.bipush (8)) 2 0 0 0 0 8,
  ix_e 39 (.if_icmp .ne (9)) 3 48 0 0 0 0,
  ix_e 42 (.aload_n (0)) 1 0 0 0 0 0,
  ix_e 43 (.iconst (3)) 1 0 0 0 0 3,
  ix_e 44 (.invokevirtual (192)) 3 255 2 1 11 0,
  ix_e 47 .ireturn 1 0 0 0 0 0,
  ix_e 48 (.aload_n (0)) 1 0 0 0 0 0,
  ix_e 49 (.aload_n (0)) 1 0 0 0 0 0,
  ix_e 50 (.getfield (217)) 3 11 28 0 0 0,
  ix_e 53 (.iconst (1)) 1 0 0 0 0 1,
  ix_e 54 .iadd 1 0 0 0 0 0,
  ix_e 55 (.putfield (217)) 3 11 28 0 0 0,
  ix_e 58 (.iload_n (3)) 1 3 0 0 0 0,
  ix_e 59 (.ifCond .ne (7)) 3 66 0 0 0 0,
  ix_e 62 (.iload_n (1)) 1 1 0 0 0 0,
  ix_e 63 (.iconst (1)) 1 0 0 0 0 1,
  ix_e 64 .iadd 1 0 0 0 0 0,
  ix_e 65 (.istore_n (1)) 1 1 0 0 0 0,
  ix_e 66 (.aload_n (0)) 1 0 0 0 0 0,
  ix_e 67 (.iload_n (3)) 1 3 0 0 0 0,
  ix_e 68 (.ifCond .eq (8)) 3 76 0 0 0 0,
  ix_e 71 (.bipush (9)) 2 0 0 0 0 9,
  ix_e 73 (.goto (5)) 3 78 0 0 0 0,
  ix_e 76 (.bipush (12)) 2 0 0 0 0 12,
  ix_e 78 (.invokevirtual (223)) 3 278 2 0 11 0,
  ix_e 81 (.aload_n (0)) 1 0 0 0 0 0,
  ix_e 82 (.invokevirtual (199)) 3 233 1 0 11 0,
  ix_e 85 (.goto (-76)) 3 9 0 0 0 0,
  ix_e 88 (.aload_n (0)) 1 0 0 0 0 0,
  ix_e 89 (.invokevirtual (226)) 3 279 1 1 11 0,
  ix_e 92 (.iconst (-1)) 1 0 0 0 0 (-1),
  ix_e 93 (.if_icmp .ne (5)) 3 98 0 0 0 0,
  ix_e 96 (.iconst (-1)) 1 0 0 0 0 (-1),
  ix_e 97 .ireturn 1 0 0 0 0 0,
  ix_e 98 (.aload_n (0)) 1 0 0 0 0 0,
  ix_e 99 (.bipush (9)) 2 0 0 0 0 9,
  ix_e 101 (.invokevirtual (229)) 3 280 2 0 11 0,
  ix_e 104 (.iconst (0)) 1 0 0 0 0 0,
  ix_e 105 (.istore_n (2)) 1 2 0 0 0 0,
  ix_e 106 (.goto (-97)) 3 9 0 0 0 0,
  ix_e 109 (.aload_n (0)) 1 0 0 0 0 0,
  ix_e 110 (.iconst (5)) 1 0 0 0 0 5,
  ix_e 111 (.invokevirtual (220)) 3 254 2 1 11 0,
  ix_e 114 (.ifCond .eq (24)) 3 138 0 0 0 0,
  ix_e 117 (.aload_n (0)) 1 0 0 0 0 0,
  ix_e 118 (.bipush (10)) 2 0 0 0 0 10,
  ix_e 120 (.invokevirtual (229)) 3 280 2 0 11 0,
  ix_e 123 (.aload_n (0)) 1 0 0 0 0 0,
  ix_e 124 (.bipush (10)) 2 0 0 0 0 10,
  ix_e 126 (.invokevirtual (223)) 3 278 2 0 11 0,
  ix_e 129 (.aload_n (0)) 1 0 0 0 0 0,
  ix_e 130 (.invokevirtual (199)) 3 233 1 0 11 0,
  ix_e 133 (.iconst (1)) 1 0 0 0 0 1,
  ix_e 134 (.istore_n (2)) 1 2 0 0 0 0,
  ix_e 135 (.goto (-126)) 3 9 0 0 0 0,
  ix_e 138 (.aload_n (0)) 1 0 0 0 0 0,
  ix_e 139 (.iconst (4)) 1 0 0 0 0 4,
  ix_e 140 (.invokevirtual (220)) 3 254 2 1 11 0,
  ix_e 143 (.ifCond .eq (30)) 3 173 0 0 0 0,
  ix_e 146 (.aload_n (0)) 1 0 0 0 0 0,
  ix_e 147 (.bipush (10)) 2 0 0 0 0 10,
  ix_e 149 (.invokevirtual (229)) 3 280 2 0 11 0,
  ix_e 152 (.aload_n (0)) 1 0 0 0 0 0,
  ix_e 153 (.bipush (11)) 2 0 0 0 0 11,
  ix_e 155 (.invokevirtual (229)) 3 280 2 0 11 0,
  ix_e 158 (.aload_n (0)) 1 0 0 0 0 0,
  ix_e 159 (.bipush (11)) 2 0 0 0 0 11,
  ix_e 161 (.invokevirtual (223)) 3 278 2 0 11 0,
  ix_e 164 (.aload_n (0)) 1 0 0 0 0 0,
  ix_e 165 (.invokevirtual (199)) 3 233 1 0 11 0,
  ix_e 168 (.iconst (1)) 1 0 0 0 0 1,
  ix_e 169 (.istore_n (2)) 1 2 0 0 0 0,
  ix_e 170 (.goto (-161)) 3 9 0 0 0 0,
  ix_e 173 (.aload_n (0)) 1 0 0 0 0 0,
  ix_e 174 (.bipush (10)) 2 0 0 0 0 10,
  ix_e 176 (.invokevirtual (229)) 3 280 2 0 11 0,
  ix_e 179 (.aload_n (0)) 1 0 0 0 0 0,
  ix_e 180 (.bipush (11)) 2 0 0 0 0 11,
  ix_e 182 (.invokevirtual (229)) 3 280 2 0 11 0,
  ix_e 185 (.iload_n (1)) 1 1 0 0 0 0,
  ix_e 186 (.ifCond .ne (5)) 3 191 0 0 0 0,
  ix_e 189 (.iconst (0)) 1 0 0 0 0 0,
  ix_e 190 .ireturn 1 0 0 0 0 0,
  ix_e 191 (.aload_n (0)) 1 0 0 0 0 0,
  ix_e 192 (.bipush (41)) 2 0 0 0 0 41,
  ix_e 194 (.invokevirtual (205)) 3 262 2 1 11 0,
  ix_e 197 (.ifCond .ne (9)) 3 206 0 0 0 0,
  ix_e 200 (.aload_n (0)) 1 0 0 0 0 0,
  ix_e 201 (.iconst (1)) 1 0 0 0 0 1,
  ix_e 202 (.invokevirtual (192)) 3 255 2 1 11 0,
  ix_e 205 .ireturn 1 0 0 0 0 0,
  ix_e 206 (.aload_n (0)) 1 0 0 0 0 0,
  ix_e 207 (.aload_n (0)) 1 0 0 0 0 0,
  ix_e 208 (.getfield (214)) 3 11 30 0 0 0,
  ix_e 211 (.iconst (1)) 1 0 0 0 0 1,
  ix_e 212 .isub 1 0 0 0 0 0,
  ix_e 213 (.putfield (214)) 3 11 30 0 0 0,
  ix_e 216 (.iload_n (1)) 1 1 0 0 0 0,
  ix_e 217 (.iconst (1)) 1 0 0 0 0 1,
  ix_e 218 .isub 1 0 0 0 0 0,
  ix_e 219 (.istore_n (1)) 1 1 0 0 0 0,
  ix_e 220 (.aload_n (0)) 1 0 0 0 0 0,
  ix_e 221 (.aload_n (0)) 1 0 0 0 0 0,
  ix_e 222 (.getfield (217)) 3 11 28 0 0 0,
  ix_e 225 (.iconst (1)) 1 0 0 0 0 1,
  ix_e 226 .isub 1 0 0 0 0 0,
  ix_e 227 (.putfield (217)) 3 11 28 0 0 0,
  ix_e 230 (.aload_n (0)) 1 0 0 0 0 0,
  ix_e 231 (.bipush (9)) 2 0 0 0 0 9,
  ix_e 233 (.invokevirtual (229)) 3 280 2 0 11 0,
  ix_e 236 (.aload_n (0)) 1 0 0 0 0 0,
  ix_e 237 (.invokevirtual (199)) 3 233 1 0 11 0,
  ix_e 240 (.goto (-231)) 3 9 0 0 0 0]
/-- VotedBankModel.isSign (I)Z -/
def ix_t262 : List ix_E := [ix_e 0 (.aload_n (0)) 1 0 0 0 0 0,
  ix_e 1 (.getfield (162)) 3 11 16 0 0 0,
  ix_e 4 (.iconst (4)) 1 0 0 0 0 4,
  ix_e 5 (.if_icmp .ne (15)) 3 20 0 0 0 0,
  ix_e 8 (.aload_n (0)) 1 0 0 0 0 0,
  ix_e 9 (.getfield (165)) 3 11 17 0 0 0,
  ix_e 12 (.iload_n (1)) 1 1 0 0 0 0,
  ix_e 13 (.if_icmp .ne (7)) 3 20 0 0 0 0,
  ix_e 16 (.iconst (1)) 1 0 0 0 0 1,
  ix_e 17 (.goto (4)) 3 21 0 0 0 0,
  ix_e 20 (.iconst (0)) 1 0 0 0 0 0,
  ix_e 21 .ireturn 1 1 0 0 0 0]
/-- VotedBankModel.lineOf (I)I -/
def ix_t263 : List ix_E := [ix_e 0 (.iconst (0)) 1 0 0 0 0 0,
  ix_e 1 (.istore_n (2)) 1 2 0 0 0 0,
  ix_c 2 (.iload_n (2)) 1 [true, true, true] 2 0 0 0 0,
  ix_e 3 (.aload_n (0)) 1 0 0 0 0 0,
  ix_e 4 (.getfield (37)) 3 11 19 2 0 0,
  ix_e 7 (.iconst (0)) 1 0 0 0 0 0,
  ix_e 8 .iaload 1 0 0 0 0 0,
  ix_e 9 (.if_icmp .ge (56)) 3 65 0 0 0 0,
  ix_e 12 (.aload_n (0)) 1 0 0 0 0 0,
  ix_e 13 (.getfield (40)) 3 11 20 2 0 0,
  ix_e 16 (.iload_n (2)) 1 2 0 0 0 0,
  ix_e 17 .iaload 1 0 0 0 0 0,
  ix_e 18 (.iload_n (1)) 1 1 0 0 0 0,
  ix_e 19 (.if_icmp .ne (40)) 3 59 0 0 0 0,
  ix_e 22 (.aload_n (0)) 1 0 0 0 0 0,
  ix_e 23 (.getfield (46)) 3 11 22 2 0 0,
  ix_e 26 (.iload_n (2)) 1 2 0 0 0 0,
  ix_e 27 .iaload 1 0 0 0 0 0,
  ix_e 28 (.aload_n (0)) 1 0 0 0 0 0,
  ix_e 29 (.getfield (49)) 3 11 23 2 0 0,
  ix_e 32 (.iload_n (2)) 1 2 0 0 0 0,
  ix_e 33 .iaload 1 0 0 0 0 0,
  ix_e 34 (.if_icmp .eq (23)) 3 57 0 0 0 0,
  ix_e 37 (.aload_n (0)) 1 0 0 0 0 0,
  ix_e 38 (.iconst (0)) 1 0 0 0 0 0,
  ix_e 39 (.aload_n (0)) 1 0 0 0 0 0,
  ix_e 40 (.getfield (46)) 3 11 22 2 0 0,
  ix_e 43 (.iload_n (2)) 1 2 0 0 0 0,
  ix_e 44 .iaload 1 0 0 0 0 0,
  ix_e 45 (.aload_n (0)) 1 0 0 0 0 0,
  ix_e 46 (.getfield (49)) 3 11 23 2 0 0,
  ix_e 49 (.iload_n (2)) 1 2 0 0 0 0,
  ix_e 50 .iaload 1 0 0 0 0 0,
  ix_e 51 (.invokevirtual (304)) 3 264 4 1 11 0,
  ix_e 54 (.ifCond .eq (5)) 3 59 0 0 0 0,
  ix_e 57 (.iload_n (2)) 1 2 0 0 0 0,
  ix_e 58 .ireturn 1 0 0 0 0 0,
  ix_e 59 (.iinc 2 (1)) 3 2 0 0 0 1,
  ix_e 62 (.goto (-60)) 3 2 0 0 0 0,
  ix_e 65 (.iconst (-1)) 1 0 0 0 0 (-1),
  ix_e 66 .ireturn 1 0 0 0 0 0]
/-- VotedBankModel.runs (III)I -/
def ix_t264 : List ix_E := [ix_e 0 (.iconst (0)) 1 0 0 0 0 0,
  ix_e 1 (.istore (4)) 2 4 0 0 0 0,
  ix_e 3 (.sipush (400)) 3 0 0 0 0 400,
  ix_e 6 (.iload_n (1)) 1 1 0 0 0 0,
  ix_e 7 .imul 1 0 0 0 0 0,
  ix_e 8 (.iload_n (2)) 1 2 0 0 0 0,
  ix_e 9 .iadd 1 0 0 0 0 0,
  ix_e 10 (.istore (5)) 2 5 0 0 0 0,
  ix_c 12 (.iload (5)) 2 [true, true, false, true, true, true] 5 0 0 0 0,
  ix_e 14 (.sipush (400)) 3 0 0 0 0 400,
  ix_e 17 (.iload_n (1)) 1 1 0 0 0 0,
  ix_e 18 .imul 1 0 0 0 0 0,
  ix_e 19 (.iload_n (3)) 1 3 0 0 0 0,
  ix_e 20 .iadd 1 0 0 0 0 0,
  ix_e 21 (.if_icmp .ge (155)) 3 176 0 0 0 0,
  ix_e 24 (.aload_n (0)) 1 0 0 0 0 0,
  ix_e 25 (.getfield (52)) 3 11 24 2 0 0,
  ix_e 28 (.iload (5)) 2 5 0 0 0 0,
  ix_e 30 .iaload 1 0 0 0 0 0,
  ix_e 31 (.ifCond .eq (14)) 3 45 0 0 0 0,
  ix_e 34 (.aload_n (0)) 1 0 0 0 0 0,
  ix_e 35 (.getfield (52)) 3 11 24 2 0 0,
  ix_e 38 (.iload (5)) 2 5 0 0 0 0,
  ix_e 40 .iaload 1 0 0 0 0 0,
  ix_e 41 (.iconst (1)) 1 0 0 0 0 1,
  ix_e 42 (.if_icmp .ne (51)) 3 93 0 0 0 0,
  ix_e 45 (.aload_n (0)) 1 0 0 0 0 0,
  ix_e 46 (.getfield (77)) 3 11 42 2 0 0,
  ix_e 49 (.iload (4)) 2 4 0 0 0 0,
  ix_e 51 (.aload_n (0)) 1 0 0 0 0 0,
  ix_e 52 (.getfield (52)) 3 11 24 2 0 0,
  ix_e 55 (.iload (5)) 2 5 0 0 0 0,
  ix_e 57 .iaload 1 0 0 0 0 0,
  ix_e 58 (.ifCond .ne (13)) 3 71 0 0 0 0,
  ix_e 61 (.aload_n (0)) 1 0 0 0 0 0,
  ix_e 62 (.getfield (55)) 3 11 25 2 0 0,
  ix_e 65 (.iload (5)) 2 5 0 0 0 0,
  ix_e 67 .iaload 1 0 0 0 0 0,
  ix_e 68 (.goto (15)) 3 83 0 0 0 0,
  ix_e 71 (.aload_n (0)) 1 0 0 0 0 0,
  ix_e 72 (.getfield (74)) 3 11 41 2 0 0,
  ix_e 75 (.aload_n (0)) 1 0 0 0 0 0,
  ix_e 76 (.getfield (55)) 3 11 25 2 0 0,
  ix_e 79 (.iload (5)) 2 5 0 0 0 0,
  ix_e 81 .iaload 1 0 0 0 0 0,
  ix_e 82 .iaload 1 0 0 0 0 0,
  ix_e 83 .iastore 1 0 0 0 0 0,
  ix_e 84 (.iload (4)) 2 4 0 0 0 0,
  ix_e 86 (.iconst (1)) 1 0 0 0 0 1,
  ix_e 87 .iadd 1 0 0 0 0 0,
  ix_e 88 (.istore (4)) 2 4 0 0 0 0,
  ix_e 90 (.goto (80)) 3 170 0 0 0 0,
  ix_e 93 (.aload_n (0)) 1 0 0 0 0 0,
  ix_e 94 (.getfield (52)) 3 11 24 2 0 0,
  ix_e 97 (.iload (5)) 2 5 0 0 0 0,
  ix_e 99 .iaload 1 0 0 0 0 0,
  ix_e 100 (.bipush (9)) 2 0 0 0 0 9,
  ix_e 102 (.if_icmp .ne (26)) 3 128 0 0 0 0,
  ix_e 105 (.aload_n (0)) 1 0 0 0 0 0,
  ix_e 106 (.getfield (77)) 3 11 42 2 0 0,
  ix_e 109 (.iload (4)) 2 4 0 0 0 0,
  ix_e 111 (.iconst (1)) 1 0 0 0 0 1,
  ix_e 112 .isub 1 0 0 0 0 0,
  ix_e 113 (.iconst (1)) 1 0 0 0 0 1,
  ix_e 114 (.aload_n (0)) 1 0 0 0 0 0,
  ix_e 115 (.getfield (77)) 3 11 42 2 0 0,
  ix_e 118 (.iload (4)) 2 4 0 0 0 0,
  ix_e 120 (.iconst (1)) 1 0 0 0 0 1,
  ix_e 121 .isub 1 0 0 0 0 0,
  ix_e 122 .iaload 1 0 0 0 0 0,
  ix_e 123 .isub 1 0 0 0 0 0,
  ix_e 124 .iastore 1 0 0 0 0 0,
  ix_e 125 (.goto (45)) 3 170 0 0 0 0,
  ix_e 128 (.iload (4)) 2 4 0 0 0 0,
  ix_e 130 (.iconst (1)) 1 0 0 0 0 1,
  ix_e 131 .isub 1 0 0 0 0 0,
  ix_e 132 (.istore (4)) 2 4 0 0 0 0,
  ix_e 134 (.aload_n (0)) 1 0 0 0 0 0,
  ix_e 135 (.getfield (77)) 3 11 42 2 0 0,
  ix_e 138 (.iload (4)) 2 4 0 0 0 0,
  ix_e 140 (.iconst (1)) 1 0 0 0 0 1,
  ix_e 141 .isub 1 0 0 0 0 0,
  ix_e 142 (.aload_n (0)) 1 0 0 0 0 0,
  ix_e 143 (.aload_n (0)) 1 0 0 0 0 0,
  ix_e 144 (.getfield (52)) 3 11 24 2 0 0,
  ix_e 147 (.iload (5)) 2 5 0 0 0 0,
  ix_e 149 .iaload 1 0 0 0 0 0,
  ix_e 150 (.aload_n (0)) 1 0 0 0 0 0,
  ix_e 151 (.getfield (77)) 3 11 42 2 0 0,
  ix_e 154 (.iload (4)) 2 4 0 0 0 0,
  ix_e 156 (.iconst (1)) 1 0 0 0 0 1,
  ix_e 157 .isub 1 0 0 0 0 0,
  ix_e 158 .iaload 1 0 0 0 0 0,
  ix_e 159 (.aload_n (0)) 1 0 0 0 0 0,
  ix_e 160 (.getfield (77)) 3 11 42 2 0 0,
  ix_e 163 (.iload (4)) 2 4 0 0 0 0,
  ix_e 165 .iaload 1 0 0 0 0 0,
  ix_e 166 (.invokevirtual (301)) 3 281 4 1 11 0,
  ix_e 169 .iastore 1 0 0 0 0 0,
  ix_e 170 (.iinc 5 (1)) 3 5 0 0 0 1,
  ix_e 173 (.goto (-161)) 3 12 0 0 0 0,
  ix_e 176 (.aload_n (0)) 1 0 0 0 0 0,
  ix_e 177 (.getfield (77)) 3 11 42 2 0 0,
  ix_e 180 (.iconst (0)) 1 0 0 0 0 0,
  ix_e 181 .iaload 1 0 0 0 0 0,
  ix_e 182 .ireturn 1 0 0 0 0 0]
/-- VotedBankModel.held (III)I -/
def ix_t265 : List ix_E := [ix_e 0 (.iload_n (1)) 1 1 0 0 0 0,
  ix_e 1 (.iload_n (2)) 1 2 0 0 0 0,
  ix_e 2 (.if_icmp .ge (7)) 3 9 0 0 0 0,
  ix_e 5 (.iload_n (2)) 1 2 0 0 0 0,
  ix_e 6 (.goto (13)) 3 19 0 0 0 0,
  ix_e 9 (.iload_n (1)) 1 1 0 0 0 0,
  ix_e 10 (.iload_n (3)) 1 3 0 0 0 0,
  ix_e 11 (.if_icmp .le (7)) 3 18 0 0 0 0,
  ix_e 14 (.iload_n (3)) 1 3 0 0 0 0,
  ix_e 15 (.goto (4)) 3 19 0 0 0 0,
  ix_e 18 (.iload_n (1)) 1 1 0 0 0 0,
  ix_e 19 .ireturn 1 0 0 0 0 0]
/-- VotedBankModel.talkerTo (II)I -/
def ix_t266 : List ix_E := [ix_e 0 (.iconst (-1)) 1 0 0 0 0 (-1),
  ix_e 1 (.istore_n (3)) 1 3 0 0 0 0,
  ix_e 2 (.iconst (0)) 1 0 0 0 0 0,
  ix_e 3 (.istore (4)) 2 4 0 0 0 0,
  ix_c 5 (.iload (4)) 2 [true, true, true, true, true] 4 0 0 0 0,
  ix_e 7 (.aload_n (0)) 1 0 0 0 0 0,
  ix_e 8 (.getfield (125)) 3 11 7 0 0 0,
  ix_e 11 (.if_icmp .ge (64)) 3 75 0 0 0 0,
  ix_e 14 (.aload_n (0)) 1 0 0 0 0 0,
  ix_e 15 (.iload_n (2)) 1 2 0 0 0 0,
  ix_e 16 (.aload_n (0)) 1 0 0 0 0 0,
  ix_e 17 (.getfield (65)) 3 11 36 2 0 0,
  ix_e 20 (.iload_n (1)) 1 1 0 0 0 0,
  ix_e 21 .iaload 1 0 0 0 0 0,
  ix_e 22 .iand 1 0 0 0 0 0,
  ix_e 23 (.iload (4)) 2 4 0 0 0 0,
  ix_e 25 (.invokevirtual (255)) 3 197 3 1 11 0,
  ix_e 28 (.ifCond .eq (41)) 3 69 0 0 0 0,
  ix_e 31 (.aload_n (0)) 1 0 0 0 0 0,
  ix_e 32 (.iload (4)) 2 4 0 0 0 0,
  ix_e 34 (.invokevirtual (310)) 3 243 2 1 11 0,
  ix_e 37 (.aload_n (0)) 1 0 0 0 0 0,
  ix_e 38 (.iload_n (1)) 1 1 0 0 0 0,
  ix_e 39 (.invokevirtual (310)) 3 243 2 1 11 0,
  ix_e 42 (.if_icmp .eq (27)) 3 69 0 0 0 0,
  ix_e 45 (.iload_n (3)) 1 3 0 0 0 0,
  ix_e 46 (.iconst (-1)) 1 0 0 0 0 (-1),
  ix_e 47 (.if_icmp .eq (19)) 3 66 0 0 0 0,
  ix_e 50 (.aload_n (0)) 1 0 0 0 0 0,
  ix_e 51 (.getfield (22)) 3 11 9 2 0 0,
  ix_e 54 (.iload (4)) 2 4 0 0 0 0,
  ix_e 56 .iaload 1 0 0 0 0 0,
  ix_e 57 (.aload_n (0)) 1 0 0 0 0 0,
  ix_e 58 (.getfield (22)) 3 11 9 2 0 0,
  ix_e 61 (.iload_n (3)) 1 3 0 0 0 0,
  ix_e 62 .iaload 1 0 0 0 0 0,
  ix_e 63 (.if_icmp .le (6)) 3 69 0 0 0 0,
  ix_e 66 (.iload (4)) 2 4 0 0 0 0,
  ix_e 68 (.istore_n (3)) 1 3 0 0 0 0,
  ix_e 69 (.iinc 4 (1)) 3 4 0 0 0 1,
  ix_e 72 (.goto (-67)) 3 5 0 0 0 0,
  ix_e 75 (.iload_n (3)) 1 3 0 0 0 0,
  ix_e 76 .ireturn 1 0 0 0 0 0]
/-- VotedBankModel.draw (I)I -/
def ix_t267 : List ix_E := [ix_e 0 (.aload_n (0)) 1 0 0 0 0 0,
  ix_e 1 (.getfield (7)) 3 11 1 2 0 0,
  ix_e 4 (.iconst (1)) 1 0 0 0 0 1,
  ix_e 5 (.ldc (108)) 2 0 0 0 0 1664525,
  ix_e 7 (.aload_n (0)) 1 0 0 0 0 0,
  ix_e 8 (.getfield (7)) 3 11 1 2 0 0,
  ix_e 11 (.iconst (1)) 1 0 0 0 0 1,
  ix_e 12 .iaload 1 0 0 0 0 0,
  ix_e 13 .imul 1 0 0 0 0 0,
  ix_e 14 (.ldc (109)) 2 0 0 0 0 1013904223,
  ix_e 16 .iadd 1 0 0 0 0 0,
  ix_e 17 .iastore 1 0 0 0 0 0,
  ix_e 18 (.aload_n (0)) 1 0 0 0 0 0,
  ix_e 19 (.getfield (7)) 3 11 1 2 0 0,
  ix_e 22 (.iconst (1)) 1 0 0 0 0 1,
  ix_e 23 .iaload 1 0 0 0 0 0,
  ix_e 24 (.bipush (8)) 2 0 0 0 0 8,
  ix_e 26 .iushr 1 0 0 0 0 0,
  ix_e 27 (.iload_n (1)) 1 1 0 0 0 0,
  ix_e 28 .irem 1 0 0 0 0 0,
  ix_e 29 .ireturn 1 0 0 0 0 0]
/-- VotedBankModel.rankWith (II)I -/
def ix_t268 : List ix_E := [ix_e 0 (.iload_n (1)) 1 1 0 0 0 0,
  ix_e 1 (.istore_n (3)) 1 3 0 0 0 0,
  ix_e 2 (.iconst (0)) 1 0 0 0 0 0,
  ix_e 3 (.istore (4)) 2 4 0 0 0 0,
  ix_c 5 (.iload (4)) 2 [true, true, true, true, true] 4 0 0 0 0,
  ix_e 7 (.iconst (5)) 1 0 0 0 0 5,
  ix_e 8 (.if_icmp .ge (33)) 3 41 0 0 0 0,
  ix_e 11 (.aload_n (0)) 1 0 0 0 0 0,
  ix_e 12 (.iload_n (2)) 1 2 0 0 0 0,
  ix_e 13 (.iload (4)) 2 4 0 0 0 0,
  ix_e 15 (.invokevirtual (110)) 3 230 3 1 11 0,
  ix_e 18 (.iload_n (1)) 1 1 0 0 0 0,
  ix_e 19 (.if_icmp .eq (16)) 3 35 0 0 0 0,
  ix_e 22 (.bipush (10)) 2 0 0 0 0 10,
  ix_e 24 (.iload_n (3)) 1 3 0 0 0 0,
  ix_e 25 .imul 1 0 0 0 0 0,
  ix_e 26 (.aload_n (0)) 1 0 0 0 0 0,
  ix_e 27 (.iload_n (2)) 1 2 0 0 0 0,
  ix_e 28 (.iload (4)) 2 4 0 0 0 0,
  ix_e 30 (.invokevirtual (110)) 3 230 3 1 11 0,
  ix_e 33 .iadd 1 0 0 0 0 0,
  ix_e 34 (.istore_n (3)) 1 3 0 0 0 0,
  ix_e 35 (.iinc 4 (1)) 3 4 0 0 0 1,
  ix_e 38 (.goto (-33)) 3 5 0 0 0 0,
  ix_e 41 (.iload_n (3)) 1 3 0 0 0 0,
  ix_e 42 .ireturn 1 0 0 0 0 0]
/-- VotedBankModel.doesAbstain (III)Z -/
def ix_t269 : List ix_E := [ix_e 0 (.aload_n (0)) 1 0 0 0 0 0,
  ix_e 1 (.iload_n (1)) 1 1 0 0 0 0,
  ix_e 2 (.iload_n (2)) 1 2 0 0 0 0,
  ix_e 3 (.iload_n (3)) 1 3 0 0 0 0,
  ix_e 4 (.invokevirtual (352)) 3 203 4 1 11 0,
  ix_e 7 (.istore (4)) 2 4 0 0 0 0,
  ix_e 9 (.aload_n (0)) 1 0 0 0 0 0,
  ix_e 10 (.getfield (104)) 3 11 5 1 0 0,
  ix_e 13 (.ifCond .eq (19)) 3 32 0 0 0 0,
  ix_e 16 (.iconst (2)) 1 0 0 0 0 2,
  ix_e 17 (.iload (4)) 2 4 0 0 0 0,
  ix_e 19 .imul 1 0 0 0 0 0,
  ix_e 20 (.sipush (1000)) 3 0 0 0 0 1000,
  ix_e 23 (.if_icmp .lt (7)) 3 30 0 0 0 0,
  ix_e 26 (.iconst (1)) 1 0 0 0 0 1,
  ix_e 27 (.goto (4)) 3 31 0 0 0 0,
  ix_e 30 (.iconst (0)) 1 0 0 0 0 0,
  ix_e 31 .ireturn 1 1 0 0 0 0,
  ix_e 32 (.iload (4)) 2 4 0 0 0 0,
  ix_e 34 (.ifCond .le (19)) 3 53 0 0 0 0,
  ix_e 37 (.aload_n (0)) 1 0 0 0 0 0,
  ix_e 38 (.sipush (1000)) 3 0 0 0 0 1000,
  ix_e 41 (.invokevirtual (339)) 3 267 2 1 11 0,
  ix_e 44 (.iload (4)) 2 4 0 0 0 0,
  ix_e 46 (.if_icmp .ge (7)) 3 53 0 0 0 0,
  ix_e 49 (.iconst (1)) 1 0 0 0 0 1,
  ix_e 50 (.goto (4)) 3 54 0 0 0 0,
  ix_e 53 (.iconst (0)) 1 0 0 0 0 0,
  ix_e 54 .ireturn 1 1 0 0 0 0]
/-- VotedBankModel.greater (II)I -/
def ix_t270 : List ix_E := [ix_e 0 (.iload_n (1)) 1 1 0 0 0 0,
  ix_e 1 (.iload_n (2)) 1 2 0 0 0 0,
  ix_e 2 (.if_icmp .le (7)) 3 9 0 0 0 0,
  ix_e 5 (.iload_n (1)) 1 1 0 0 0 0,
  ix_e 6 (.goto (4)) 3 10 0 0 0 0,
  ix_e 9 (.iload_n (2)) 1 2 0 0 0 0,
  ix_e 10 .ireturn 1 0 0 0 0 0]
/-- VotedBankModel.firstAmong (II)I -/
def ix_t271 : List ix_E := [ix_e 0 (.iconst (0)) 1 0 0 0 0 0,
  ix_e 1 (.istore_n (3)) 1 3 0 0 0 0,
  ix_c 2 (.aload_n (0)) 1 [true, true, true, true] 0 0 0 0 0,
  ix_e 3 (.iload_n (2)) 1 2 0 0 0 0,
  ix_e 4 (.aload_n (0)) 1 0 0 0 0 0,
  ix_e 5 (.iload_n (1)) 1 1 0 0 0 0,
  ix_e 6 (.iload_n (3)) 1 3 0 0 0 0,
  ix_e 7 (.invokevirtual (110)) 3 230 3 1 11 0,
  ix_e 10 (.invokevirtual (255)) 3 197 3 1 11 0,
  ix_e 13 (.ifCond .ne (10)) 3 23 0 0 0 0,
  ix_e 16 (.iload_n (3)) 1 3 0 0 0 0,
  ix_e 17 (.iconst (1)) 1 0 0 0 0 1,
  ix_e 18 .iadd 1 0 0 0 0 0,
  ix_e 19 (.istore_n (3)) 1 3 0 0 0 0,
  ix_e 20 (.goto (-18)) 3 2 0 0 0 0,
  ix_e 23 (.aload_n (0)) 1 0 0 0 0 0,
  ix_e 24 (.iload_n (1)) 1 1 0 0 0 0,
  ix_e 25 (.iload_n (3)) 1 3 0 0 0 0,
  ix_e 26 (.invokevirtual (110)) 3 230 3 1 11 0,
  ix_e 29 .ireturn 1 0 0 0 0 0]
/-- VotedBankModel.readTold (III)I -/
def ix_t272 : List ix_E := [ix_e 0 (.aload_n (0)) 1 0 0 0 0 0,
  ix_e 1 (.iload_n (1)) 1 1 0 0 0 0,
  ix_e 2 (.invokevirtual (220)) 3 254 2 1 11 0,
  ix_e 5 (.ifCond .ne (9)) 3 14 0 0 0 0,
  ix_e 8 (.aload_n (0)) 1 0 0 0 0 0,
  ix_e 9 (.iconst (1)) 1 0 0 0 0 1,
  ix_e 10 (.invokevirtual (192)) 3 255 2 1 11 0,
  ix_e 13 .ireturn 1 0 0 0 0 0,
  ix_e 14 (.aload_n (0)) 1 0 0 0 0 0,
  ix_e 15 (.invokevirtual (199)) 3 233 1 0 11 0,
  ix_e 18 (.aload_n (0)) 1 0 0 0 0 0,
  ix_e 19 (.iload_n (2)) 1 2 0 0 0 0,
  ix_e 20 (.iload_n (3)) 1 3 0 0 0 0,
  ix_e 21 (.invokevirtual (242)) 3 273 3 1 11 0,
  ix_e 24 .ireturn 1 0 0 0 0 0]
/-- VotedBankModel.readNumber (II)I -/
def ix_t273 : List ix_E := [ix_e 0 (.aload_n (0)) 1 0 0 0 0 0,
  ix_e 1 (.getfield (162)) 3 11 16 0 0 0,
  ix_e 4 (.iconst (3)) 1 0 0 0 0 3,
  ix_e 5 (.if_icmp .eq (9)) 3 14 0 0 0 0,
  ix_e 8 (.aload_n (0)) 1 0 0 0 0 0,
  ix_e 9 (.iconst (1)) 1 0 0 0 0 1,
  ix_e 10 (.invokevirtual (192)) 3 255 2 1 11 0,
  ix_e 13 .ireturn 1 0 0 0 0 0,
  ix_e 14 (.aload_n (0)) 1 0 0 0 0 0,
  ix_e 15 (.aload_n (0)) 1 0 0 0 0 0,
  ix_e 16 (.getfield (165)) 3 11 17 0 0 0,
  ix_e 19 (.iload_n (1)) 1 1 0 0 0 0,
  ix_e 20 (.iload_n (2)) 1 2 0 0 0 0,
  ix_e 21 (.invokevirtual (115)) 3 189 4 1 11 0,
  ix_e 24 (.ifCond .ne (9)) 3 33 0 0 0 0,
  ix_e 27 (.aload_n (0)) 1 0 0 0 0 0,
  ix_e 28 (.iconst (2)) 1 0 0 0 0 2,
  ix_e 29 (.invokevirtual (192)) 3 255 2 1 11 0,
  ix_e 32 .ireturn 1 0 0 0 0 0,
  ix_e 33 (.aload_n (0)) 1 0 0 0 0 0,
  ix_e 34 (.getfield (165)) 3 11 17 0 0 0,
  ix_e 37 (.istore_n (3)) 1 3 0 0 0 0,
  ix_e 38 (.aload_n (0)) 1 0 0 0 0 0,
  ix_e 39 (.invokevirtual (199)) 3 233 1 0 11 0,
  ix_e 42 (.iload_n (3)) 1 3 0 0 0 0,
  ix_e 43 .ireturn 1 0 0 0 0 0]
/-- VotedBankModel.readMark (I)I -/
def ix_t274 : List ix_E := [ix_e 0 (.aload_n (0)) 1 0 0 0 0 0,
  ix_e 1 (.iload_n (1)) 1 1 0 0 0 0,
  ix_e 2 (.invokevirtual (205)) 3 262 2 1 11 0,
  ix_e 5 (.ifCond .ne (9)) 3 14 0 0 0 0,
  ix_e 8 (.aload_n (0)) 1 0 0 0 0 0,
  ix_e 9 (.iconst (1)) 1 0 0 0 0 1,
  ix_e 10 (.invokevirtual (192)) 3 255 2 1 11 0,
  ix_e 13 .ireturn 1 0 0 0 0 0,
  ix_e 14 (.aload_n (0)) 1 0 0 0 0 0,
  ix_e 15 (.invokevirtual (199)) 3 233 1 0 11 0,
  ix_e 18 (.iconst (0)) 1 0 0 0 0 0,
  ix_e 19 .ireturn 1 0 0 0 0 0]
/-- VotedBankModel.readSet (I)I -/
def ix_t275 : List ix_E := [ix_e 0 (.aload_n (0)) 1 0 0 0 0 0,
  ix_e 1 (.invokevirtual (199)) 3 233 1 0 11 0,
  ix_e 4 (.iconst (0)) 1 0 0 0 0 0,
  ix_e 5 (.istore_n (2)) 1 2 0 0 0 0,
  ix_e 6 (.iconst (1)) 1 0 0 0 0 1,
  ix_e 7 (.istore_n (3)) 1 3 0 0 0 0,
  ix_c 8 (.iload_n (3)) 1 [true, true, true, true, false] 3 0 0 0 0,
  ix_e 9 (.ifCond .eq (97)) 3 106 0 0 0 0,
  ix_e 12 (.aload_n (0)) 1 0 0 0 0 0,
  ix_e 13 (.getfield (162)) 3 11 16 0 0 0,
  ix_e 16 (.iconst (3)) 1 0 0 0 0 3,
  ix_e 17 (.if_icmp .ne (44)) 3 61 0 0 0 0,
  ix_e 20 (.aload_n (0)) 1 0 0 0 0 0,
  ix_e 21 (.getfield (165)) 3 11 17 0 0 0,
  ix_e 24 (.aload_n (0)) 1 0 0 0 0 0,
  ix_e 25 (.getfield (125)) 3 11 7 0 0 0,
  ix_e 28 (.if_icmp .ge (33)) 3 61 0 0 0 0,
  ix_e 31 (.aload_n (0)) 1 0 0 0 0 0,
  ix_e 32 (.iload_n (2)) 1 2 0 0 0 0,
  ix_e 33 (.aload_n (0)) 1 0 0 0 0 0,
  ix_e 34 (.getfield (165)) 3 11 17 0 0 0,
  ix_e 37 (.invokevirtual (255)) 3 197 3 1 11 0,
  ix_e 40 (.ifCond .ne (15)) 3 55 0 0 0 0,
  ix_e 43 (.aload_n (0)) 1 0 0 0 0 0,
  ix_e 44 (.iload_n (1)) 1 1 0 0 0 0,
  ix_e 45 (.aload_n (0)) 1 0 0 0 0 0,
  ix_e 46 (.getfield (165)) 3 11 17 0 0 0,
  ix_e 49 (.invokevirtual (255)) 3 197 3 1 11 0,
  ix_e 52 (.ifCond .ne (9)) 3 61 0 0 0 0,
  ix_e 55 (.aload_n (0)) 1 0 0 0 0 0,
  ix_e 56 (.iconst (2)) 1 0 0 0 0 2,
  ix_e 57 (.invokevirtual (192)) 3 255 2 1 11 0,
  ix_e 60 .ireturn 1 0 0 0 0 0,
  ix_e 61 (.aload_n (0)) 1 0 0 0 0 0,
  ix_e 62 (.iconst (0)) 1 0 0 0 0 0,
  ix_e 63 (.aload_n (0)) 1 0 0 0 0 0,
  ix_e 64 (.getfield (125)) 3 11 7 0 0 0,
  ix_e 67 (.iconst (1)) 1 0 0 0 0 1,
  ix_e 68 .isub 1 0 0 0 0 0,
  ix_e 69 (.invokevirtual (242)) 3 273 3 1 11 0,
  ix_e 72 (.istore (4)) 2 4 0 0 0 0,
  ix_e 74 (.iload (4)) 2 4 0 0 0 0,
  ix_e 76 (.iconst (-1)) 1 0 0 0 0 (-1),
  ix_e 77 (.if_icmp .ne (5)) 3 82 0 0 0 0,
  ix_e 80 (.iconst (-1)) 1 0 0 0 0 (-1),
  ix_e 81 .ireturn 1 0 0 0 0 0,
  ix_e 82 (.iload_n (2)) 1 2 0 0 0 0,
  ix_e 83 (.iconst (1)) 1 0 0 0 0 1,
  ix_e 84 (.iload (4)) 2 4 0 0 0 0,
  ix_e 86 .ishl 1 0 0 0 0 0,
  ix_e 87 .ior 1 0 0 0 0 0,
  ix_e 88 (.istore_n (2)) 1 2 0 0 0 0,
  ix_e 89 (.aload_n (0)) 1 0 0 0 0 0,
  ix_e 90 (.getfield (162)) 3 11 16 0 0 0,
  ix_e 93 (.iconst (3)) 1 0 0 0 0 3,
  ix_e 94 (.if_icmp .ne (7)) 3 101 0 0 0 0,
  ix_e 97 (.iconst (1)) 1 0 0 0 0 1,
  ix_e 98 (.goto (4)) 3 102 0 0 0 0,
  ix_e 101 (.iconst (0)) 1 0 0 0 0 0,
  ix_e 102 (.istore_n (3)) 1 3 0 0 0 0,
  ix_e 103 (.goto (-95)) 3 8 0 0 0 0,
  ix_e 106 (.iload_n (2)) 1 2 0 0 0 0,
  ix_e 107 .ireturn 1 0 0 0 0 0]
/-- VotedBankModel.readProduct ()I -/
def ix_t276 : List ix_E := [ix_e 0 (.aload_n (0)) 1 0 0 0 0 0,
  ix_e 1 (.invokevirtual (202)) 3 282 1 1 11 0,
  ix_e 4 (.iconst (-1)) 1 0 0 0 0 (-1),
  ix_e 5 (.if_icmp .ne (5)) 3 10 0 0 0 0,
  ix_e 8 (.iconst (-1)) 1 0 0 0 0 (-1),
  ix_e 9 .ireturn 1 0 0 0 0 0,
  ix_c 10 (.aload_n (0)) 1 [true, false] 0 0 0 0 0,
  ix_e 11 (.bipush (42)) 2 0 0 0 0 42,
  ix_e 13 (.invokevirtual (205)) 3 262 2 1 11 0,
  ix_e 16 (.ifCond .ne (12)) 3 28 0 0 0 0,
  ix_e 19 (.aload_n (0)) 1 0 0 0 0 0,
  ix_e 20 (.bipush (47)) 2 0 0 0 0 47,
  ix_e 22 (.invokevirtual (205)) 3 262 2 1 11 0,
  ix_e 25 (.ifCond .eq (76)) 3 101 0 0 0 0,
  ix_e 28 (.aload_n (0)) 1 0 0 0 0 0,
  ix_e 29 (.bipush (42)) 2 0 0 0 0 42,
  ix_e 31 (.invokevirtual (205)) 3 262 2 1 11 0,
  ix_e 34 (.istore_n (1)) 1 1 0 0 0 0,
  ix_e 35 (.aload_n (0)) 1 0 0 0 0 0,
  ix_e 36 (.invokevirtual (199)) 3 233 1 0 11 0,
  ix_e 39 (.iload_n (1)) 1 1 0 0 0 0,
  ix_e 40 (.ifCond .ne (17)) 3 57 0 0 0 0,
  ix_e 43 (.aload_n (0)) 1 0 0 0 0 0,
  ix_e 44 (.getfield (162)) 3 11 16 0 0 0,
  ix_e 47 (.iconst (3)) 1 0 0 0 0 3,
  ix_e 48 (.if_icmp .eq (9)) 3 57 0 0 0 0,
  ix_e 51 (.aload_n (0)) 1 0 0 0 0 0,
  ix_e 52 (.iconst (1)) 1 0 0 0 0 1,
  ix_e 53 (.invokevirtual (192)) 3 255 2 1 11 0,
  ix_e 56 .ireturn 1 0 0 0 0 0,
  ix_e 57 (.iload_n (1)) 1 1 0 0 0 0,
  ix_e 58 (.ifCond .ne (16)) 3 74 0 0 0 0,
  ix_e 61 (.aload_n (0)) 1 0 0 0 0 0,
  ix_e 62 (.getfield (165)) 3 11 17 0 0 0,
  ix_e 65 (.ifCond .ne (9)) 3 74 0 0 0 0,
  ix_e 68 (.aload_n (0)) 1 0 0 0 0 0,
  ix_e 69 (.iconst (2)) 1 0 0 0 0 2,
  ix_e 70 (.invokevirtual (192)) 3 255 2 1 11 0,
  ix_e 73 .ireturn 1 0 0 0 0 0,
  ix_e 74 (.aload_n (0)) 1 0 0 0 0 0,
  ix_e 75 (.invokevirtual (202)) 3 282 1 1 11 0,
  ix_e 78 (.iconst (-1)) 1 0 0 0 0 (-1),
  ix_e 79 (.if_icmp .ne (5)) 3 84 0 0 0 0,
  ix_e 82 (.iconst (-1)) 1 0 0 0 0 (-1),
  ix_e 83 .ireturn 1 0 0 0 0 0,
  ix_e 84 (.aload_n (0)) 1 0 0 0 0 0,
  ix_e 85 (.iload_n (1)) 1 1 0 0 0 0,
  ix_e 86 (.ifCond .eq (7)) 3 93 0 0 0 0,
  ix_e 89 (.iconst (4)) 1 0 0 0 0 4,
  ix_e 90 (.goto (4)) 3 94 0 0 0 0,
  ix_e 93 (.iconst (5)) 1 0 0 0 0 5,
  ix_e 94 (.iconst (0)) 1 0 0 0 0 0,
  ix_e 95 (.invokevirtual (195)) 3 277 3 0 11 0,
  ix_e 98 (.goto (-88)) 3 10 0 0 0 0,
  ix_e 101 (.iconst (0)) 1 0 0 0 0 0,
  ix_e 102 .ireturn 1 0 0 0 0 0]
/-- VotedBankModel.emits (II)V -/
def ix_t277 : List ix_E := [ix_e 0 (.aload_n (0)) 1 0 0 0 0 0,
  ix_e 1 (.getfield (52)) 3 11 24 2 0 0,
  ix_e 4 (.sipush (800)) 3 0 0 0 0 800,
  ix_e 7 (.aload_n (0)) 1 0 0 0 0 0,
  ix_e 8 (.getfield (186)) 3 11 27 0 0 0,
  ix_e 11 .iadd 1 0 0 0 0 0,
  ix_e 12 (.iload_n (1)) 1 1 0 0 0 0,
  ix_e 13 .iastore 1 0 0 0 0 0,
  ix_e 14 (.aload_n (0)) 1 0 0 0 0 0,
  ix_e 15 (.getfield (55)) 3 11 25 2 0 0,
  ix_e 18 (.sipush (800)) 3 0 0 0 0 800,
  ix_e 21 (.aload_n (0)) 1 0 0 0 0 0,
  ix_e 22 (.getfield (186)) 3 11 27 0 0 0,
  ix_e 25 .iadd 1 0 0 0 0 0,
  ix_e 26 (.iload_n (2)) 1 2 0 0 0 0,
  ix_e 27 .iastore 1 0 0 0 0 0,
  ix_e 28 (.aload_n (0)) 1 0 0 0 0 0,
  ix_e 29 (.aload_n (0)) 1 0 0 0 0 0,
  ix_e 30 (.getfield (186)) 3 11 27 0 0 0,
  ix_e 33 (.iconst (1)) 1 0 0 0 0 1,
  ix_e 34 .iadd 1 0 0 0 0 0,
  ix_e 35 (.putfield (186)) 3 11 27 0 0 0,
  ix_e 38 .return_ 1 0 0 0 0 0]
/-- VotedBankModel.waits (I)V -/
def ix_t278 : List ix_E := [ix_e 0 (.aload_n (0)) 1 0 0 0 0 0,
  ix_e 1 (.getfield (58)) 3 11 29 2 0 0,
  ix_e 4 (.aload_n (0)) 1 0 0 0 0 0,
  ix_e 5 (.getfield (214)) 3 11 30 0 0 0,
  ix_e 8 (.iload_n (1)) 1 1 0 0 0 0,
  ix_e 9 .iastore 1 0 0 0 0 0,
  ix_e 10 (.aload_n (0)) 1 0 0 0 0 0,
  ix_e 11 (.aload_n (0)) 1 0 0 0 0 0,
  ix_e 12 (.getfield (214)) 3 11 30 0 0 0,
  ix_e 15 (.iconst (1)) 1 0 0 0 0 1,
  ix_e 16 .iadd 1 0 0 0 0 0,
  ix_e 17 (.putfield (214)) 3 11 30 0 0 0,
  ix_e 20 .return_ 1 0 0 0 0 0]
/-- VotedBankModel.readCompared ()I -/
def ix_t279 : List ix_E := [ix_e 0 (.aload_n (0)) 1 0 0 0 0 0,
  ix_e 1 (.invokevirtual (211)) 3 260 1 1 11 0,
  ix_e 4 (.iconst (-1)) 1 0 0 0 0 (-1),
  ix_e 5 (.if_icmp .ne (5)) 3 10 0 0 0 0,
  ix_e 8 (.iconst (-1)) 1 0 0 0 0 (-1),
  ix_e 9 .ireturn 1 0 0 0 0 0,
  ix_e 10 (.aload_n (0)) 1 0 0 0 0 0,
  ix_e 11 (.bipush (60)) 2 0 0 0 0 60,
  ix_e 13 (.invokevirtual (205)) 3 262 2 1 11 0,
  ix_e 16 (.ifCond .ne (27)) 3 43 0 0 0 0,
  ix_e 19 (.aload_n (0)) 1 0 0 0 0 0,
  ix_e 20 (.bipush (61)) 2 0 0 0 0 61,
  ix_e 22 (.invokevirtual (205)) 3 262 2 1 11 0,
  ix_e 25 (.ifCond .ne (18)) 3 43 0 0 0 0,
  ix_e 28 (.aload_n (0)) 1 0 0 0 0 0,
  ix_e 29 (.bipush (62)) 2 0 0 0 0 62,
  ix_e 31 (.invokevirtual (205)) 3 262 2 1 11 0,
  ix_e 34 (.ifCond .ne (9)) 3 43 0 0 0 0,
  ix_e 37 (.aload_n (0)) 1 0 0 0 0 0,
  ix_e 38 (.iconst (1)) 1 0 0 0 0 1,
  ix_e 39 (.invokevirtual (192)) 3 255 2 1 11 0,
  ix_e 42 .ireturn 1 0 0 0 0 0,
  ix_e 43 (.aload_n (0)) 1 0 0 0 0 0,
  ix_e 44 (.getfield (165)) 3 11 17 0 0 0,
  ix_e 47 (.bipush (60)) 2 0 0 0 0 60,
  ix_e 49 (.if_icmp .ne (8)) 3 57 0 0 0 0,
  ix_e 52 (.bipush (6)) 2 0 0 0 0 6,
  ix_e 54 (.goto (19)) 3 73 0 0 0 0,
  ix_e 57 (.aload_n (0)) 1 0 0 0 0 0,
  ix_e 58 (.getfield (165)) 3 11 17 0 0 0,
  ix_e 61 (.bipush (61)) 2 0 0 0 0 61,
  ix_e 63 (.if_icmp .ne (8)) 3 71 0 0 0 0,
  ix_e 66 (.bipush (7)) 2 0 0 0 0 7,
  ix_e 68 (.goto (5)) 3 73 0 0 0 0,
  ix_e 71 (.bipush (8)) 2 0 0 0 0 8,
  ix_e 73 (.istore_n (1)) 1 1 0 0 0 0,
  ix_e 74 (.aload_n (0)) 1 0 0 0 0 0,
  ix_e 75 (.invokevirtual (199)) 3 233 1 0 11 0,
  ix_e 78 (.aload_n (0)) 1 0 0 0 0 0,
  ix_e 79 (.invokevirtual (211)) 3 260 1 1 11 0,
  ix_e 82 (.iconst (-1)) 1 0 0 0 0 (-1),
  ix_e 83 (.if_icmp .ne (5)) 3 88 0 0 0 0,
  ix_e 86 (.iconst (-1)) 1 0 0 0 0 (-1),
  ix_e 87 .ireturn 1 0 0 0 0 0,
  ix_e 88 (.aload_n (0)) 1 0 0 0 0 0,
  ix_e 89 (.iload_n (1)) 1 1 0 0 0 0,
  ix_e 90 (.iconst (0)) 1 0 0 0 0 0,
  ix_e 91 (.invokevirtual (195)) 3 277 3 0 11 0,
  ix_e 94 (.iconst (0)) 1 0 0 0 0 0,
  ix_e 95 .ireturn 1 0 0 0 0 0]
/-- VotedBankModel.settles (I)V -/
def ix_t280 : List ix_E := [ix_c 0 (.aload_n (0)) 1 [true, true] 0 0 0 0 0,
  ix_e 1 (.getfield (214)) 3 11 30 0 0 0,
  ix_e 4 (.ifCond .le (53)) 3 57 0 0 0 0,
  ix_e 7 (.aload_n (0)) 1 0 0 0 0 0,
  ix_e 8 (.getfield (58)) 3 11 29 2 0 0,
  ix_e 11 (.aload_n (0)) 1 0 0 0 0 0,
  ix_e 12 (.getfield (214)) 3 11 30 0 0 0,
  ix_e 15 (.iconst (1)) 1 0 0 0 0 1,
  ix_e 16 .isub 1 0 0 0 0 0,
  ix_e 17 .iaload 1 0 0 0 0 0,
  ix_e 18 (.iload_n (1)) 1 1 0 0 0 0,
  ix_e 19 (.if_icmp .ne (38)) 3 57 0 0 0 0,
  ix_e 22 (.aload_n (0)) 1 0 0 0 0 0,
  ix_e 23 (.aload_n (0)) 1 0 0 0 0 0,
  ix_e 24 (.getfield (214)) 3 11 30 0 0 0,
  ix_e 27 (.iconst (1)) 1 0 0 0 0 1,
  ix_e 28 .isub 1 0 0 0 0 0,
  ix_e 29 (.putfield (214)) 3 11 30 0 0 0,
  ix_e 32 (.aload_n (0)) 1 0 0 0 0 0,
  ix_e 33 (.iload_n (1)) 1 1 0 0 0 0,
  ix_e 34 (.iconst (0)) 1 0 0 0 0 0,
  ix_e 35 (.invokevirtual (195)) 3 277 3 0 11 0,
  ix_e 38 (.iload_n (1)) 1 1 0 0 0 0,
  ix_e 39 (.bipush (9)) 2 0 0 0 0 9,
  ix_e 41 (.if_icmp .ne (-41)) 3 0 0 0 0 0,
  ix_e 44 (.aload_n (0)) 1 0 0 0 0 0,
  ix_e 45 (.aload_n (0)) 1 0 0 0 0 0,
  ix_e 46 (.getfield (217)) 3 11 28 0 0 0,
  ix_e 49 (.iconst (1)) 1 0 0 0 0 1,
  ix_e 50 .isub 1 0 0 0 0 0,
  ix_e 51 (.putfield (217)) 3 11 28 0 0 0,
  ix_e 54 (.goto (-54)) 3 0 0 0 0 0,
  ix_e 57 .return_ 1 0 0 0 0 0]
/-- VotedBankModel.twoOf (III)I -/
def ix_t281 : List ix_E := [ix_e 0 (.iload_n (1)) 1 1 0 0 0 0,
  ix_e 1 (.iconst (2)) 1 0 0 0 0 2,
  ix_e 2 (.if_icmp .ne (7)) 3 9 0 0 0 0,
  ix_e 5 (.iload_n (2)) 1 2 0 0 0 0,
  ix_e 6 (.iload_n (3)) 1 3 0 0 0 0,
  ix_e 7 .iadd 1 0 0 0 0 0,
  ix_e 8 .ireturn 1 0 0 0 0 0,
  ix_e 9 (.iload_n (1)) 1 1 0 0 0 0,
  ix_e 10 (.iconst (3)) 1 0 0 0 0 3,
  ix_e 11 (.if_icmp .ne (7)) 3 18 0 0 0 0,
  ix_e 14 (.iload_n (2)) 1 2 0 0 0 0,
  ix_e 15 (.iload_n (3)) 1 3 0 0 0 0,
  ix_e 16 .isub 1 0 0 0 0 0,
  ix_e 17 .ireturn 1 0 0 0 0 0,
  ix_e 18 (.iload_n (1)) 1 1 0 0 0 0,
  ix_e 19 (.iconst (4)) 1 0 0 0 0 4,
  ix_e 20 (.if_icmp .ne (7)) 3 27 0 0 0 0,
  ix_e 23 (.iload_n (2)) 1 2 0 0 0 0,
  ix_e 24 (.iload_n (3)) 1 3 0 0 0 0,
  ix_e 25 .imul 1 0 0 0 0 0,
  ix_e 26 .ireturn 1 0 0 0 0 0,
  ix_e 27 (.iload_n (1)) 1 1 0 0 0 0,
  ix_e 28 (.iconst (5)) 1 0 0 0 0 5,
  ix_e 29 (.if_icmp .ne (7)) 3 36 0 0 0 0,
  ix_e 32 (.iload_n (2)) 1 2 0 0 0 0,
  ix_e 33 (.iload_n (3)) 1 3 0 0 0 0,
  ix_e 34 .idiv 1 0 0 0 0 0,
  ix_e 35 .ireturn 1 0 0 0 0 0,
  ix_e 36 (.iload_n (1)) 1 1 0 0 0 0,
  ix_e 37 (.bipush (6)) 2 0 0 0 0 6,
  ix_e 39 (.if_icmp .ne (14)) 3 53 0 0 0 0,
  ix_e 42 (.iload_n (2)) 1 2 0 0 0 0,
  ix_e 43 (.iload_n (3)) 1 3 0 0 0 0,
  ix_e 44 (.if_icmp .ge (7)) 3 51 0 0 0 0,
  ix_e 47 (.iconst (1)) 1 0 0 0 0 1,
  ix_e 48 (.goto (4)) 3 52 0 0 0 0,
  ix_e 51 (.iconst (0)) 1 0 0 0 0 0,
  ix_e 52 .ireturn 1 0 0 0 0 0,
  ix_e 53 (.iload_n (1)) 1 1 0 0 0 0,
  ix_e 54 (.bipush (7)) 2 0 0 0 0 7,
  ix_e 56 (.if_icmp .ne (14)) 3 70 0 0 0 0,
  ix_e 59 (.iload_n (2)) 1 2 0 0 0 0,
  ix_e 60 (.iload_n (3)) 1 3 0 0 0 0,
  ix_e 61 (.if_icmp .ne (7)) 3 68 0 0 0 0,
  ix_e 64 (.iconst (1)) 1 0 0 0 0 1,
  ix_e 65 (.goto (4)) 3 69 0 0 0 0,
  ix_e 68 (.iconst (0)) 1 0 0 0 0 0,
  ix_e 69 .ireturn 1 0 0 0 0 0,
  ix_e 70 (.iload_n (1)) 1 1 0 0 0 0,
  ix_e 71 (.bipush (8)) 2 0 0 0 0 8,
  ix_e 73 (.if_icmp .ne (14)) 3 87 0 0 0 0,
  ix_e 76 (.iload_n (2)) 1 2 0 0 0 0,
  ix_e 77 (.iload_n (3)) 1 3 0 0 0 0,
  ix_e 78 (.if_icmp .le (7)) 3 85 0 0 0 0,
  ix_e 81 (.iconst (1)) 1 0 0 0 0 1,
  ix_e 82 (.goto (4)) 3 86 0 0 0 0,
  ix_e 85 (.iconst (0)) 1 0 0 0 0 0,
  ix_e 86 .ireturn 1 0 0 0 0 0,
  ix_e 87 (.iload_n (1)) 1 1 0 0 0 0,
  ix_e 88 (.bipush (10)) 2 0 0 0 0 10,
  ix_e 90 (.if_icmp .ne (9)) 3 99 0 0 0 0,
  ix_e 93 (.iload_n (2)) 1 2 0 0 0 0,
  ix_e 94 (.iload_n (3)) 1 3 0 0 0 0,
  ix_e 95 .imul 1 0 0 0 0 0,
  ix_e 96 (.goto (14)) 3 110 0 0 0 0,
  ix_e 99 (.iload_n (2)) 1 2 0 0 0 0,
  ix_e 100 (.iload_n (3)) 1 3 0 0 0 0,
  ix_e 101 .iadd 1 0 0 0 0 0,
  ix_e 102 (.ifCond .le (7)) 3 109 0 0 0 0,
  ix_e 105 (.iconst (1)) 1 0 0 0 0 1,
  ix_e 106 (.goto (4)) 3 110 0 0 0 0,
  ix_e 109 (.iconst (0)) 1 0 0 0 0 0,
  ix_e 110 .ireturn 1 0 0 0 0 0]
/-- VotedBankModel.readUnit ()I -/
def ix_t282 : List ix_E := [ix_e 0 (.aload_n (0)) 1 0 0 0 0 0,
  ix_e 1 (.getfield (162)) 3 11 16 0 0 0,
  ix_e 4 (.iconst (2)) 1 0 0 0 0 2,
  ix_e 5 (.if_icmp .ne (18)) 3 23 0 0 0 0,
  ix_e 8 (.aload_n (0)) 1 0 0 0 0 0,
  ix_e 9 (.aload_n (0)) 1 0 0 0 0 0,
  ix_e 10 (.getfield (165)) 3 11 17 0 0 0,
  ix_e 13 (.invokevirtual (189)) 3 283 2 1 11 0,
  ix_e 16 (.ifCond .eq (7)) 3 23 0 0 0 0,
  ix_e 19 (.iconst (1)) 1 0 0 0 0 1,
  ix_e 20 (.goto (4)) 3 24 0 0 0 0,
  ix_c 23 (.iconst (0)) 1 [true, false] 0 0 0 0 0,
  ix_e 24 (.istore_n (1)) 1 1 0 0 0 0,
  ix_e 25 (.iload_n (1)) 1 1 0 0 0 0,
  ix_e 26 (.ifCond .ne (17)) 3 43 0 0 0 0,
  ix_e 29 (.aload_n (0)) 1 0 0 0 0 0,
  ix_e 30 (.getfield (162)) 3 11 16 0 0 0,
  ix_e 33 (.iconst (3)) 1 0 0 0 0 3,
  ix_e 34 (.if_icmp .eq (9)) 3 43 0 0 0 0,
  ix_e 37 (.aload_n (0)) 1 0 0 0 0 0,
  ix_e 38 (.iconst (1)) 1 0 0 0 0 1,
  ix_e 39 (.invokevirtual (192)) 3 255 2 1 11 0,
  ix_e 42 .ireturn 1 0 0 0 0 0,
  ix_c 43 (.aload_n (0)) 1 [true, true] 0 0 0 0 0,
  ix_e 44 (.iload_n (1)) 1 1 0 0 0 0,
  ix_e 45 (.ifCond .eq (7)) 3 52 0 0 0 0,
  ix_e 48 (.iconst (1)) 1 0 0 0 0 1,
  ix_e 49 (.goto (4)) 3 53 0 0 0 0,
  ix_e 52 (.iconst (0)) 1 0 0 0 0 0,
  ix_e 53 (.iload_n (1)) 1 1 0 0 0 0,
  ix_e 54 (.ifCond .eq (13)) 3 67 0 0 0 0,
  ix_e 57 (.aload_n (0)) 1 0 0 0 0 0,
  ix_e 58 (.getfield (165)) 3 11 17 0 0 0,
  ix_e 61 (.bipush (7)) 2 0 0 0 0 7,
  ix_e 63 .isub 1 0 0 0 0 0,
  ix_e 64 (.goto (7)) 3 71 0 0 0 0,
  ix_e 67 (.aload_n (0)) 1 0 0 0 0 0,
  ix_e 68 (.getfield (165)) 3 11 17 0 0 0,
  ix_e 71 (.invokevirtual (195)) 3 277 3 0 11 0,
  ix_e 74 (.aload_n (0)) 1 0 0 0 0 0,
  ix_e 75 (.invokevirtual (199)) 3 233 1 0 11 0,
  ix_e 78 (.iconst (0)) 1 0 0 0 0 0,
  ix_e 79 .ireturn 1 0 0 0 0 0]
/-- VotedBankModel.canAsk (I)Z -/
def ix_t283 : List ix_E := [ix_e 0 (.aload_n (0)) 1 0 0 0 0 0,
  ix_e 1 (.iload_n (1)) 1 1 0 0 0 0,
  ix_e 2 (.bipush (7)) 2 0 0 0 0 7,
  ix_e 4 (.bipush (17)) 2 0 0 0 0 17,
  ix_e 6 (.invokevirtual (115)) 3 189 4 1 11 0,
  ix_e 9 .ireturn 1 1 0 0 0 0]
end
section
/-- name, bytes, locals, what it returns, how many parameters, is it static, entries -/
abbrev ix_M : Type := MethodName × ByteArray × Nat × Option FieldType × Nat × Bool × List ix_E
def ix_m0 : ix_M := (⟨"VotedBankLaw", "law", "([I)Z"⟩, code, 4, (some .boolean), 1, true, ix_t0)
def ix_m1 : ix_M := (⟨"VotedBank", "<init>", "()V"⟩, prog_1_method_1_code, 1, none, 0, false, ix_t1)
def ix_m2 : ix_M := (⟨"VotedBank", "state", "(I)I"⟩, prog_1_method_2_code, 3, (some .int), 1, false, ix_t2)
def ix_m3 : ix_M := (⟨"VotedBank", "passenger", "(IZII)I"⟩, prog_1_method_3_code, 6, (some .int), 4, false, ix_t3)
def ix_m4 : ix_M := (⟨"VotedBank", "set", "(III)Z"⟩, prog_1_method_4_code, 5, (some .boolean), 3, false, ix_t4)
def ix_m5 : ix_M := (⟨"VotedBank", "cross", "(I)I"⟩, prog_1_method_5_code, 2, (some .int), 1, false, ix_t5)
def ix_m6 : ix_M := (⟨"VotedBank", "stay", "(IZ)Z"⟩, prog_1_method_6_code, 4, (some .boolean), 2, false, ix_t6)
def ix_m7 : ix_M := (⟨"VotedBank", "log", "()I"⟩, prog_1_method_7_code, 4, (some .int), 0, false, ix_t7)
def ix_m8 : ix_M := (⟨"VotedBank", "feed", "(IIIII)I"⟩, prog_1_method_8_code, 6, (some .int), 5, false, ix_t8)
def ix_m9 : ix_M := (⟨"VotedBank", "end", "(I)Z"⟩, prog_1_method_9_code, 2, (some .boolean), 1, false, ix_t9)
def ix_m10 : ix_M := (⟨"VotedBank", "text", "(I)I"⟩, prog_1_method_10_code, 3, (some .int), 1, false, ix_t10)
def ix_m11 : ix_M := (⟨"VotedBank", "fault", "(I)I"⟩, prog_1_method_11_code, 2, (some .int), 1, false, ix_t11)
def ix_m12 : ix_M := (⟨"VotedBank", "of", "(II)I"⟩, prog_1_method_12_code, 4, (some .int), 2, false, ix_t12)
def ix_m13 : ix_M := (⟨"VotedBank", "sway", "(II)I"⟩, prog_1_method_13_code, 4, (some .int), 2, false, ix_t13)
def ix_m14 : ix_M := (⟨"VotedBank", "season", "(II)I"⟩, prog_1_method_14_code, 4, (some .int), 2, false, ix_t14)
def ix_m15 : ix_M := (⟨"VotedBank", "book", "(II)I"⟩, prog_1_method_15_code, 3, (some .int), 2, false, ix_t15)
def ix_m16 : ix_M := (⟨"VotedBank", "would", "(II)I"⟩, prog_1_method_16_code, 4, (some .int), 2, false, ix_t16)
def ix_m17 : ix_M := (⟨"VotedBank", "makes", "(II)I"⟩, prog_1_method_17_code, 4, (some .int), 2, false, ix_t17)
def ix_m18 : ix_M := (⟨"VotedBank", "pivots", "(I)I"⟩, prog_1_method_18_code, 2, (some .int), 1, false, ix_t18)
def ix_m19 : ix_M := (⟨"VotedBank", "beats", "(II)I"⟩, prog_1_method_19_code, 3, (some .int), 2, false, ix_t19)
def ix_m20 : ix_M := (⟨"VotedBank", "wins", "(I)I"⟩, prog_1_method_20_code, 2, (some .int), 1, false, ix_t20)
def ix_m21 : ix_M := (⟨"VotedBank", "boats", "(II)I"⟩, prog_1_method_21_code, 3, (some .int), 2, false, ix_t21)
def ix_m22 : ix_M := (⟨"VotedBank", "reaches", "(I)I"⟩, prog_1_method_22_code, 2, (some .int), 1, false, ix_t22)
def ix_m23 : ix_M := (⟨"VotedBank", "alike", "(II)I"⟩, prog_1_method_23_code, 4, (some .int), 2, false, ix_t23)
def ix_m24 : ix_M := (⟨"VotedBank", "middle", "(I)I"⟩, prog_1_method_24_code, 2, (some .int), 1, false, ix_t24)
def ix_m25 : ix_M := (⟨"VotedBank", "seen", "(I)I"⟩, prog_1_method_25_code, 2, (some .int), 1, false, ix_t25)
def ix_m26 : ix_M := (⟨"VotedBank", "began", "(I)I"⟩, prog_1_method_26_code, 2, (some .int), 1, false, ix_t26)
def ix_m27 : ix_M := (⟨"VotedBank", "bribe", "(II)Z"⟩, prog_1_method_27_code, 3, (some .boolean), 2, false, ix_t27)
def ix_m28 : ix_M := (⟨"VotedBank", "costs", "(II)I"⟩, prog_1_method_28_code, 3, (some .int), 2, false, ix_t28)
def ix_m29 : ix_M := (⟨"VotedBank", "game", "(I)I"⟩, prog_1_method_29_code, 2, (some .int), 1, false, ix_t29)
def ix_m30 : ix_M := (⟨"VotedBank", "undo", "()Z"⟩, prog_1_method_30_code, 1, (some .boolean), 0, false, ix_t30)
def ix_m31 : ix_M := (⟨"VotedBank", "image", "(Z)Z"⟩, prog_1_method_31_code, 2, (some .boolean), 1, false, ix_t31)
def ix_m32 : ix_M := (⟨"VotedBank", "look", "(I)I"⟩, prog_1_method_32_code, 3, (some .int), 1, false, ix_t32)
def ix_m33 : ix_M := (⟨"VotedBank", "isRank", "(I)Z"⟩, prog_1_method_35_code, 4, (some .boolean), 1, true, ix_t33)
def ix_m34 : ix_M := (⟨"VotedBank", "isDigit", "(I)Z"⟩, prog_1_method_34_code, 1, (some .boolean), 1, true, ix_t34)
def ix_m35 : ix_M := (⟨"VotedBank", "isLand", "(I)Z"⟩, prog_1_method_33_code, 1, (some .boolean), 1, true, ix_t35)
def ix_m36 : ix_M := (⟨"VotedBank", "otherwise", "(II)I"⟩, prog_1_method_39_code, 5, (some .int), 2, true, ix_t36)
def ix_m37 : ix_M := (⟨"VotedBank", "isAhead", "(III)Z"⟩, prog_1_method_38_code, 5, (some .boolean), 3, true, ix_t37)
def ix_m38 : ix_M := (⟨"VotedBank", "firstOf", "(I)I"⟩, prog_1_method_36_code, 1, (some .int), 1, true, ix_t38)
def ix_m39 : ix_M := (⟨"VotedBank", "winnerOf", "([I)I"⟩, prog_1_method_40_code, 4, (some .int), 1, true, ix_t39)
def ix_m40 : ix_M := (⟨"VotedBank", "raised", "(II)I"⟩, prog_1_method_37_code, 5, (some .int), 2, true, ix_t40)
def ix_m41 : ix_M := (⟨"VotedBank$Book", "entry", "(II)I"⟩, prog_2_method_3_code, 3, (some .int), 2, false, ix_t41)
def ix_m42 : ix_M := (⟨"VotedBank$Book", "<init>", "()V"⟩, prog_2_method_1_code, 1, none, 0, false, ix_t42)
def ix_m43 : ix_M := (⟨"VotedBank$Book", "write", "(IIII)V"⟩, prog_2_method_2_code, 6, none, 4, false, ix_t43)
def ix_m44 : ix_M := (⟨"VotedBank$Book", "copyFrom", "(LVotedBank$Book;)V"⟩, prog_2_method_4_code, 2, none, 1, false, ix_t44)
def ix_m45 : ix_M := (⟨"VotedBank$Crossing", "<init>", "(LVotedBank$World;)V"⟩, prog_3_method_1_code, 2, none, 1, false, ix_t45)
def ix_m46 : ix_M := (⟨"VotedBank$Crossing", "sail", "(I)I"⟩, prog_3_method_3_code, 4, (some .int), 1, false, ix_t46)
def ix_m47 : ix_M := (⟨"VotedBank$Crossing", "imagine", "(I)I"⟩, prog_3_method_2_code, 2, (some .int), 1, false, ix_t47)
def ix_m48 : ix_M := (⟨"VotedBank$Crossing", "vote", "(I)I"⟩, prog_3_method_4_code, 6, (some .int), 1, false, ix_t48)
def ix_m49 : ix_M := (⟨"VotedBank$Crossing", "isAboard", "(I)Z"⟩, prog_3_method_5_code, 2, (some .boolean), 1, false, ix_t49)
def ix_m50 : ix_M := (⟨"VotedBank$Crossing", "listen", "(II)V"⟩, prog_3_method_7_code, 6, none, 2, false, ix_t50)
def ix_m51 : ix_M := (⟨"VotedBank$Crossing", "abstains", "(II)Z"⟩, prog_3_method_8_code, 4, (some .boolean), 2, false, ix_t51)
def ix_m52 : ix_M := (⟨"VotedBank$Crossing", "comesTrue", "(I)Z"⟩, prog_3_method_6_code, 2, (some .boolean), 1, false, ix_t52)
def ix_m53 : ix_M := (⟨"VotedBank$Law", "copyFrom", "(LVotedBank$Law;)V"⟩, prog_4_method_3_code, 2, none, 1, false, ix_t53)
def ix_m54 : ix_M := (⟨"VotedBank$Law", "tells", "(ILVotedBank$River;IIII)I"⟩, prog_4_method_6_code, 9, (some .int), 6, false, ix_t54)
def ix_m55 : ix_M := (⟨"VotedBank$Law", "<init>", "()V"⟩, prog_4_method_1_code, 1, none, 0, false, ix_t55)
def ix_m56 : ix_M := (⟨"VotedBank$Law", "clear", "()V"⟩, prog_4_method_2_code, 1, none, 0, false, ix_t56)
def ix_m57 : ix_M := (⟨"VotedBank$Law", "addLine", "(III)V"⟩, prog_4_method_5_code, 4, none, 3, false, ix_t57)
def ix_m58 : ix_M := (⟨"VotedBank$Law", "learn", "(LVotedBank$River;IIII)V"⟩, prog_4_method_7_code, 6, none, 5, false, ix_t58)
def ix_m59 : ix_M := (⟨"VotedBank$Law", "untold", "(I)I"⟩, prog_4_method_8_code, 2, (some .int), 1, false, ix_t59)
def ix_m60 : ix_M := (⟨"VotedBank$Law", "result", "(II)I"⟩, prog_4_method_9_code, 6, (some .int), 2, false, ix_t60)
def ix_m61 : ix_M := (⟨"VotedBank$Law", "add", "(II)V"⟩, prog_4_method_4_code, 3, none, 2, false, ix_t61)
def ix_m62 : ix_M := (⟨"VotedBank$Law", "isJoint", "(I)Z"⟩, prog_4_method_10_code, 1, (some .boolean), 1, true, ix_t62)
def ix_m63 : ix_M := (⟨"VotedBank$Law", "joined", "(III)I"⟩, prog_4_method_11_code, 3, (some .int), 3, true, ix_t63)
def ix_m64 : ix_M := (⟨"VotedBank$Parser", "<init>", "(LVotedBank$Tape;)V"⟩, prog_5_method_1_code, 2, none, 1, false, ix_t64)
def ix_m65 : ix_M := (⟨"VotedBank$Parser", "read", "(II)I"⟩, prog_5_method_2_code, 5, (some .int), 2, false, ix_t65)
def ix_m66 : ix_M := (⟨"VotedBank$Parser", "wordsOf", "(I)Ljava/lang/String;"⟩, prog_5_method_3_code, 1, (some (.object "java/lang/String")), 1, true, ix_t66)
def ix_m67 : ix_M := (⟨"VotedBank$Parser", "startsLine", "(I)Z"⟩, prog_5_method_5_code, 2, (some .boolean), 1, false, ix_t67)
def ix_m68 : ix_M := (⟨"VotedBank$Parser", "blamed", "(I)Z"⟩, prog_5_method_4_code, 2, (some .boolean), 1, false, ix_t68)
def ix_m69 : ix_M := (⟨"VotedBank$Parser", "readLaw", "()Z"⟩, prog_5_method_13_code, 4, (some .boolean), 0, false, ix_t69)
def ix_m70 : ix_M := (⟨"VotedBank$Parser", "readEar", "()Z"⟩, prog_5_method_10_code, 3, (some .boolean), 0, false, ix_t70)
def ix_m71 : ix_M := (⟨"VotedBank$Parser", "readRow", "(I)Z"⟩, prog_5_method_11_code, 4, (some .boolean), 1, false, ix_t71)
def ix_m72 : ix_M := (⟨"VotedBank$Parser", "readSeason", "()Z"⟩, prog_5_method_12_code, 4, (some .boolean), 0, false, ix_t72)
def ix_m73 : ix_M := (⟨"VotedBank$Parser", "readSum", "()Z"⟩, prog_5_method_14_code, 4, (some .boolean), 0, false, ix_t73)
def ix_m74 : ix_M := (⟨"VotedBank$Parser", "readConditions", "(I)Z"⟩, prog_5_method_16_code, 5, (some .boolean), 1, false, ix_t74)
def ix_m75 : ix_M := (⟨"VotedBank$Parser", "expect", "(I)Z"⟩, prog_5_method_6_code, 2, (some .boolean), 1, false, ix_t75)
def ix_m76 : ix_M := (⟨"VotedBank$Parser", "expectOneOf", "(I)I"⟩, prog_5_method_8_code, 2, (some .int), 1, false, ix_t76)
def ix_m77 : ix_M := (⟨"VotedBank$Parser", "expectSome", "(I)I"⟩, prog_5_method_9_code, 5, (some .int), 1, false, ix_t77)
def ix_m78 : ix_M := (⟨"VotedBank$Parser", "expectNumber", "(II)I"⟩, prog_5_method_7_code, 4, (some .int), 2, false, ix_t78)
def ix_m79 : ix_M := (⟨"VotedBank$Parser", "readOperand", "(I)Z"⟩, prog_5_method_15_code, 4, (some .boolean), 1, false, ix_t79)
def ix_m80 : ix_M := (⟨"VotedBank$Parser", "readCondition", "(I)Z"⟩, prog_5_method_17_code, 3, (some .boolean), 1, false, ix_t80)
def ix_m81 : ix_M := (⟨"VotedBank$Parser", "readOpened", "(I)Z"⟩, prog_5_method_18_code, 3, (some .boolean), 1, false, ix_t81)
def ix_m82 : ix_M := (⟨"VotedBank$Past", "<init>", "()V"⟩, prog_6_method_1_code, 2, none, 0, false, ix_t82)
def ix_m83 : ix_M := (⟨"VotedBank$Past", "forget", "()V"⟩, prog_6_method_4_code, 1, none, 0, false, ix_t83)
def ix_m84 : ix_M := (⟨"VotedBank$Past", "keep", "(LVotedBank$World;)V"⟩, prog_6_method_2_code, 2, none, 1, false, ix_t84)
def ix_m85 : ix_M := (⟨"VotedBank$Past", "goBack", "(LVotedBank$World;)Z"⟩, prog_6_method_3_code, 2, (some .boolean), 1, false, ix_t85)
def ix_m86 : ix_M := (⟨"VotedBank$Poll", "<init>", "(LVotedBank$World;)V"⟩, prog_7_method_1_code, 2, none, 1, false, ix_t86)
def ix_m87 : ix_M := (⟨"VotedBank$Poll", "told", "(III)I"⟩, prog_7_method_2_code, 5, (some .int), 3, false, ix_t87)
def ix_m88 : ix_M := (⟨"VotedBank$Poll", "askAll", "()V"⟩, prog_7_method_3_code, 3, none, 0, false, ix_t88)
def ix_m89 : ix_M := (⟨"VotedBank$Poll", "firstMaker", "(I)I"⟩, prog_7_method_5_code, 3, (some .int), 1, false, ix_t89)
def ix_m90 : ix_M := (⟨"VotedBank$Poll", "timesTurned", "(I)I"⟩, prog_7_method_6_code, 9, (some .int), 1, false, ix_t90)
def ix_m91 : ix_M := (⟨"VotedBank$Poll", "compareByShells", "()V"⟩, prog_7_method_10_code, 1, none, 0, false, ix_t91)
def ix_m92 : ix_M := (⟨"VotedBank$Poll", "lead", "(II)I"⟩, prog_7_method_14_code, 3, (some .int), 2, false, ix_t92)
def ix_m93 : ix_M := (⟨"VotedBank$Poll", "lastLeft", "()I"⟩, prog_7_method_17_code, 3, (some .int), 0, false, ix_t93)
def ix_m94 : ix_M := (⟨"VotedBank$Poll", "points", "(I)I"⟩, prog_7_method_16_code, 6, (some .int), 1, false, ix_t94)
def ix_m95 : ix_M := (⟨"VotedBank$Poll", "champion", "()I"⟩, prog_7_method_15_code, 4, (some .int), 0, false, ix_t95)
def ix_m96 : ix_M := (⟨"VotedBank$Poll", "orderFor", "(I)I"⟩, prog_7_method_20_code, 6, (some .int), 1, false, ix_t96)
def ix_m97 : ix_M := (⟨"VotedBank$Poll", "boatsNeeded", "(I)I"⟩, prog_7_method_24_code, 4, (some .int), 1, false, ix_t97)
def ix_m98 : ix_M := (⟨"VotedBank$Poll", "crossingsNeeded", "(I)I"⟩, prog_7_method_25_code, 4, (some .int), 1, false, ix_t98)
def ix_m99 : ix_M := (⟨"VotedBank$Poll", "compareByHeads", "()V"⟩, prog_7_method_11_code, 1, none, 0, false, ix_t99)
def ix_m100 : ix_M := (⟨"VotedBank$Poll", "nearestRank", "(I)I"⟩, prog_7_method_22_code, 9, (some .int), 1, false, ix_t100)
def ix_m101 : ix_M := (⟨"VotedBank$Poll", "findCheapest", "(I)V"⟩, prog_7_method_26_code, 9, none, 1, false, ix_t101)
def ix_m102 : ix_M := (⟨"VotedBank$Poll", "goodMove", "(I)I"⟩, prog_7_method_29_code, 5, (some .int), 1, false, ix_t102)
def ix_m103 : ix_M := (⟨"VotedBank$Poll", "firstLandOf", "(I)I"⟩, prog_7_method_4_code, 2, (some .int), 1, false, ix_t103)
def ix_m104 : ix_M := (⟨"VotedBank$Poll", "listBut", "(I)I"⟩, prog_7_method_7_code, 4, (some .int), 1, false, ix_t104)
def ix_m105 : ix_M := (⟨"VotedBank$Poll", "turnsBank", "(II)Z"⟩, prog_7_method_9_code, 5, (some .boolean), 2, false, ix_t105)
def ix_m106 : ix_M := (⟨"VotedBank$Poll", "changedAt", "(I)I"⟩, prog_7_method_8_code, 2, (some .int), 1, false, ix_t106)
def ix_m107 : ix_M := (⟨"VotedBank$Poll", "compare", "(Z)V"⟩, prog_7_method_12_code, 3, none, 1, false, ix_t107)
def ix_m108 : ix_M := (⟨"VotedBank$Poll", "weakestOf", "(I)I"⟩, prog_7_method_18_code, 4, (some .int), 1, false, ix_t108)
def ix_m109 : ix_M := (⟨"VotedBank$Poll", "winnerInOrder", "(I)I"⟩, prog_7_method_21_code, 5, (some .int), 1, false, ix_t109)
def ix_m110 : ix_M := (⟨"VotedBank$Poll", "couplesAgainst", "(I)I"⟩, prog_7_method_23_code, 6, (some .int), 1, false, ix_t110)
def ix_m111 : ix_M := (⟨"VotedBank$Poll", "layAll", "(I)I"⟩, prog_7_method_27_code, 4, (some .int), 1, false, ix_t111)
def ix_m112 : ix_M := (⟨"VotedBank$Poll", "keepIfCheaper", "(III)V"⟩, prog_7_method_28_code, 5, none, 3, false, ix_t112)
def ix_m113 : ix_M := (⟨"VotedBank$Poll", "worth", "(I)I"⟩, prog_7_method_30_code, 1, (some .int), 1, true, ix_t113)
def ix_m114 : ix_M := (⟨"VotedBank$Poll", "addCouples", "(II)V"⟩, prog_7_method_13_code, 6, none, 2, false, ix_t114)
def ix_m115 : ix_M := (⟨"VotedBank$Poll", "firstAmong", "(II)I"⟩, prog_7_method_19_code, 4, (some .int), 2, true, ix_t115)
def ix_m116 : ix_M := (⟨"VotedBank$River", "board", "(IIII)I"⟩, prog_8_method_3_code, 6, (some .int), 4, false, ix_t116)
def ix_m117 : ix_M := (⟨"VotedBank$River", "tell", "(II)Z"⟩, prog_8_method_4_code, 3, (some .boolean), 2, false, ix_t117)
def ix_m118 : ix_M := (⟨"VotedBank$River", "tellOf", "(III)Z"⟩, prog_8_method_5_code, 4, (some .boolean), 3, false, ix_t118)
def ix_m119 : ix_M := (⟨"VotedBank$River", "canRow", "(I)Z"⟩, prog_8_method_10_code, 2, (some .boolean), 1, false, ix_t119)
def ix_m120 : ix_M := (⟨"VotedBank$River", "has", "(I)Z"⟩, prog_8_method_6_code, 2, (some .boolean), 1, false, ix_t120)
def ix_m121 : ix_M := (⟨"VotedBank$River", "isOver", "(I)Z"⟩, prog_8_method_7_code, 2, (some .boolean), 1, false, ix_t121)
def ix_m122 : ix_M := (⟨"VotedBank$River", "notOver", "()I"⟩, prog_8_method_9_code, 1, (some .int), 0, false, ix_t122)
def ix_m123 : ix_M := (⟨"VotedBank$River", "everyone", "()I"⟩, prog_8_method_8_code, 1, (some .int), 0, false, ix_t123)
def ix_m124 : ix_M := (⟨"VotedBank$River", "trait", "(II)I"⟩, prog_8_method_11_code, 3, (some .int), 2, false, ix_t124)
def ix_m125 : ix_M := (⟨"VotedBank$River", "nearestTo", "(I)I"⟩, prog_8_method_15_code, 6, (some .int), 1, false, ix_t125)
def ix_m126 : ix_M := (⟨"VotedBank$River", "<init>", "()V"⟩, prog_8_method_1_code, 1, none, 0, false, ix_t126)
def ix_m127 : ix_M := (⟨"VotedBank$River", "copyFrom", "(LVotedBank$River;)V"⟩, prog_8_method_2_code, 2, none, 1, false, ix_t127)
def ix_m128 : ix_M := (⟨"VotedBank$River", "settle", "(I)V"⟩, prog_8_method_16_code, 2, none, 1, false, ix_t128)
def ix_m129 : ix_M := (⟨"VotedBank$River", "talkerTo", "(II)I"⟩, prog_8_method_14_code, 6, (some .int), 2, false, ix_t129)
def ix_m130 : ix_M := (⟨"VotedBank$River", "sameFirst", "(II)I"⟩, prog_8_method_13_code, 6, (some .int), 2, false, ix_t130)
def ix_m131 : ix_M := (⟨"VotedBank$River", "draw", "(I)I"⟩, prog_8_method_12_code, 2, (some .int), 1, false, ix_t131)
def ix_m132 : ix_M := (⟨"VotedBank$Tape", "<init>", "()V"⟩, prog_9_method_1_code, 1, none, 0, false, ix_t132)
def ix_m133 : ix_M := (⟨"VotedBank$Tape", "hasRoom", "()Z"⟩, prog_9_method_2_code, 1, (some .boolean), 0, false, ix_t133)
def ix_m134 : ix_M := (⟨"VotedBank$Tape", "put", "(I)V"⟩, prog_9_method_3_code, 3, none, 1, false, ix_t134)
def ix_m135 : ix_M := (⟨"VotedBank$Tape", "rewind", "(Ljava/lang/String;)V"⟩, prog_9_method_4_code, 5, none, 1, false, ix_t135)
def ix_m136 : ix_M := (⟨"VotedBank$Tape", "isBlank", "(I)Z"⟩, prog_9_method_10_code, 1, (some .boolean), 1, true, ix_t136)
def ix_m137 : ix_M := (⟨"VotedBank$Tape", "isLetter", "(I)Z"⟩, prog_9_method_11_code, 1, (some .boolean), 1, true, ix_t137)
def ix_m138 : ix_M := (⟨"VotedBank$Tape", "addWord", "(ILjava/lang/String;)I"⟩, prog_9_method_7_code, 8, (some .int), 2, false, ix_t138)
def ix_m139 : ix_M := (⟨"VotedBank$Tape", "isFigure", "(I)Z"⟩, prog_9_method_12_code, 1, (some .boolean), 1, true, ix_t139)
def ix_m140 : ix_M := (⟨"VotedBank$Tape", "addNumber", "(I)I"⟩, prog_9_method_9_code, 4, (some .int), 1, false, ix_t140)
def ix_m141 : ix_M := (⟨"VotedBank$Tape", "addToken", "(III)V"⟩, prog_9_method_6_code, 4, none, 3, false, ix_t141)
def ix_m142 : ix_M := (⟨"VotedBank$Tape", "advance", "()V"⟩, prog_9_method_5_code, 1, none, 0, false, ix_t142)
def ix_m143 : ix_M := (⟨"VotedBank$Tape", "isSpelled", "(IILjava/lang/String;I)Z"⟩, prog_9_method_8_code, 6, (some .boolean), 4, false, ix_t143)
def ix_m144 : ix_M := (⟨"VotedBank$Texts", "take", "(ILVotedBank$Texts;)V"⟩, prog_10_method_3_code, 3, none, 2, false, ix_t144)
def ix_m145 : ix_M := (⟨"VotedBank$Texts", "reachedBy", "(I)I"⟩, prog_10_method_5_code, 4, (some .int), 1, false, ix_t145)
def ix_m146 : ix_M := (⟨"VotedBank$Texts", "<init>", "()V"⟩, prog_10_method_1_code, 1, none, 0, false, ix_t146)
def ix_m147 : ix_M := (⟨"VotedBank$Texts", "turnsAt", "(II)Z"⟩, prog_10_method_4_code, 3, (some .boolean), 2, false, ix_t147)
def ix_m148 : ix_M := (⟨"VotedBank$Texts", "clear", "(I)V"⟩, prog_10_method_2_code, 2, none, 1, false, ix_t148)
def ix_m149 : ix_M := (⟨"VotedBank$Texts", "hearersOf", "(I)I"⟩, prog_10_method_6_code, 4, (some .int), 1, false, ix_t149)
def ix_m150 : ix_M := (⟨"VotedBank$World", "<init>", "()V"⟩, prog_11_method_1_code, 1, none, 0, false, ix_t150)
def ix_m151 : ix_M := (⟨"VotedBank$World", "leaveOver", "(I)V"⟩, prog_11_method_3_code, 3, none, 1, false, ix_t151)
def ix_m152 : ix_M := (⟨"VotedBank$World", "see", "(I)I"⟩, prog_11_method_4_code, 2, (some .int), 1, false, ix_t152)
def ix_m153 : ix_M := (⟨"VotedBank$World", "beginnings", "(I)I"⟩, prog_11_method_5_code, 6, (some .int), 1, false, ix_t153)
def ix_m154 : ix_M := (⟨"VotedBank$World", "copyFrom", "(LVotedBank$World;)V"⟩, prog_11_method_2_code, 3, none, 1, false, ix_t154)
def ix_m155 : ix_M := (⟨"VotedBank$World", "couldBegin", "(II)Z"⟩, prog_11_method_6_code, 6, (some .boolean), 2, false, ix_t155)
def ix_m156 : ix_M := (⟨"VotedBankModel", "<init>", "()V"⟩, prog_13_method_1_code, 1, none, 0, false, ix_t156)
def ix_m157 : ix_M := (⟨"VotedBankModel", "state", "(I)I"⟩, prog_13_method_13_code, 3, (some .int), 1, false, ix_t157)
def ix_m158 : ix_M := (⟨"VotedBankModel", "passenger", "(IZII)I"⟩, prog_13_method_25_code, 6, (some .int), 4, false, ix_t158)
def ix_m159 : ix_M := (⟨"VotedBankModel", "set", "(III)Z"⟩, prog_13_method_27_code, 4, (some .boolean), 3, false, ix_t159)
def ix_m160 : ix_M := (⟨"VotedBankModel", "cross", "(I)I"⟩, prog_13_method_86_code, 2, (some .int), 1, false, ix_t160)
def ix_m161 : ix_M := (⟨"VotedBankModel", "stay", "(IZ)Z"⟩, prog_13_method_88_code, 3, (some .boolean), 2, false, ix_t161)
def ix_m162 : ix_M := (⟨"VotedBankModel", "log", "()I"⟩, prog_13_method_89_code, 5, (some .int), 0, false, ix_t162)
def ix_m163 : ix_M := (⟨"VotedBankModel", "feed", "(IIIII)I"⟩, prog_13_method_29_code, 6, (some .int), 5, false, ix_t163)
def ix_m164 : ix_M := (⟨"VotedBankModel", "end", "(I)Z"⟩, prog_13_method_30_code, 2, (some .boolean), 1, false, ix_t164)
def ix_m165 : ix_M := (⟨"VotedBankModel", "text", "(I)I"⟩, prog_13_method_64_code, 3, (some .int), 1, false, ix_t165)
def ix_m166 : ix_M := (⟨"VotedBankModel", "fault", "(I)I"⟩, prog_13_method_65_code, 2, (some .int), 1, false, ix_t166)
def ix_m167 : ix_M := (⟨"VotedBankModel", "of", "(II)I"⟩, prog_13_method_90_code, 3, (some .int), 2, false, ix_t167)
def ix_m168 : ix_M := (⟨"VotedBankModel", "sway", "(II)I"⟩, prog_13_method_91_code, 3, (some .int), 2, false, ix_t168)
def ix_m169 : ix_M := (⟨"VotedBankModel", "season", "(II)I"⟩, prog_13_method_92_code, 3, (some .int), 2, false, ix_t169)
def ix_m170 : ix_M := (⟨"VotedBankModel", "book", "(II)I"⟩, prog_13_method_93_code, 3, (some .int), 2, false, ix_t170)
def ix_m171 : ix_M := (⟨"VotedBankModel", "would", "(II)I"⟩, prog_13_method_94_code, 4, (some .int), 2, false, ix_t171)
def ix_m172 : ix_M := (⟨"VotedBankModel", "makes", "(II)I"⟩, prog_13_method_97_code, 6, (some .int), 2, false, ix_t172)
def ix_m173 : ix_M := (⟨"VotedBankModel", "pivots", "(I)I"⟩, prog_13_method_98_code, 5, (some .int), 1, false, ix_t173)
def ix_m174 : ix_M := (⟨"VotedBankModel", "beats", "(II)I"⟩, prog_13_method_100_code, 3, (some .int), 2, false, ix_t174)
def ix_m175 : ix_M := (⟨"VotedBankModel", "wins", "(I)I"⟩, prog_13_method_108_code, 2, (some .int), 1, false, ix_t175)
def ix_m176 : ix_M := (⟨"VotedBankModel", "boats", "(II)I"⟩, prog_13_method_111_code, 3, (some .int), 2, false, ix_t176)
def ix_m177 : ix_M := (⟨"VotedBankModel", "reaches", "(I)I"⟩, prog_13_method_113_code, 4, (some .int), 1, false, ix_t177)
def ix_m178 : ix_M := (⟨"VotedBankModel", "alike", "(II)I"⟩, prog_13_method_114_code, 7, (some .int), 2, false, ix_t178)
def ix_m179 : ix_M := (⟨"VotedBankModel", "middle", "(I)I"⟩, prog_13_method_116_code, 6, (some .int), 1, false, ix_t179)
def ix_m180 : ix_M := (⟨"VotedBankModel", "seen", "(I)I"⟩, prog_13_method_117_code, 2, (some .int), 1, false, ix_t180)
def ix_m181 : ix_M := (⟨"VotedBankModel", "began", "(I)I"⟩, prog_13_method_119_code, 6, (some .int), 1, false, ix_t181)
def ix_m182 : ix_M := (⟨"VotedBankModel", "bribe", "(II)Z"⟩, prog_13_method_120_code, 3, (some .boolean), 2, false, ix_t182)
def ix_m183 : ix_M := (⟨"VotedBankModel", "costs", "(II)I"⟩, prog_13_method_122_code, 6, (some .int), 2, false, ix_t183)
def ix_m184 : ix_M := (⟨"VotedBankModel", "game", "(I)I"⟩, prog_13_method_124_code, 6, (some .int), 1, false, ix_t184)
def ix_m185 : ix_M := (⟨"VotedBankModel", "undo", "()Z"⟩, prog_13_method_10_code, 2, (some .boolean), 0, false, ix_t185)
def ix_m186 : ix_M := (⟨"VotedBankModel", "image", "(Z)Z"⟩, prog_13_method_128_code, 3, (some .boolean), 1, false, ix_t186)
def ix_m187 : ix_M := (⟨"VotedBankModel", "look", "(I)I"⟩, prog_13_method_129_code, 2, (some .int), 1, false, ix_t187)
def ix_m188 : ix_M := (⟨"VotedBankModel", "isRank", "(I)Z"⟩, prog_13_method_17_code, 4, (some .boolean), 1, false, ix_t188)
def ix_m189 : ix_M := (⟨"VotedBankModel", "isIn", "(III)Z"⟩, prog_13_method_3_code, 4, (some .boolean), 3, false, ix_t189)
def ix_m190 : ix_M := (⟨"VotedBankModel", "canSet", "(III)Z"⟩, prog_13_method_26_code, 4, (some .boolean), 3, false, ix_t190)
def ix_m191 : ix_M := (⟨"VotedBankModel", "canCross", "(I)Z"⟩, prog_13_method_85_code, 2, (some .boolean), 1, false, ix_t191)
def ix_m192 : ix_M := (⟨"VotedBankModel", "keepsAhead", "()V"⟩, prog_13_method_9_code, 2, none, 0, false, ix_t192)
def ix_m193 : ix_M := (⟨"VotedBankModel", "crosses", "(I)I"⟩, prog_13_method_84_code, 3, (some .int), 1, false, ix_t193)
def ix_m194 : ix_M := (⟨"VotedBankModel", "isOne", "(I)Z"⟩, prog_13_method_21_code, 2, (some .boolean), 1, false, ix_t194)
def ix_m195 : ix_M := (⟨"VotedBankModel", "stays", "(I)V"⟩, prog_13_method_87_code, 2, none, 1, false, ix_t195)
def ix_m196 : ix_M := (⟨"VotedBankModel", "hereSet", "()I"⟩, prog_13_method_24_code, 1, (some .int), 0, false, ix_t196)
def ix_m197 : ix_M := (⟨"VotedBankModel", "has", "(II)Z"⟩, prog_13_method_8_code, 3, (some .boolean), 2, false, ix_t197)
def ix_m198 : ix_M := (⟨"VotedBankModel", "types", "(I)V"⟩, prog_13_method_28_code, 3, none, 1, false, ix_t198)
def ix_m199 : ix_M := (⟨"VotedBankModel", "readsText", "(I)I"⟩, prog_13_method_62_code, 2, (some .int), 1, false, ix_t199)
def ix_m200 : ix_M := (⟨"VotedBankModel", "takesLaw", "(I)V"⟩, prog_13_method_51_code, 3, none, 1, false, ix_t200)
def ix_m201 : ix_M := (⟨"VotedBankModel", "takesOther", "(II)V"⟩, prog_13_method_63_code, 4, none, 2, false, ix_t201)
def ix_m202 : ix_M := (⟨"VotedBankModel", "shellsNow", "(I)I"⟩, prog_13_method_74_code, 2, (some .int), 1, false, ix_t202)
def ix_m203 : ix_M := (⟨"VotedBankModel", "abstainOf", "(III)I"⟩, prog_13_method_72_code, 4, (some .int), 3, false, ix_t203)
def ix_m204 : ix_M := (⟨"VotedBankModel", "swayOf", "(IIII)I"⟩, prog_13_method_71_code, 5, (some .int), 4, false, ix_t204)
def ix_m205 : ix_M := (⟨"VotedBankModel", "seasonOf", "(I)I"⟩, prog_13_method_82_code, 3, (some .int), 1, false, ix_t205)
def ix_m206 : ix_M := (⟨"VotedBankModel", "thinks", "()V"⟩, prog_13_method_11_code, 2, none, 0, false, ix_t206)
def ix_m207 : ix_M := (⟨"VotedBankModel", "votes", "(I)I"⟩, prog_13_method_81_code, 5, (some .int), 1, false, ix_t207)
def ix_m208 : ix_M := (⟨"VotedBankModel", "endsThought", "()V"⟩, prog_13_method_12_code, 2, none, 0, false, ix_t208)
def ix_m209 : ix_M := (⟨"VotedBankModel", "findsLays", "()V"⟩, prog_13_method_95_code, 2, none, 0, false, ix_t209)
def ix_m210 : ix_M := (⟨"VotedBankModel", "onesOf", "(I)I"⟩, prog_13_method_7_code, 4, (some .int), 1, false, ix_t210)
def ix_m211 : ix_M := (⟨"VotedBankModel", "voteOf", "(III)I"⟩, prog_13_method_96_code, 6, (some .int), 3, false, ix_t211)
def ix_m212 : ix_M := (⟨"VotedBankModel", "beatsBy", "(II)I"⟩, prog_13_method_99_code, 5, (some .int), 2, false, ix_t212)
def ix_m213 : ix_M := (⟨"VotedBankModel", "champion", "()I"⟩, prog_13_method_101_code, 4, (some .int), 0, false, ix_t213)
def ix_m214 : ix_M := (⟨"VotedBankModel", "lastLand", "()I"⟩, prog_13_method_105_code, 3, (some .int), 0, false, ix_t214)
def ix_m215 : ix_M := (⟨"VotedBankModel", "pointsOf", "(I)I"⟩, prog_13_method_102_code, 4, (some .int), 1, false, ix_t215)
def ix_m216 : ix_M := (⟨"VotedBankModel", "putFor", "(I)I"⟩, prog_13_method_107_code, 4, (some .int), 1, false, ix_t216)
def ix_m217 : ix_M := (⟨"VotedBankModel", "boatsBy", "(I)I"⟩, prog_13_method_109_code, 6, (some .int), 1, false, ix_t217)
def ix_m218 : ix_M := (⟨"VotedBankModel", "crossingsBy", "(I)I"⟩, prog_13_method_110_code, 4, (some .int), 1, false, ix_t218)
def ix_m219 : ix_M := (⟨"VotedBankModel", "hearersOf", "(I)I"⟩, prog_13_method_112_code, 4, (some .int), 1, false, ix_t219)
def ix_m220 : ix_M := (⟨"VotedBankModel", "otherwise", "(II)I"⟩, prog_13_method_20_code, 6, (some .int), 2, false, ix_t220)
def ix_m221 : ix_M := (⟨"VotedBankModel", "lesser", "(II)I"⟩, prog_13_method_6_code, 3, (some .int), 2, false, ix_t221)
def ix_m222 : ix_M := (⟨"VotedBankModel", "otherwiseAll", "(I)I"⟩, prog_13_method_115_code, 4, (some .int), 1, false, ix_t222)
def ix_m223 : ix_M := (⟨"VotedBankModel", "canBegin", "(II)Z"⟩, prog_13_method_118_code, 6, (some .boolean), 2, false, ix_t223)
def ix_m224 : ix_M := (⟨"VotedBankModel", "bribesOf", "(I)I"⟩, prog_13_method_121_code, 4, (some .int), 1, false, ix_t224)
def ix_m225 : ix_M := (⟨"VotedBankModel", "nimber", "(I)I"⟩, prog_13_method_123_code, 2, (some .int), 1, false, ix_t225)
def ix_m226 : ix_M := (⟨"VotedBankModel", "keeps", "(I)I"⟩, prog_13_method_125_code, 2, (some .int), 1, false, ix_t226)
def ix_m227 : ix_M := (⟨"VotedBankModel", "keepsTold", "()V"⟩, prog_13_method_127_code, 2, none, 0, false, ix_t227)
def ix_m228 : ix_M := (⟨"VotedBankModel", "keepsLaw", "()V"⟩, prog_13_method_126_code, 2, none, 0, false, ix_t228)
def ix_m229 : ix_M := (⟨"VotedBankModel", "overSet", "()I"⟩, prog_13_method_23_code, 3, (some .int), 0, false, ix_t229)
def ix_m230 : ix_M := (⟨"VotedBankModel", "landAt", "(II)I"⟩, prog_13_method_15_code, 5, (some .int), 2, false, ix_t230)
def ix_m231 : ix_M := (⟨"VotedBankModel", "notes", "(III)V"⟩, prog_13_method_75_code, 5, none, 3, false, ix_t231)
def ix_m232 : ix_M := (⟨"VotedBankModel", "isOver", "(II)Z"⟩, prog_13_method_83_code, 3, (some .boolean), 2, false, ix_t232)
def ix_m233 : ix_M := (⟨"VotedBankModel", "reads", "()V"⟩, prog_13_method_36_code, 2, none, 0, false, ix_t233)
def ix_m234 : ix_M := (⟨"VotedBankModel", "readEars", "()I"⟩, prog_13_method_56_code, 2, (some .int), 0, false, ix_t234)
def ix_m235 : ix_M := (⟨"VotedBankModel", "readLog", "()I"⟩, prog_13_method_59_code, 2, (some .int), 0, false, ix_t235)
def ix_m236 : ix_M := (⟨"VotedBankModel", "readSeasons", "()I"⟩, prog_13_method_61_code, 2, (some .int), 0, false, ix_t236)
def ix_m237 : ix_M := (⟨"VotedBankModel", "readLaw", "()I"⟩, prog_13_method_50_code, 3, (some .int), 0, false, ix_t237)
def ix_m238 : ix_M := (⟨"VotedBankModel", "shellsOf", "(III)I"⟩, prog_13_method_73_code, 4, (some .int), 3, false, ix_t238)
def ix_m239 : ix_M := (⟨"VotedBankModel", "asks", "(IIII)V"⟩, prog_13_method_69_code, 6, none, 4, false, ix_t239)
def ix_m240 : ix_M := (⟨"VotedBankModel", "lawTells", "(III)I"⟩, prog_13_method_70_code, 5, (some .int), 3, false, ix_t240)
def ix_m241 : ix_M := (⟨"VotedBankModel", "isTalkedTo", "(III)V"⟩, prog_13_method_77_code, 6, none, 3, false, ix_t241)
def ix_m242 : ix_M := (⟨"VotedBankModel", "wadingOf", "(II)I"⟩, prog_13_method_79_code, 5, (some .int), 2, false, ix_t242)
def ix_m243 : ix_M := (⟨"VotedBankModel", "firstOf", "(I)I"⟩, prog_13_method_22_code, 2, (some .int), 1, false, ix_t243)
def ix_m244 : ix_M := (⟨"VotedBankModel", "winner", "()I"⟩, prog_13_method_80_code, 4, (some .int), 0, false, ix_t244)
def ix_m245 : ix_M := (⟨"VotedBankModel", "isAhead", "(III)Z"⟩, prog_13_method_19_code, 4, (some .boolean), 3, false, ix_t245)
def ix_m246 : ix_M := (⟨"VotedBankModel", "goesAmong", "(I)I"⟩, prog_13_method_104_code, 4, (some .int), 1, false, ix_t246)
def ix_m247 : ix_M := (⟨"VotedBankModel", "placeIn", "(II)I"⟩, prog_13_method_16_code, 4, (some .int), 2, false, ix_t247)
def ix_m248 : ix_M := (⟨"VotedBankModel", "putBy", "(I)I"⟩, prog_13_method_106_code, 4, (some .int), 1, false, ix_t248)
def ix_m249 : ix_M := (⟨"VotedBankModel", "raw", "(I)I"⟩, prog_13_method_31_code, 2, (some .int), 1, false, ix_t249)
def ix_m250 : ix_M := (⟨"VotedBankModel", "isLetter", "(I)Z"⟩, prog_13_method_32_code, 2, (some .boolean), 1, false, ix_t250)
def ix_m251 : ix_M := (⟨"VotedBankModel", "wordAt", "(II)I"⟩, prog_13_method_35_code, 6, (some .int), 2, false, ix_t251)
def ix_m252 : ix_M := (⟨"VotedBankModel", "isDigit", "(I)Z"⟩, prog_13_method_33_code, 2, (some .boolean), 1, false, ix_t252)
def ix_m253 : ix_M := (⟨"VotedBankModel", "isMarkSign", "(I)Z"⟩, prog_13_method_34_code, 2, (some .boolean), 1, false, ix_t253)
def ix_m254 : ix_M := (⟨"VotedBankModel", "isWord", "(I)Z"⟩, prog_13_method_38_code, 2, (some .boolean), 1, false, ix_t254)
def ix_m255 : ix_M := (⟨"VotedBankModel", "errs", "(I)I"⟩, prog_13_method_37_code, 2, (some .int), 1, false, ix_t255)
def ix_m256 : ix_M := (⟨"VotedBankModel", "readEar", "()I"⟩, prog_13_method_55_code, 3, (some .int), 0, false, ix_t256)
def ix_m257 : ix_M := (⟨"VotedBankModel", "readLogLine", "(I)I"⟩, prog_13_method_58_code, 2, (some .int), 1, false, ix_t257)
def ix_m258 : ix_M := (⟨"VotedBankModel", "readSeason", "(I)I"⟩, prog_13_method_60_code, 2, (some .int), 1, false, ix_t258)
def ix_m259 : ix_M := (⟨"VotedBankModel", "isLineWord", "()Z"⟩, prog_13_method_49_code, 1, (some .boolean), 0, false, ix_t259)
def ix_m260 : ix_M := (⟨"VotedBankModel", "readSum", "()I"⟩, prog_13_method_44_code, 2, (some .int), 0, false, ix_t260)
def ix_m261 : ix_M := (⟨"VotedBankModel", "readAny", "()I"⟩, prog_13_method_48_code, 4, (some .int), 0, false, ix_t261)
def ix_m262 : ix_M := (⟨"VotedBankModel", "isSign", "(I)Z"⟩, prog_13_method_39_code, 2, (some .boolean), 1, false, ix_t262)
def ix_m263 : ix_M := (⟨"VotedBankModel", "lineOf", "(I)I"⟩, prog_13_method_68_code, 3, (some .int), 1, false, ix_t263)
def ix_m264 : ix_M := (⟨"VotedBankModel", "runs", "(III)I"⟩, prog_13_method_67_code, 6, (some .int), 3, false, ix_t264)
def ix_m265 : ix_M := (⟨"VotedBankModel", "held", "(III)I"⟩, prog_13_method_4_code, 4, (some .int), 3, false, ix_t265)
def ix_m266 : ix_M := (⟨"VotedBankModel", "talkerTo", "(II)I"⟩, prog_13_method_76_code, 5, (some .int), 2, false, ix_t266)
def ix_m267 : ix_M := (⟨"VotedBankModel", "draw", "(I)I"⟩, prog_13_method_14_code, 2, (some .int), 1, false, ix_t267)
def ix_m268 : ix_M := (⟨"VotedBankModel", "rankWith", "(II)I"⟩, prog_13_method_18_code, 5, (some .int), 2, false, ix_t268)
def ix_m269 : ix_M := (⟨"VotedBankModel", "doesAbstain", "(III)Z"⟩, prog_13_method_78_code, 5, (some .boolean), 3, false, ix_t269)
def ix_m270 : ix_M := (⟨"VotedBankModel", "greater", "(II)I"⟩, prog_13_method_5_code, 3, (some .int), 2, false, ix_t270)
def ix_m271 : ix_M := (⟨"VotedBankModel", "firstAmong", "(II)I"⟩, prog_13_method_103_code, 4, (some .int), 2, false, ix_t271)
def ix_m272 : ix_M := (⟨"VotedBankModel", "readTold", "(III)I"⟩, prog_13_method_54_code, 4, (some .int), 3, false, ix_t272)
def ix_m273 : ix_M := (⟨"VotedBankModel", "readNumber", "(II)I"⟩, prog_13_method_52_code, 4, (some .int), 2, false, ix_t273)
def ix_m274 : ix_M := (⟨"VotedBankModel", "readMark", "(I)I"⟩, prog_13_method_53_code, 2, (some .int), 1, false, ix_t274)
def ix_m275 : ix_M := (⟨"VotedBankModel", "readSet", "(I)I"⟩, prog_13_method_57_code, 5, (some .int), 1, false, ix_t275)
def ix_m276 : ix_M := (⟨"VotedBankModel", "readProduct", "()I"⟩, prog_13_method_43_code, 2, (some .int), 0, false, ix_t276)
def ix_m277 : ix_M := (⟨"VotedBankModel", "emits", "(II)V"⟩, prog_13_method_40_code, 3, none, 2, false, ix_t277)
def ix_m278 : ix_M := (⟨"VotedBankModel", "waits", "(I)V"⟩, prog_13_method_46_code, 2, none, 1, false, ix_t278)
def ix_m279 : ix_M := (⟨"VotedBankModel", "readCompared", "()I"⟩, prog_13_method_45_code, 2, (some .int), 0, false, ix_t279)
def ix_m280 : ix_M := (⟨"VotedBankModel", "settles", "(I)V"⟩, prog_13_method_47_code, 2, none, 1, false, ix_t280)
def ix_m281 : ix_M := (⟨"VotedBankModel", "twoOf", "(III)I"⟩, prog_13_method_66_code, 4, (some .int), 3, false, ix_t281)
def ix_m282 : ix_M := (⟨"VotedBankModel", "readUnit", "()I"⟩, prog_13_method_42_code, 2, (some .int), 0, false, ix_t282)
def ix_m283 : ix_M := (⟨"VotedBankModel", "canAsk", "(I)Z"⟩, prog_13_method_41_code, 2, (some .boolean), 1, false, ix_t283)
def ix_m284 : ix_M := (⟨"java/util/Arrays", "fill", "([II)V"⟩, prog_21_method_103_code, 4, none, 2, true, ix_t284)
def ix_m285 : ix_M := (⟨"java/lang/Math", "min", "(II)I"⟩, prog_16_method_69_code, 2, (some .int), 2, true, ix_t285)
def ix_m286 : ix_M := (⟨"java/lang/Integer", "bitCount", "(I)I"⟩, prog_15_method_49_code, 1, (some .int), 1, true, ix_t286)
def ix_m287 : ix_M := (⟨"java/lang/Integer", "numberOfTrailingZeros", "(I)I"⟩, prog_15_method_48_code, 2, (some .int), 1, true, ix_t287)
def ix_m288 : ix_M := (⟨"java/lang/String", "indexOf", "(I)I"⟩, prog_17_method_79_code, 2, (some .int), 1, false, ix_t288)
def ix_m289 : ix_M := (⟨"java/lang/Math", "max", "(II)I"⟩, prog_16_method_65_code, 2, (some .int), 2, true, ix_t289)
def ix_m290 : ix_M := (⟨"java/lang/String", "length", "()I"⟩, prog_17_method_54_code, 1, (some .int), 0, false, ix_t290)
def ix_m291 : ix_M := (⟨"java/lang/String", "charAt", "(I)C"⟩, prog_17_method_56_code, 2, (some .char), 1, false, ix_t291)
def ix_m292 : ix_M := (⟨"java/lang/String", "indexOf", "(II)I"⟩, prog_17_method_80_code, 3, (some .int), 2, false, ix_t292)
def ix_m293 : ix_M := (⟨"java/lang/String", "coder", "()B"⟩, prog_17_method_152_code, 1, (some .byte), 0, false, ix_t293)
def ix_m294 : ix_M := (⟨"java/lang/String", "isLatin1", "()Z"⟩, prog_17_method_154_code, 1, (some .boolean), 0, false, ix_t294)
def ix_m295 : ix_M := (⟨"java/lang/StringLatin1", "charAt", "([BI)C"⟩, prog_18_method_2_code, 2, (some .char), 2, true, ix_t295)
def ix_m296 : ix_M := (⟨"java/lang/StringLatin1", "indexOf", "([BIII)I"⟩, prog_18_method_22_code, 4, (some .int), 4, true, ix_t296)
def ix_m297 : ix_M := (⟨"java/lang/StringLatin1", "canEncode", "(I)Z"⟩, prog_18_method_4_code, 1, (some .boolean), 1, true, ix_t297)
def ix_m298 : ix_M := (⟨"java/lang/StringLatin1", "indexOfChar", "([BIII)I"⟩, prog_18_method_23_code, 6, (some .int), 4, true, ix_t298)
def ix_ms : List ix_M := [ix_m0, ix_m1, ix_m2, ix_m3, ix_m4, ix_m5, ix_m6, ix_m7, ix_m8, ix_m9, ix_m10, ix_m11, ix_m12, ix_m13, ix_m14, ix_m15, ix_m16, ix_m17, ix_m18, ix_m19, ix_m20, ix_m21, ix_m22, ix_m23, ix_m24, ix_m25, ix_m26, ix_m27, ix_m28, ix_m29, ix_m30, ix_m31, ix_m32, ix_m33, ix_m34, ix_m35, ix_m36, ix_m37, ix_m38, ix_m39, ix_m40, ix_m41, ix_m42, ix_m43, ix_m44, ix_m45, ix_m46, ix_m47, ix_m48, ix_m49, ix_m50, ix_m51, ix_m52, ix_m53, ix_m54, ix_m55, ix_m56, ix_m57, ix_m58, ix_m59, ix_m60, ix_m61, ix_m62, ix_m63, ix_m64, ix_m65, ix_m66, ix_m67, ix_m68, ix_m69, ix_m70, ix_m71, ix_m72, ix_m73, ix_m74, ix_m75, ix_m76, ix_m77, ix_m78, ix_m79, ix_m80, ix_m81, ix_m82, ix_m83, ix_m84, ix_m85, ix_m86, ix_m87, ix_m88, ix_m89, ix_m90, ix_m91, ix_m92, ix_m93, ix_m94, ix_m95, ix_m96, ix_m97, ix_m98, ix_m99, ix_m100, ix_m101, ix_m102, ix_m103, ix_m104, ix_m105, ix_m106, ix_m107, ix_m108, ix_m109, ix_m110, ix_m111, ix_m112, ix_m113, ix_m114, ix_m115, ix_m116, ix_m117, ix_m118, ix_m119, ix_m120, ix_m121, ix_m122, ix_m123, ix_m124, ix_m125, ix_m126, ix_m127, ix_m128, ix_m129, ix_m130, ix_m131, ix_m132, ix_m133, ix_m134, ix_m135, ix_m136, ix_m137, ix_m138, ix_m139, ix_m140, ix_m141, ix_m142, ix_m143, ix_m144, ix_m145, ix_m146, ix_m147, ix_m148, ix_m149, ix_m150, ix_m151, ix_m152, ix_m153, ix_m154, ix_m155, ix_m156, ix_m157, ix_m158, ix_m159, ix_m160, ix_m161, ix_m162, ix_m163, ix_m164, ix_m165, ix_m166, ix_m167, ix_m168, ix_m169, ix_m170, ix_m171, ix_m172, ix_m173, ix_m174, ix_m175, ix_m176, ix_m177, ix_m178, ix_m179, ix_m180, ix_m181, ix_m182, ix_m183, ix_m184, ix_m185, ix_m186, ix_m187, ix_m188, ix_m189, ix_m190, ix_m191, ix_m192, ix_m193, ix_m194, ix_m195, ix_m196, ix_m197, ix_m198, ix_m199, ix_m200, ix_m201, ix_m202, ix_m203, ix_m204, ix_m205, ix_m206, ix_m207, ix_m208, ix_m209, ix_m210, ix_m211, ix_m212, ix_m213, ix_m214, ix_m215, ix_m216, ix_m217, ix_m218, ix_m219, ix_m220, ix_m221, ix_m222, ix_m223, ix_m224, ix_m225, ix_m226, ix_m227, ix_m228, ix_m229, ix_m230, ix_m231, ix_m232, ix_m233, ix_m234, ix_m235, ix_m236, ix_m237, ix_m238, ix_m239, ix_m240, ix_m241, ix_m242, ix_m243, ix_m244, ix_m245, ix_m246, ix_m247, ix_m248, ix_m249, ix_m250, ix_m251, ix_m252, ix_m253, ix_m254, ix_m255, ix_m256, ix_m257, ix_m258, ix_m259, ix_m260, ix_m261, ix_m262, ix_m263, ix_m264, ix_m265, ix_m266, ix_m267, ix_m268, ix_m269, ix_m270, ix_m271, ix_m272, ix_m273, ix_m274, ix_m275, ix_m276, ix_m277, ix_m278, ix_m279, ix_m280, ix_m281, ix_m282, ix_m283, ix_m284, ix_m285, ix_m286, ix_m287, ix_m288, ix_m289, ix_m290, ix_m291, ix_m292, ix_m293, ix_m294, ix_m295, ix_m296, ix_m297, ix_m298]
def ix_tab (mi : Nat) : List ix_E := match ix_n ix_ms mi with
  | some m => m.2.2.2.2.2.2
  | none => []
def ix_mL (mi : Nat) : Nat := match ix_n ix_ms mi with
  | some m => m.2.2.1
  | none => 0
end
section
/-- how deep a method's calls go: a bound, the three that call each other by their first number -/
def ix_rks : List (Nat × Nat) := [(37, 0), (4, 0), (2, 0), (2, 0), (3, 0), (7, 0), (3, 0), (7, 0), (2, 0), (1, 0), (36, 0), (1, 0), (5, 0), (5, 0), (1, 0), (2, 0), (7, 0), (6, 0), (6, 0), (6, 0), (6, 0), (4, 0), (3, 0), (4, 0), (4, 0), (2, 0), (4, 0), (1, 0), (6, 0), (6, 0), (3, 0), (4, 0), (1, 0), (1, 0), (1, 0), (1, 0), (2, 0), (1, 0), (1, 0), (1, 0), (1, 0), (1, 0), (1, 0), (1, 0), (1, 0), (2, 0), (6, 0), (6, 0), (5, 0), (1, 0), (4, 0), (4, 0), (2, 0), (1, 0), (3, 0), (1, 0), (1, 0), (1, 0), (2, 0), (1, 0), (2, 0), (1, 0), (1, 0), (1, 0), (3, 0), (35, 0), (1, 0), (1, 0), (1, 0), (34, 0), (4, 0), (5, 0), (3, 0), (3, 0), (4, 2), (2, 0), (3, 0), (4, 0), (2, 0), (2, 0), (4, 1), (4, 3), (2, 0), (1, 0), (2, 0), (2, 0), (1, 0), (4, 0), (5, 0), (3, 0), (3, 0), (3, 0), (1, 0), (3, 0), (2, 0), (2, 0), (3, 0), (3, 0), (3, 0), (3, 0), (2, 0), (4, 0), (2, 0), (2, 0), (1, 0), (2, 0), (2, 0), (2, 0), (2, 0), (2, 0), (1, 0), (3, 0), (2, 0), (1, 0), (1, 0), (1, 0), (1, 0), (2, 0), (2, 0), (3, 0), (1, 0), (1, 0), (2, 0), (1, 0), (1, 0), (3, 0), (1, 0), (1, 0), (2, 0), (2, 0), (1, 0), (1, 0), (1, 0), (1, 0), (1, 0), (5, 0), (1, 0), (1, 0), (4, 0), (1, 0), (2, 0), (1, 0), (1, 0), (3, 0), (2, 0), (2, 0), (2, 0), (1, 0), (2, 0), (1, 0), (3, 0), (2, 0), (1, 0), (3, 0), (3, 0), (2, 0), (1, 0), (1, 0), (3, 0), (4, 0), (10, 0), (3, 0), (10, 0), (2, 0), (2, 0), (11, 0), (1, 0), (7, 0), (6, 0), (2, 0), (2, 0), (9, 0), (8, 0), (8, 0), (8, 0), (8, 0), (4, 0), (2, 0), (5, 0), (6, 0), (2, 0), (4, 0), (2, 0), (8, 0), (8, 0), (1, 0), (3, 0), (2, 0), (2, 0), (1, 0), (3, 0), (3, 0), (1, 0), (9, 0), (1, 0), (2, 0), (2, 0), (1, 0), (1, 0), (10, 0), (1, 0), (1, 0), (6, 0), (5, 0), (5, 0), (1, 0), (1, 0), (8, 0), (1, 0), (7, 0), (1, 0), (3, 0), (4, 0), (5, 0), (4, 0), (3, 0), (5, 0), (3, 0), (3, 0), (1, 0), (4, 0), (1, 0), (5, 0), (3, 0), (2, 0), (1, 0), (1, 0), (2, 0), (2, 0), (1, 0), (1, 0), (1, 0), (2, 0), (3, 0), (7, 0), (7, 0), (7, 0), (9, 0), (5, 0), (3, 0), (4, 0), (6, 0), (7, 0), (2, 0), (2, 0), (3, 0), (3, 0), (2, 0), (2, 0), (1, 0), (2, 0), (1, 0), (2, 0), (1, 0), (1, 0), (1, 0), (6, 0), (6, 0), (6, 0), (2, 0), (6, 0), (8, 0), (1, 0), (3, 0), (2, 0), (1, 0), (3, 0), (1, 0), (2, 0), (6, 0), (1, 0), (2, 0), (5, 0), (4, 0), (4, 0), (5, 0), (5, 0), (1, 0), (1, 0), (7, 0), (2, 0), (1, 0), (4, 0), (2, 0), (1, 0), (1, 0), (1, 0), (1, 0), (4, 0), (1, 0), (2, 0), (2, 0), (3, 0), (1, 0), (1, 0), (1, 0), (2, 0), (1, 0), (1, 0)]
def ix_rk (mi : Nat) (as : List Value) : Nat := match ix_n ix_rks mi with
  | some (b, 0) => b
  | some (b, k + 1) => (match as with
      | [_, .int o] => b + k + 3 * (9 - o.toNatClampNeg)
      | _ => b + k)
  | none => 0
def ix_in (mi : Nat) (as : List Value) : ix_L := as.map some ++ List.replicate (ix_mL mi - as.length) none
end
section
abbrev ix_CL : Type := Nat → List Value → ix_H → ix_R
abbrev ix_NX : Type := ix_L → List Value → ix_H → ix_R
abbrev ix_JP : Type := Nat → ix_L → List Value → ix_H → ix_R
/-- how many slots the cells have -/
def ix_sz : List ix_Sh → Nat
  | [] => 0
  | s :: l => (bif Nat.beq s.1 0 then (ix_kinds s.2.1).length else s.2.1) + ix_sz l
theorem ix_sz_app (l : List ix_Sh) (s : ix_Sh) : ix_sz (l ++ [s]) = ix_sz l + (bif Nat.beq s.1 0 then (ix_kinds s.2.1).length else s.2.1) := by
  induction l with
  | nil => simp [ix_sz]
  | cons a l ih => simp only [List.cons_append, ix_sz, ih]; omega
theorem ix_sz_set : ∀ (l : List ix_Sh) (r : Nat) (q n : Nat) (sl sl' : List (Option (Option Nat))), ix_n l r = some (q, n, sl) → ix_sz (l.set r (q, n, sl')) = ix_sz l
  | [], _, _, _, _, _, h => by simp [ix_n] at h
  | a :: l, 0, q, n, sl, sl', h => by
    simp only [ix_n, Option.some.injEq] at h
    subst h
    rfl
  | a :: l, r + 1, q, n, sl, sl', h => by
    have := ix_sz_set l r q n sl sl' h
    simp only [List.set_cons_succ, ix_sz, this]
/-- cells are only added -/
def ix_P (S : List ix_Sh) (h : ix_H) : Prop := S.length ≤ h.1.length ∧ ix_sz S ≤ ix_sz h.1
theorem ix_P.rf {S : List ix_Sh} {σ : ix_St} : ix_P S (S, σ) := ⟨Nat.le_refl _, Nat.le_refl _⟩
theorem ix_P.tr {S : List ix_Sh} {h h' : ix_H} (a : ix_P S h) (b : ix_P h.1 h') : ix_P S h' := ⟨Nat.le_trans a.1 b.1, Nat.le_trans a.2 b.2⟩
/-- what an instruction can do: end, go on, jump, or call and go on -/
def ix_G (S : List ix_Sh) (F : ix_CL → ix_NX → ix_JP → ix_R) : Prop :=
  (∃ x, (∀ y, x = some y → ix_P S y.2) ∧ ∀ cl nx jp, F cl nx jp = x) ∨ (∃ ls st h, ix_P S h ∧ ∀ cl nx jp, F cl nx jp = nx ls st h) ∨ (∃ t ls st h, ix_P S h ∧ ∀ cl nx jp, F cl nx jp = jp t ls st h) ∨
  ∃ (a : Nat) (as : List Value) (h : ix_H) (ls : ix_L) (f : Value × ix_H → List Value), ix_P S h ∧ ∀ cl nx jp, F cl nx jp = (cl a as h).bind (fun x => nx ls (f x) x.2)
section G
variable {S : List ix_Sh}
theorem ix_G_0 : ix_G S (fun _ _ _ => none) := Or.inl ⟨none, (fun _ h => by cases h), fun _ _ _ => rfl⟩
theorem ix_G_c {v : Value} {h : ix_H} (hp : ix_P S h) : ix_G S (fun _ _ _ => some (v, h)) := Or.inl ⟨some (v, h), (fun _ e => by cases e; exact hp), fun _ _ _ => rfl⟩
theorem ix_G_n {h : ix_H} (hp : ix_P S h) (ls st) : ix_G S (fun _ nx _ => nx ls st h) := Or.inr (Or.inl ⟨ls, st, h, hp, fun _ _ _ => rfl⟩)
theorem ix_G_m {h : ix_H} (hp : ix_P S h) (σ' : ix_St) (ls st) : ix_G S (fun _ nx _ => nx ls st (h.1, σ')) := Or.inr (Or.inl ⟨ls, st, (h.1, σ'), hp, fun _ _ _ => rfl⟩)
theorem ix_G_j {h : ix_H} (hp : ix_P S h) (t ls st) : ix_G S (fun _ _ jp => jp t ls st h) := Or.inr (Or.inr (Or.inl ⟨t, ls, st, h, hp, fun _ _ _ => rfl⟩))
theorem ix_G_if {c : Prop} [Decidable c] {F G : ix_CL → ix_NX → ix_JP → ix_R} (hF : ix_G S F) (hG : ix_G S G) : ix_G S (fun cl nx jp => if c then F cl nx jp else G cl nx jp) := by
  by_cases h : c
  · simp only [if_pos h]; exact hF
  · simp only [if_neg h]; exact hG
theorem ix_G_bif {c : Bool} {F G : ix_CL → ix_NX → ix_JP → ix_R} (hF : ix_G S F) (hG : ix_G S G) : ix_G S (fun cl nx jp => bif c then F cl nx jp else G cl nx jp) := by
  cases c
  · exact hG
  · exact hF
theorem ix_G_popI {st : List Value} {k : ix_CL → ix_NX → ix_JP → Int32 → List Value → ix_R} (H : ∀ x r, ix_G S (fun cl nx jp => k cl nx jp x r)) : ix_G S (fun cl nx jp => ix_popI st (k cl nx jp)) := by
  rcases st with _ | ⟨v, r⟩
  · exact ix_G_0
  · cases v <;> first | exact H _ _ | exact ix_G_0
theorem ix_G_popR {st : List Value} {k : ix_CL → ix_NX → ix_JP → Nat → List Value → ix_R} (H : ∀ x r, ix_G S (fun cl nx jp => k cl nx jp x r)) : ix_G S (fun cl nx jp => ix_popR st (k cl nx jp)) := by
  rcases st with _ | ⟨v, r⟩
  · exact ix_G_0
  · cases v <;> first | exact H _ _ | exact ix_G_0
theorem ix_G_arr {h : ix_H} {r q : Nat} {k : ix_CL → ix_NX → ix_JP → Nat → ix_R} (H : ∀ n, ix_G S (fun cl nx jp => k cl nx jp n)) : ix_G S (fun cl nx jp => ix_arr h r q (k cl nx jp)) := by
  unfold ix_arr
  rcases ix_sh h r with _ | ⟨q, n, sl⟩
  · exact ix_G_0
  · exact ix_G_bif (H _) ix_G_0
theorem ix_G_own {h : ix_H} {r q : Nat} {k : ix_CL → ix_NX → ix_JP → Nat → ix_R} (H : ∀ n, ix_G S (fun cl nx jp => k cl nx jp n)) : ix_G S (fun cl nx jp => ix_own h r q (k cl nx jp)) := by
  unfold ix_own
  rcases ix_n h.1 r with _ | ⟨q, n, sl⟩
  · exact ix_G_0
  · exact ix_G_bif (H _) ix_G_0
theorem ix_G_get {h : ix_H} {r ci q : Nat} {k : ix_CL → ix_NX → ix_JP → Value → ix_R} (H : ∀ n, ix_G S (fun cl nx jp => k cl nx jp n)) : ix_G S (fun cl nx jp => ix_get h r ci q (k cl nx jp)) := by
  unfold ix_get
  rcases ix_sh h r with _ | ⟨q', n, sl⟩
  · exact ix_G_0
  · refine ix_G_bif ?_ (ix_G_bif ?_ ix_G_0)
    · rcases ix_n sl q with _ | _ | _ | a
      · exact ix_G_0
      · exact H _
      · exact ix_G_0
      · exact H _
    · rcases q with _ | q
      · exact H _
      · exact H _
theorem ix_G_put {h : ix_H} (hp : ix_P S h) {r ci q b : Nat} {v : Value} {k : ix_CL → ix_NX → ix_JP → ix_H → ix_R} (H : ∀ n, ix_P S n → ix_G S (fun cl nx jp => k cl nx jp n)) : ix_G S (fun cl nx jp => ix_put h r ci q b v (k cl nx jp)) := by
  unfold ix_put
  rcases hq : ix_n h.1 r with _ | ⟨q', n, sl⟩
  · exact ix_G_0
  · refine ix_G_bif ?_ ix_G_0
    have h1 : ∀ x, ix_P S (h.1, ix_up h.2 r q x) := fun x => hp
    have h2 : ∀ sl', ix_P S (h.1.set r (q', n, sl'), h.2) := fun sl' => ⟨by rw [List.length_set]; exact hp.1, by show _ ≤ ix_sz (h.1.set r (q', n, sl')); rw [ix_sz_set _ _ _ _ _ _ hq]; exact hp.2⟩
    rcases ix_n sl q with _ | _ | _ <;> rcases b with _ | _ | _ | b <;> cases v <;> first | exact H _ (h1 _) | exact H _ (h2 _) | exact ix_G_0 | exact ix_G_if (H _ (h1 _)) ix_G_0
theorem ix_G_ch {k : ix_CL → ix_NX → ix_JP → Nat → ix_R} (H : ∀ n, ix_G S (fun cl nx jp => k cl nx jp n)) (i : Nat) : ∀ (sl : List (Option (Option Nat))) (j : Nat), ix_G S (fun cl nx jp => ix_ch sl j i (k cl nx jp))
  | [], _ => ix_G_0
  | none :: _, _ => ix_G_0
  | some none :: _, _ => ix_G_0
  | some (some a) :: l, j => by
    unfold ix_ch
    exact ix_G_if (H a) (ix_G_ch H i l (j + 1))
theorem ix_G_sw {k : ix_CL → ix_NX → ix_JP → Int → ix_R} (H : ∀ n, ix_G S (fun cl nx jp => k cl nx jp n)) (d x : Int) : ∀ (sl : List Int) (j : Int), ix_G S (fun cl nx jp => ix_sw sl j d x (k cl nx jp))
  | [], _ => H d
  | o :: l, j => by
    unfold ix_sw
    exact ix_G_if (H o) (ix_G_sw H d x l (j + 1))
theorem ix_G_lk {k : ix_CL → ix_NX → ix_JP → Int → ix_R} (H : ∀ n, ix_G S (fun cl nx jp => k cl nx jp n)) (d x : Int) : ∀ (sl : List (Int × Int)), ix_G S (fun cl nx jp => ix_lk sl d x (k cl nx jp))
  | [] => H d
  | o :: l => by
    unfold ix_lk
    exact ix_G_if (H o.2) (ix_G_lk H d x l)
theorem ix_G_new {h : ix_H} (hp : ix_P S h) {sh : ix_Sh} {k : ix_CL → ix_NX → ix_JP → Nat → ix_H → ix_R} (H : ∀ x n, ix_P S n → ix_G S (fun cl nx jp => k cl nx jp x n)) : ix_G S (fun cl nx jp => ix_new h sh (k cl nx jp)) := by
  unfold ix_new
  refine ix_G_bif (H _ _ ⟨?_, ?_⟩) ix_G_0
  · show S.length ≤ (h.1 ++ [sh]).length
    rw [List.length_append]
    exact Nat.le_trans hp.1 (Nat.le_add_right _ _)
  · show ix_sz S ≤ ix_sz (h.1 ++ [sh])
    rw [ix_sz_app]
    exact Nat.le_trans hp.2 (Nat.le_add_right _ _)
theorem ix_G_cpy {h : ix_H} (hp : ix_P S h) {n dp : Int32} {q : Nat} {sp : Int32} {p : Nat} {k : ix_CL → ix_NX → ix_JP → ix_H → ix_R} (H : ∀ n, ix_P S n → ix_G S (fun cl nx jp => k cl nx jp n)) : ix_G S (fun cl nx jp => ix_cpy h n dp q sp p (k cl nx jp)) := by
  unfold ix_cpy
  exact ix_G_own fun _ => ix_G_own fun _ => ix_G_if ix_G_0 (H _ hp)
theorem ix_G_call {h : ix_H} (hp : ix_P S h) {ls : ix_L} {st : List Value} {a b c : Nat} : ix_G S (fun cl nx _ => ix_call (ix_D0 cl) nx ls st h a b c) := by
  unfold ix_call
  rcases ix_popN b [] st with _ | ⟨as, st'⟩
  · exact ix_G_0
  · refine ix_G_bif ?_ ix_G_0
    exact Or.inr (Or.inr (Or.inr ⟨a, as, h, ls, fun x => bif Nat.beq c 0 then st' else x.1 :: st', hp, fun _ _ _ => rfl⟩))
theorem ix_G_recv {h : ix_H} {b d : Nat} {st : List Value} {F : ix_CL → ix_NX → ix_JP → ix_R} (H : ix_G S F) : ix_G S (fun cl nx jp => ix_recv h b d st (F cl nx jp)) := by
  unfold ix_recv
  rcases ix_n st (b - 1) with _ | v
  · exact ix_G_0
  · cases v <;> first | exact ix_G_0 | exact ix_G_bif H ix_G_0
theorem ix_G_nar {h : ix_H} (hp : ix_P S h) {t : Nat} {x : Int32} {v : Value} : ix_G S (fun _ _ _ => ix_nar t x (some (v, h))) := by
  rcases t with _ | _ | _ | t
  · exact ix_G_c hp
  · exact ix_G_if (ix_G_c hp) ix_G_0
  · exact ix_G_if (ix_G_c hp) ix_G_0
  · exact ix_G_if (ix_G_c hp) ix_G_0
end G
theorem ix_ex_G (e : ix_E) (ls : ix_L) (st : List Value) (h : ix_H) : ix_G h.1 (fun cl nx jp => ix_ex (ix_D0 cl) nx jp e ls st h) := by
  have hp : ix_P h.1 h := ix_P.rf
  obtain ⟨pc, ins, len, ct, a, b, c, d, v⟩ := e
  cases ins <;> unfold ix_ex <;> dsimp only <;> try exact ix_G_0
  all_goals first
    | exact ix_G_n hp _ _
    | exact ix_G_j hp _ _ _
    | exact ix_G_popI fun _ _ => ix_G_n hp _ _
    | exact ix_G_popI fun _ _ => ix_G_popI fun _ _ => ix_G_n hp _ _
    | exact ix_G_popI fun _ _ => ix_G_popI fun _ _ => ix_G_if ix_G_0 (ix_G_n hp _ _)
    | exact ix_G_bif (ix_G_n hp _ _) (ix_G_n hp _ _)
    | exact ix_G_popI fun _ _ => ix_G_bif (ix_G_n hp _ _) ix_G_0
    | exact ix_G_popR fun _ _ => ix_G_bif (ix_G_n hp _ _) ix_G_0
    | exact ix_G_popR fun _ _ => ix_G_get fun _ => ix_G_n hp _ _
    | exact ix_G_popI fun _ _ => ix_G_popR fun _ _ => ix_G_arr fun _ => ix_G_if ix_G_0 (ix_G_n hp _ _)
    | exact ix_G_popI fun _ _ => ix_G_popI fun _ _ => ix_G_popR fun _ _ => ix_G_own fun _ => ix_G_if ix_G_0 (ix_G_m hp _ _ _)
    | exact ix_G_popI fun _ _ => ix_G_sw (fun _ => ix_G_j hp _ _ _) _ _ _ _
    | exact ix_G_popI fun _ _ => ix_G_lk (fun _ => ix_G_j hp _ _ _) _ _ _
    | exact ix_G_new hp fun _ _ hp => ix_G_n hp _ _
    | exact ix_G_recv (ix_G_call hp)
    | exact ix_G_bif (ix_G_popI fun _ _ => ix_G_popI fun _ _ => ix_G_popR fun _ _ => ix_G_popI fun _ _ => ix_G_popR fun _ _ => ix_G_bif (ix_G_cpy hp fun _ hp => ix_G_n hp _ _) ix_G_0) (ix_G_call hp)
    | exact ix_G_bif (ix_G_popR fun _ _ => ix_G_bif (ix_G_n hp _ _) ix_G_0) (ix_G_recv (ix_G_call hp))
    | exact ix_G_popI fun _ _ => ix_G_if ix_G_0 (ix_G_new hp fun _ _ hp => ix_G_n hp _ _)
    | skip
  all_goals first
    | (rcases ix_n ls a with _ | _ | x
       · exact ix_G_0
       · exact ix_G_0
       · cases x <;> first | exact ix_G_0 | exact ix_G_n hp _ _)
    | (rcases st with _ | ⟨x, st⟩ <;> first | exact ix_G_0 | exact ix_G_c hp | exact ix_G_n hp _ _ | exact ix_G_popR fun _ _ => ix_G_put hp fun _ hp => ix_G_n hp _ _)
    | (rcases st with _ | ⟨x, _ | ⟨y, st⟩⟩ <;> first | exact ix_G_0 | exact ix_G_n hp _ _)
    | (rcases st with _ | ⟨x, _ | ⟨y, st⟩⟩ <;> first | exact ix_G_0 | (cases x <;> first | exact ix_G_0 | exact ix_G_c hp | exact ix_G_nar hp))
    | skip
  all_goals first
    | (rename_i cd off
       cases cd <;> dsimp only <;> first
         | exact ix_G_popI fun _ _ => ix_G_if (ix_G_j hp _ _ _) (ix_G_n hp _ _)
         | exact ix_G_popI fun _ _ => ix_G_if (ix_G_n hp _ _) (ix_G_j hp _ _ _)
         | exact ix_G_popI fun _ _ => ix_G_popI fun _ _ => ix_G_if (ix_G_j hp _ _ _) (ix_G_n hp _ _)
         | exact ix_G_popI fun _ _ => ix_G_popI fun _ _ => ix_G_if (ix_G_n hp _ _) (ix_G_j hp _ _ _))
    | (refine ix_G_popR fun r st => ?_
       rcases ix_sh h r with _ | ⟨q, n, sl⟩
       · exact ix_G_0
       · exact ix_G_bif (ix_G_n hp _ _) ix_G_0)
    | (refine ix_G_popI fun i st => ix_G_popR fun r st => ?_
       rcases ix_n h.1 r with _ | ⟨q, n, sl⟩
       · exact ix_G_0
       · exact ix_G_bif (ix_G_if ix_G_0 (ix_G_ch (fun _ => ix_G_n hp _ _) _ _ _)) ix_G_0)
    | (refine ix_G_popR fun x st => ix_G_popI fun i st => ix_G_popR fun r st => ?_
       rcases hq : ix_n h.1 r with _ | ⟨q, n, sl⟩
       · exact ix_G_0
       · refine ix_G_bif (ix_G_if ix_G_0 (ix_G_n ⟨?_, ?_⟩ _ _)) ix_G_0
         · show _ ≤ List.length (List.set _ _ _)
           rw [List.length_set]
           exact Nat.le_refl _
         · show _ ≤ ix_sz (List.set _ _ _)
           rw [ix_sz_set _ _ _ _ _ _ hq]
           exact Nat.le_refl _)
    | (rename_i t
       cases t <;> dsimp only <;> first
         | exact ix_G_popI fun _ _ => ix_G_if ix_G_0 ix_G_0
         | exact ix_G_popI fun _ _ => ix_G_if ix_G_0 (ix_G_new hp fun _ _ hp => ix_G_n hp _ _))
/-- f tells no more than g -/
def ix_le (f g : ix_R) : Prop := ∀ x, f = some x → g = some x
theorem ix_ex_mono {cl cl' : ix_CL} {nx nx' : ix_NX} {jp jp' : ix_JP} (hc : ∀ a as h, ix_le (cl a as h) (cl' a as h)) (hn : ∀ ls st h, ix_le (nx ls st h) (nx' ls st h)) (hj : ∀ t ls st h, ix_le (jp t ls st h) (jp' t ls st h)) (e : ix_E) (ls : ix_L) (st : List Value) (h : ix_H) : ix_le (ix_ex (ix_D0 cl) nx jp e ls st h) (ix_ex (ix_D0 cl') nx' jp' e ls st h) := by
  intro x hx
  rcases ix_ex_G e ls st h with ⟨y, -, hy⟩ | ⟨l2, s2, h2, -, hy⟩ | ⟨t, l2, s2, h2, -, hy⟩ | ⟨a, as, h2, l2, f, -, hy⟩
  · have e1 : ix_ex (ix_D0 cl) nx jp e ls st h = _ := hy cl nx jp
    have e2 : ix_ex (ix_D0 cl') nx' jp' e ls st h = _ := hy cl' nx' jp'
    rw [e1] at hx; rw [e2]; exact hx
  · have e1 : ix_ex (ix_D0 cl) nx jp e ls st h = _ := hy cl nx jp
    have e2 : ix_ex (ix_D0 cl') nx' jp' e ls st h = _ := hy cl' nx' jp'
    rw [e1] at hx; rw [e2]; exact hn _ _ _ _ hx
  · have e1 : ix_ex (ix_D0 cl) nx jp e ls st h = _ := hy cl nx jp
    have e2 : ix_ex (ix_D0 cl') nx' jp' e ls st h = _ := hy cl' nx' jp'
    rw [e1] at hx; rw [e2]; exact hj _ _ _ _ _ hx
  · have e1 : ix_ex (ix_D0 cl) nx jp e ls st h = _ := hy cl nx jp
    have e2 : ix_ex (ix_D0 cl') nx' jp' e ls st h = _ := hy cl' nx' jp'
    rw [e1] at hx; rw [e2]
    obtain ⟨y, h1, h3⟩ := Option.bind_eq_some_iff.mp hx
    exact Option.bind_eq_some_iff.mpr ⟨y, hc _ _ _ _ h1, hn _ _ _ _ h3⟩
theorem ix_go_mono (tab : List ix_E) {cb cb' : ix_JP} {cl cl' : ix_CL} (hb : ∀ t ls st h, ix_le (cb t ls st h) (cb' t ls st h)) (hc : ∀ a as h, ix_le (cl a as h) (cl' a as h)) : ∀ (k : Nat) (rest : List ix_E) (pc : Nat) (ls : ix_L) (st : List Value) (h : ix_H), ix_le (ix_go tab cb (ix_D0 cl) k rest pc ls st h) (ix_go tab cb' (ix_D0 cl') k rest pc ls st h) := by
  intro k
  induction k with
  | zero => intro rest pc ls st h x hx; exact absurd hx (by simp [ix_go])
  | succ k ih =>
    intro rest pc ls st h
    rcases rest with _ | ⟨e, rest⟩
    · intro x hx; exact absurd hx (by simp [ix_go])
    · unfold ix_go
      cases Nat.beq e.1 pc with
      | false => intro x hx; exact absurd hx (by simp)
      | true =>
        rcases e.2.2.2.1 with _ | kp
        · exact ix_ex_mono (nx := ix_go tab cb (ix_D0 cl) k rest (pc + e.2.2.1)) (jp := fun t => ix_go tab cb (ix_D0 cl) k (ix_fd tab t) t) (nx' := ix_go tab cb' (ix_D0 cl') k rest (pc + e.2.2.1)) (jp' := fun t => ix_go tab cb' (ix_D0 cl') k (ix_fd tab t) t) hc (fun ls st h => ih _ _ ls st h) (fun t ls st h => ih _ _ ls st h) e ls st h
        · exact hb _ _ _ _
theorem ix_at_mono (tab : List ix_E) {cb cb' : ix_JP} {cl cl' : ix_CL} (hb : ∀ t ls st h, ix_le (cb t ls st h) (cb' t ls st h)) (hc : ∀ a as h, ix_le (cl a as h) (cl' a as h)) (pc : Nat) (ls : ix_L) (st : List Value) (h : ix_H) : ix_le (ix_at tab cb (ix_D0 cl) pc ls st h) (ix_at tab cb' (ix_D0 cl') pc ls st h) := by
  unfold ix_at
  rcases ix_fd tab pc with _ | ⟨e, rest⟩
  · intro x hx; exact hx
  · exact ix_ex_mono (nx := ix_go tab cb (ix_D0 cl) 3000 rest (pc + e.2.2.1)) (jp := fun t => ix_go tab cb (ix_D0 cl) 3000 (ix_fd tab t) t) (nx' := ix_go tab cb' (ix_D0 cl') 3000 rest (pc + e.2.2.1)) (jp' := fun t => ix_go tab cb' (ix_D0 cl') 3000 (ix_fd tab t) t) hc (fun ls st h => ix_go_mono tab hb hc _ _ _ ls st h) (fun t ls st h => ix_go_mono tab hb hc _ _ _ ls st h) e ls st h
/-- a chain of better and better functions: what its limit says, one of them says -/
theorem ix_ex_cont {cl : Nat → ix_CL} {nx : Nat → ix_NX} {jp : Nat → ix_JP} {clL : ix_CL} {nxL : ix_NX} {jpL : ix_JP} (mc : ∀ n a as h, ix_le (cl n a as h) (cl (n + 1) a as h)) (mn : ∀ n ls st h, ix_le (nx n ls st h) (nx (n + 1) ls st h))
    (hc : ∀ a as h x, clL a as h = some x → ∃ n, cl n a as h = some x) (hn : ∀ ls st h x, nxL ls st h = some x → ∃ n, nx n ls st h = some x) (hj : ∀ t ls st h x, jpL t ls st h = some x → ∃ n, jp n t ls st h = some x) (e : ix_E) (ls : ix_L) (st : List Value) (h : ix_H) (x : Value × ix_H) (hx : ix_ex (ix_D0 clL) nxL jpL e ls st h = some x) : ∃ n, ix_ex (ix_D0 (cl n)) (nx n) (jp n) e ls st h = some x := by
  have up : ∀ {F : Nat → ix_R}, (∀ n, ix_le (F n) (F (n + 1))) → ∀ {n m : Nat}, n ≤ m → ix_le (F n) (F m) := by
    intro F hF n m hnm
    induction hnm with
    | refl => exact fun _ h => h
    | step _ ih => exact fun y hy => hF _ _ (ih y hy)
  rcases ix_ex_G e ls st h with ⟨y, -, hy⟩ | ⟨l2, s2, h2, -, hy⟩ | ⟨t, l2, s2, h2, -, hy⟩ | ⟨a, as, h2, l2, f, -, hy⟩
  · have e1 : ix_ex (ix_D0 clL) nxL jpL e ls st h = _ := hy clL nxL jpL
    rw [e1] at hx
    exact ⟨0, (hy (cl 0) (nx 0) (jp 0)).trans hx⟩
  · have e1 : ix_ex (ix_D0 clL) nxL jpL e ls st h = _ := hy clL nxL jpL
    rw [e1] at hx
    obtain ⟨n, h3⟩ := hn _ _ _ _ hx
    exact ⟨n, (hy (cl n) (nx n) (jp n)).trans h3⟩
  · have e1 : ix_ex (ix_D0 clL) nxL jpL e ls st h = _ := hy clL nxL jpL
    rw [e1] at hx
    obtain ⟨n, h3⟩ := hj _ _ _ _ _ hx
    exact ⟨n, (hy (cl n) (nx n) (jp n)).trans h3⟩
  · have e1 : ix_ex (ix_D0 clL) nxL jpL e ls st h = _ := hy clL nxL jpL
    rw [e1] at hx
    obtain ⟨y, h1, h3⟩ := Option.bind_eq_some_iff.mp hx
    obtain ⟨n1, h4⟩ := hc _ _ _ _ h1
    obtain ⟨n2, h5⟩ := hn _ _ _ _ h3
    refine ⟨n1 + n2, (hy (cl (n1 + n2)) (nx (n1 + n2)) (jp (n1 + n2))).trans ?_⟩
    exact Option.bind_eq_some_iff.mpr ⟨y, up (fun n => mc n _ _ _) (Nat.le_add_right n1 n2) _ h4, up (fun n => mn n _ _ _) (Nat.le_add_left n2 n1) _ h5⟩
theorem ix_go_cont (tab : List ix_E) {cb : Nat → ix_JP} {cl : Nat → ix_CL} {cbL : ix_JP} {clL : ix_CL} (mb : ∀ n t ls st h, ix_le (cb n t ls st h) (cb (n + 1) t ls st h)) (mc : ∀ n a as h, ix_le (cl n a as h) (cl (n + 1) a as h))
    (hc : ∀ a as h x, clL a as h = some x → ∃ n, cl n a as h = some x) (hb : ∀ t ls st h x, cbL t ls st h = some x → ∃ n, cb n t ls st h = some x) : ∀ (k : Nat) (rest : List ix_E) (pc : Nat) (ls : ix_L) (st : List Value) (h : ix_H) (x : Value × ix_H), ix_go tab cbL (ix_D0 clL) k rest pc ls st h = some x → ∃ n, ix_go tab (cb n) (ix_D0 (cl n)) k rest pc ls st h = some x := by
  intro k
  induction k with
  | zero => intro rest pc ls st h x hx; exact absurd hx (by simp [ix_go])
  | succ k ih =>
    intro rest pc ls st h x hx
    rcases rest with _ | ⟨e, rest⟩
    · exact absurd hx (by simp [ix_go])
    · unfold ix_go at hx ⊢
      cases hq : Nat.beq e.1 pc with
      | false => rw [hq] at hx; exact absurd hx (by simp)
      | true =>
        rw [hq] at hx
        rcases hr : e.2.2.2.1 with _ | kp
        · rw [hr] at hx
          exact ix_ex_cont (nx := fun n => ix_go tab (cb n) (ix_D0 (cl n)) k rest (pc + e.2.2.1)) (jp := fun n t => ix_go tab (cb n) (ix_D0 (cl n)) k (ix_fd tab t) t) mc (fun n ls st h => ix_go_mono tab (mb n) (mc n) _ _ _ ls st h) hc (fun ls st h x hx => ih _ _ ls st h x hx) (fun t ls st h x hx => ih _ _ ls st h x hx) e ls st h x hx
        · rw [hr] at hx
          exact hb _ _ _ _ _ hx
theorem ix_at_cont (tab : List ix_E) {cb : Nat → ix_JP} {cl : Nat → ix_CL} {cbL : ix_JP} {clL : ix_CL} (mb : ∀ n t ls st h, ix_le (cb n t ls st h) (cb (n + 1) t ls st h)) (mc : ∀ n a as h, ix_le (cl n a as h) (cl (n + 1) a as h))
    (hc : ∀ a as h x, clL a as h = some x → ∃ n, cl n a as h = some x) (hb : ∀ t ls st h x, cbL t ls st h = some x → ∃ n, cb n t ls st h = some x) (pc : Nat) (ls : ix_L) (st : List Value) (h : ix_H) (x : Value × ix_H) (hx : ix_at tab cbL (ix_D0 clL) pc ls st h = some x) : ∃ n, ix_at tab (cb n) (ix_D0 (cl n)) pc ls st h = some x := by
  unfold ix_at at hx ⊢
  rcases hq : ix_fd tab pc with _ | ⟨e, rest⟩
  · rw [hq] at hx; exact absurd hx (by simp)
  · rw [hq] at hx
    exact ix_ex_cont (nx := fun n => ix_go tab (cb n) (ix_D0 (cl n)) 3000 rest (pc + e.2.2.1)) (jp := fun n t => ix_go tab (cb n) (ix_D0 (cl n)) 3000 (ix_fd tab t) t) mc (fun n ls st h => ix_go_mono tab (mb n) (mc n) _ _ _ ls st h) hc (fun ls st h x hx => ix_go_cont tab mb mc hc hb _ _ _ ls st h x hx) (fun t ls st h x hx => ix_go_cont tab mb mc hc hb _ _ _ ls st h x hx) e ls st h x hx
/-- what a called method does, by how deep calls may go from here -/
def ix_clS (sem : Nat → Nat → Nat → ix_L → List Value → ix_H → ix_R) (r : Nat) : ix_CL := fun mj as h => bif Nat.blt (ix_rk mj as) r then sem mj (ix_rk mj as) 0 (ix_in mj as) [] h else none
/-- n stops and calls deep: method, depth, pc, locals, stack, heap -/
def ix_sem : Nat → Nat → Nat → Nat → ix_L → List Value → ix_H → ix_R
  | 0, _, _, _, _, _, _ => none
  | n + 1, mi, r, pc, ls, st, h => ix_at (ix_tab mi) (ix_sem n mi r) (ix_D0 (ix_clS (ix_sem n) r)) pc ls st h
theorem ix_clS_mono {f g : Nat → Nat → Nat → ix_L → List Value → ix_H → ix_R} (hfg : ∀ mi r pc ls st h, ix_le (f mi r pc ls st h) (g mi r pc ls st h)) (r a : Nat) (as : List Value) (h : ix_H) : ix_le (ix_clS f r a as h) (ix_clS g r a as h) := by
  unfold ix_clS
  cases Nat.blt (ix_rk a as) r
  · exact fun _ h => h
  · exact hfg _ _ _ _ _ _
theorem ix_sem_mono : ∀ (n mi r pc : Nat) (ls : ix_L) (st : List Value) (h : ix_H), ix_le (ix_sem n mi r pc ls st h) (ix_sem (n + 1) mi r pc ls st h) := by
  intro n
  induction n with
  | zero => intro mi r pc ls st h x hx; exact absurd hx (by simp [ix_sem])
  | succ n ih =>
    intro mi r pc ls st h
    exact ix_at_mono (ix_tab mi) (fun t ls st h => ih mi r t ls st h) (ix_clS_mono ih r) pc ls st h
/-- what a method does from a frame on, in the limit -/
noncomputable def ix_S (mi r pc : Nat) (ls : ix_L) (st : List Value) (h : ix_H) : ix_R :=
  @dite ix_R (∃ x : Value × ix_H, ∃ n, ix_sem n mi r pc ls st h = some x) (Classical.propDecidable _) (fun hx => some (Classical.choose hx)) (fun _ => none)
theorem ix_sem_up {n m : Nat} (hnm : n ≤ m) (mi r pc : Nat) (ls : ix_L) (st : List Value) (h : ix_H) : ix_le (ix_sem n mi r pc ls st h) (ix_sem m mi r pc ls st h) := by
  induction hnm with
  | refl => exact fun _ h => h
  | step _ ih => exact fun y hy => ix_sem_mono _ _ _ _ _ _ _ _ (ih y hy)
theorem ix_S_iff {mi r pc : Nat} {ls : ix_L} {st : List Value} {h : ix_H} {x : Value × ix_H} : ix_S mi r pc ls st h = some x ↔ ∃ n, ix_sem n mi r pc ls st h = some x := by
  unfold ix_S
  constructor
  · intro hx
    split at hx
    · rename_i hq
      obtain ⟨n, hn⟩ := Classical.choose_spec hq
      exact ⟨n, hn.trans hx⟩
    · cases hx
  · intro hx
    obtain ⟨n, hn⟩ := hx
    have hq : ∃ x : Value × ix_H, ∃ n, ix_sem n mi r pc ls st h = some x := ⟨x, n, hn⟩
    rw [dif_pos hq]
    obtain ⟨m, hm⟩ := Classical.choose_spec hq
    have h1 := ix_sem_up (Nat.le_add_right n m) mi r pc ls st h _ hn
    have h2 := ix_sem_up (Nat.le_add_left m n) mi r pc ls st h _ hm
    exact h2.symm.trans h1
theorem ix_S_ge (n mi r pc : Nat) (ls : ix_L) (st : List Value) (h : ix_H) : ix_le (ix_sem n mi r pc ls st h) (ix_S mi r pc ls st h) := fun _ hx => ix_S_iff.mpr ⟨n, hx⟩
/-- what a method does from a frame on is what its code says, up to the next stop -/
theorem ix_fix (mi r pc : Nat) (ls : ix_L) (st : List Value) (h : ix_H) : ix_S mi r pc ls st h = ix_at (ix_tab mi) (ix_S mi r) (ix_D0 (ix_clS ix_S r)) pc ls st h := by
  have ext : ∀ {a b : ix_R}, (∀ x, a = some x ↔ b = some x) → a = b := by
    intro a b hab
    cases a with
    | none =>
      cases b with
      | none => rfl
      | some y => exact absurd ((hab y).mpr rfl) (by simp)
    | some y => exact ((hab y).mp rfl).symm
  refine ext fun x => ⟨fun hx => ?_, fun hx => ?_⟩
  · obtain ⟨n, hn⟩ := ix_S_iff.mp hx
    cases n with
    | zero => exact absurd hn (by simp [ix_sem])
    | succ n =>
      exact ix_at_mono (ix_tab mi) (fun t ls st h => ix_S_ge n mi r t ls st h) (ix_clS_mono (ix_S_ge n) r) pc ls st h x hn
  · obtain ⟨n, hn⟩ := ix_at_cont (ix_tab mi) (cb := fun n => ix_sem n mi r) (cl := fun n => ix_clS (ix_sem n) r) (fun n t ls st h => ix_sem_mono n mi r t ls st h) (fun n => ix_clS_mono (ix_sem_mono n) r) (fun a as h x hx => by
      unfold ix_clS at hx ⊢
      cases hq : Nat.blt (ix_rk a as) r with
      | false => rw [hq] at hx; exact absurd hx (by simp)
      | true =>
        rw [hq] at hx
        exact ix_S_iff.mp hx) (fun t ls st h x hx => ix_S_iff.mp hx) pc ls st h x hx
    exact ix_S_iff.mpr ⟨n + 1, hn⟩
theorem ix_ex_P {cl : ix_CL} {nx : ix_NX} {jp : ix_JP} (hc : ∀ a as h x, cl a as h = some x → ix_P h.1 x.2) (hn : ∀ ls st h x, nx ls st h = some x → ix_P h.1 x.2) (hj : ∀ t ls st h x, jp t ls st h = some x → ix_P h.1 x.2) (e : ix_E) (ls : ix_L) (st : List Value) (h : ix_H) (x : Value × ix_H) (hx : ix_ex (ix_D0 cl) nx jp e ls st h = some x) : ix_P h.1 x.2 := by
  rcases ix_ex_G e ls st h with ⟨y, hp, hy⟩ | ⟨l2, s2, h2, hp, hy⟩ | ⟨t, l2, s2, h2, hp, hy⟩ | ⟨a, as, h2, l2, f, hp, hy⟩
  · exact hp x ((hy cl nx jp).symm.trans hx)
  · exact hp.tr (hn _ _ _ _ ((hy cl nx jp).symm.trans hx))
  · exact hp.tr (hj _ _ _ _ _ ((hy cl nx jp).symm.trans hx))
  · obtain ⟨y, h1, h3⟩ := Option.bind_eq_some_iff.mp ((hy cl nx jp).symm.trans hx)
    exact (hp.tr (hc _ _ _ _ h1)).tr (hn _ _ _ _ h3)
theorem ix_go_P (tab : List ix_E) {cb : ix_JP} {cl : ix_CL} (hb : ∀ t ls st h x, cb t ls st h = some x → ix_P h.1 x.2) (hc : ∀ a as h x, cl a as h = some x → ix_P h.1 x.2) : ∀ (k : Nat) (rest : List ix_E) (pc : Nat) (ls : ix_L) (st : List Value) (h : ix_H) (x : Value × ix_H), ix_go tab cb (ix_D0 cl) k rest pc ls st h = some x → ix_P h.1 x.2 := by
  intro k
  induction k with
  | zero => intro rest pc ls st h x hx; exact absurd hx (by simp [ix_go])
  | succ k ih =>
    intro rest pc ls st h x hx
    rcases rest with _ | ⟨e, rest⟩
    · exact absurd hx (by simp [ix_go])
    · unfold ix_go at hx
      cases hq : Nat.beq e.1 pc with
      | false => rw [hq] at hx; exact absurd hx (by simp)
      | true =>
        rw [hq] at hx
        rcases hr : e.2.2.2.1 with _ | kp
        · rw [hr] at hx
          exact ix_ex_P (nx := ix_go tab cb (ix_D0 cl) k rest (pc + e.2.2.1)) (jp := fun t => ix_go tab cb (ix_D0 cl) k (ix_fd tab t) t) hc (fun ls st h x => ih _ _ ls st h x) (fun t ls st h x => ih _ _ ls st h x) e ls st h x hx
        · rw [hr] at hx
          exact hb _ _ _ _ _ hx
theorem ix_at_P (tab : List ix_E) {cb : ix_JP} {cl : ix_CL} (hb : ∀ t ls st h x, cb t ls st h = some x → ix_P h.1 x.2) (hc : ∀ a as h x, cl a as h = some x → ix_P h.1 x.2) (pc : Nat) (ls : ix_L) (st : List Value) (h : ix_H) (x : Value × ix_H) (hx : ix_at tab cb (ix_D0 cl) pc ls st h = some x) : ix_P h.1 x.2 := by
  unfold ix_at at hx
  rcases hq : ix_fd tab pc with _ | ⟨e, rest⟩
  · rw [hq] at hx; exact absurd hx (by simp)
  · rw [hq] at hx
    exact ix_ex_P (nx := ix_go tab cb (ix_D0 cl) 3000 rest (pc + e.2.2.1)) (jp := fun t => ix_go tab cb (ix_D0 cl) 3000 (ix_fd tab t) t) hc (fun ls st h x => ix_go_P tab hb hc _ _ _ ls st h x) (fun t ls st h x => ix_go_P tab hb hc _ _ _ ls st h x) e ls st h x hx
theorem ix_clS_P {f : Nat → Nat → Nat → ix_L → List Value → ix_H → ix_R} (hf : ∀ mi r pc ls st h x, f mi r pc ls st h = some x → ix_P h.1 x.2) (r a : Nat) (as : List Value) (h : ix_H) (x : Value × ix_H) (hx : ix_clS f r a as h = some x) : ix_P h.1 x.2 := by
  unfold ix_clS at hx
  cases hq : Nat.blt (ix_rk a as) r with
  | false => rw [hq] at hx; exact absurd hx (by simp)
  | true => rw [hq] at hx; exact hf _ _ _ _ _ _ _ hx
theorem ix_sem_P : ∀ (n mi r pc : Nat) (ls : ix_L) (st : List Value) (h : ix_H) (x : Value × ix_H), ix_sem n mi r pc ls st h = some x → ix_P h.1 x.2 := by
  intro n
  induction n with
  | zero => intro mi r pc ls st h x hx; exact absurd hx (by simp [ix_sem])
  | succ n ih =>
    intro mi r pc ls st h x hx
    exact ix_at_P (ix_tab mi) (fun t ls st h x hx => ih mi r t ls st h x hx) (ix_clS_P ih r) pc ls st h x hx
end
section
/-- words that a called method gets by its contract's start, not by its words -/
def ix_bad : Cond → Bool
  | .methodLinkNest _ _ _ _ => true
  | .fieldLinkNest _ _ _ _ _ _ => true
  | .arrayOver (.object _) => true
  | _ => false
def ix_use (w : Cond) : Bool := goodWord w || ix_bad w
def ix_tb : List Cond := lw_tbl.filter ix_use
def ix_T0 : u_T := fun k => match k with
  | 0 => ("VotedBank$Book", "lines", "[I", true)
  | _ => ("VotedBank$Book", "count", "I", false)
def ix_y0 : Nat → FieldType := fun k => match k with
  | 0 => (.array .int)
  | _ => .int
def ix_T1 : u_T := fun k => match k with
  | 0 => ("VotedBank$Crossing", "laid", "[I", true)
  | 1 => ("VotedBank$Crossing", "turnings", "I", false)
  | 2 => ("VotedBank$Crossing", "world", "LVotedBank$World;", true)
  | 3 => ("VotedBank$Crossing", "law", "LVotedBank$Law;", true)
  | 4 => ("VotedBank$Crossing", "copy", "LVotedBank$River;", true)
  | 5 => ("VotedBank$Crossing", "river", "LVotedBank$River;", false)
  | 6 => ("VotedBank$Crossing", "inThought", "Z", false)
  | _ => ("VotedBank$Crossing", "aboard", "I", false)
def ix_y1 : Nat → FieldType := fun k => match k with
  | 0 => (.array .int)
  | 1 => .int
  | 2 => (.object "VotedBank$World")
  | 3 => (.object "VotedBank$Law")
  | 4 => (.object "VotedBank$River")
  | 5 => (.object "VotedBank$River")
  | 6 => .boolean
  | _ => .int
def ix_T2 : u_T := fun k => match k with
  | 0 => ("VotedBank$Law", "steps", "[I", true)
  | 1 => ("VotedBank$Law", "word", "[I", true)
  | 2 => ("VotedBank$Law", "from", "[I", true)
  | 3 => ("VotedBank$Law", "when", "[I", true)
  | 4 => ("VotedBank$Law", "until", "[I", true)
  | 5 => ("VotedBank$Law", "stack", "[I", true)
  | 6 => ("VotedBank$Law", "values", "[I", true)
  | 7 => ("VotedBank$Law", "lines", "I", false)
  | _ => ("VotedBank$Law", "size", "I", false)
def ix_y2 : Nat → FieldType := fun k => match k with
  | 0 => (.array .int)
  | 1 => (.array .int)
  | 2 => (.array .int)
  | 3 => (.array .int)
  | 4 => (.array .int)
  | 5 => (.array .int)
  | 6 => (.array .int)
  | 7 => .int
  | _ => .int
def ix_T3 : u_T := fun k => match k with
  | 0 => ("VotedBank$Parser", "draft", "LVotedBank$Texts;", true)
  | 1 => ("VotedBank$Parser", "blame", "I", false)
  | 2 => ("VotedBank$Parser", "blamePlace", "I", false)
  | 3 => ("VotedBank$Parser", "tape", "LVotedBank$Tape;", true)
  | _ => ("VotedBank$Parser", "everyone", "I", false)
def ix_y3 : Nat → FieldType := fun k => match k with
  | 0 => (.object "VotedBank$Texts")
  | 1 => .int
  | 2 => .int
  | 3 => (.object "VotedBank$Tape")
  | _ => .int
def ix_T4 : u_T := fun k => match k with
  | 0 => ("VotedBank$Past", "rivers", "[LVotedBank$River;", true)
  | 1 => ("VotedBank$Past", "bookLines", "[I", true)
  | 2 => ("VotedBank$Past", "next", "I", false)
  | _ => ("VotedBank$Past", "count", "I", false)
def ix_y4 : Nat → FieldType := fun k => match k with
  | 0 => (.array (.object "VotedBank$River"))
  | 1 => (.array .int)
  | 2 => .int
  | _ => .int
def ix_T5 : u_T := fun k => match k with
  | 0 => ("VotedBank$Poll", "world", "LVotedBank$World;", true)
  | 1 => ("VotedBank$Poll", "shells", "[I", true)
  | 2 => ("VotedBank$Poll", "laid", "[I", true)
  | 3 => ("VotedBank$Poll", "listed", "[I", true)
  | 4 => ("VotedBank$Poll", "ahead", "[I", true)
  | 5 => ("VotedBank$Poll", "cheapest", "I", false)
  | _ => ("VotedBank$Poll", "cheapestSet", "I", false)
def ix_y5 : Nat → FieldType := fun k => match k with
  | 0 => (.object "VotedBank$World")
  | 1 => (.array .int)
  | 2 => (.array .int)
  | 3 => (.array .int)
  | 4 => (.array .int)
  | 5 => .int
  | _ => .int
def ix_T6 : u_T := fun k => match k with
  | 0 => ("VotedBank$River", "state", "I", false)
  | 1 => ("VotedBank$River", "bank", "I", false)
  | 2 => ("VotedBank$River", "age", "I", false)
  | 3 => ("VotedBank$River", "stream", "I", false)
  | 4 => ("VotedBank$River", "minute", "I", false)
  | 5 => ("VotedBank$River", "crossed", "I", false)
  | 6 => ("VotedBank$River", "count", "I", false)
  | 7 => ("VotedBank$River", "over", "I", false)
  | 8 => ("VotedBank$River", "rank", "[I", true)
  | 9 => ("VotedBank$River", "child", "[I", true)
  | 10 => ("VotedBank$River", "talk", "[I", true)
  | 11 => ("VotedBank$River", "firm", "[I", true)
  | 12 => ("VotedBank$River", "waded", "[I", true)
  | _ => ("VotedBank$River", "turned", "[I", true)
def ix_y6 : Nat → FieldType := fun k => match k with
  | 0 => .int
  | 1 => .int
  | 2 => .int
  | 3 => .int
  | 4 => .int
  | 5 => .int
  | 6 => .int
  | 7 => .int
  | 8 => (.array .int)
  | 9 => (.array .int)
  | 10 => (.array .int)
  | 11 => (.array .int)
  | 12 => (.array .int)
  | _ => (.array .int)
def ix_T7 : u_T := fun k => match k with
  | 0 => ("VotedBank$Tape", "bytes", "[B", true)
  | 1 => ("VotedBank$Tape", "size", "I", false)
  | 2 => ("VotedBank$Tape", "kinds", "[I", true)
  | 3 => ("VotedBank$Tape", "values", "[I", true)
  | 4 => ("VotedBank$Tape", "places", "[I", true)
  | 5 => ("VotedBank$Tape", "tokens", "I", false)
  | 6 => ("VotedBank$Tape", "at", "I", false)
  | 7 => ("VotedBank$Tape", "kind", "I", false)
  | 8 => ("VotedBank$Tape", "value", "I", false)
  | _ => ("VotedBank$Tape", "place", "I", false)
def ix_y7 : Nat → FieldType := fun k => match k with
  | 0 => (.array .byte)
  | 1 => .int
  | 2 => (.array .int)
  | 3 => (.array .int)
  | 4 => (.array .int)
  | 5 => .int
  | 6 => .int
  | 7 => .int
  | 8 => .int
  | _ => .int
def ix_T8 : u_T := fun k => match k with
  | 0 => ("VotedBank$Texts", "law", "LVotedBank$Law;", true)
  | 1 => ("VotedBank$Texts", "hears", "[I", true)
  | 2 => ("VotedBank$Texts", "rows", "[I", true)
  | 3 => ("VotedBank$Texts", "stays", "[I", true)
  | 4 => ("VotedBank$Texts", "behind", "[I", true)
  | 5 => ("VotedBank$Texts", "becomes", "[I", true)
  | _ => ("VotedBank$Texts", "lines", "[I", true)
def ix_y8 : Nat → FieldType := fun k => match k with
  | 0 => (.object "VotedBank$Law")
  | 1 => (.array .int)
  | 2 => (.array .int)
  | 3 => (.array .int)
  | 4 => (.array .int)
  | 5 => (.array .int)
  | _ => (.array .int)
def ix_T9 : u_T := fun k => match k with
  | 0 => ("VotedBank$World", "river", "LVotedBank$River;", true)
  | 1 => ("VotedBank$World", "book", "LVotedBank$Book;", true)
  | 2 => ("VotedBank$World", "texts", "LVotedBank$Texts;", true)
  | 3 => ("VotedBank$World", "bribes", "[I", true)
  | 4 => ("VotedBank$World", "seenLands", "[I", true)
  | _ => ("VotedBank$World", "seenCount", "I", false)
def ix_y9 : Nat → FieldType := fun k => match k with
  | 0 => (.object "VotedBank$River")
  | 1 => (.object "VotedBank$Book")
  | 2 => (.object "VotedBank$Texts")
  | 3 => (.array .int)
  | 4 => (.array .int)
  | _ => .int
def ix_T10 : u_T := fun k => match k with
  | 0 => ("VotedBank", "world", "LVotedBank$World;", true)
  | 1 => ("VotedBank", "kept", "LVotedBank$World;", true)
  | 2 => ("VotedBank", "past", "LVotedBank$Past;", true)
  | 3 => ("VotedBank", "tape", "LVotedBank$Tape;", true)
  | 4 => ("VotedBank", "parser", "LVotedBank$Parser;", true)
  | 5 => ("VotedBank", "crossing", "LVotedBank$Crossing;", true)
  | 6 => ("VotedBank", "poll", "LVotedBank$Poll;", true)
  | _ => ("VotedBank", "imageTaken", "Z", false)
def ix_y10 : Nat → FieldType := fun k => match k with
  | 0 => (.object "VotedBank$World")
  | 1 => (.object "VotedBank$World")
  | 2 => (.object "VotedBank$Past")
  | 3 => (.object "VotedBank$Tape")
  | 4 => (.object "VotedBank$Parser")
  | 5 => (.object "VotedBank$Crossing")
  | 6 => (.object "VotedBank$Poll")
  | _ => .boolean
def ix_T11 : u_T := fun k => match k with
  | 0 => ("VotedBankModel", "told", "I", false)
  | 1 => ("VotedBankModel", "now", "[I", true)
  | 2 => ("VotedBankModel", "rows", "[I", true)
  | 3 => ("VotedBankModel", "undoable", "I", false)
  | 4 => ("VotedBankModel", "waiting", "[I", true)
  | 5 => ("VotedBankModel", "isThought", "Z", false)
  | 6 => ("VotedBankModel", "stream", "I", false)
  | 7 => ("VotedBankModel", "people", "I", false)
  | 8 => ("VotedBankModel", "child", "[I", true)
  | 9 => ("VotedBankModel", "talk", "[I", true)
  | 10 => ("VotedBankModel", "firm", "[I", true)
  | 11 => ("VotedBankModel", "book", "[I", true)
  | 12 => ("VotedBankModel", "tape", "[I", true)
  | 13 => ("VotedBankModel", "taped", "I", false)
  | 14 => ("VotedBankModel", "spot", "I", false)
  | 15 => ("VotedBankModel", "from", "I", false)
  | 16 => ("VotedBankModel", "token", "I", false)
  | 17 => ("VotedBankModel", "value", "I", false)
  | 18 => ("VotedBankModel", "words", "[I", true)
  | 19 => ("VotedBankModel", "lineMany", "[I", true)
  | 20 => ("VotedBankModel", "lineWord", "[I", true)
  | 21 => ("VotedBankModel", "lineFrom", "[I", true)
  | 22 => ("VotedBankModel", "lineWhen", "[I", true)
  | 23 => ("VotedBankModel", "lineTo", "[I", true)
  | 24 => ("VotedBankModel", "op", "[I", true)
  | 25 => ("VotedBankModel", "arg", "[I", true)
  | 26 => ("VotedBankModel", "which", "I", false)
  | 27 => ("VotedBankModel", "codes", "I", false)
  | 28 => ("VotedBankModel", "open", "I", false)
  | 29 => ("VotedBankModel", "pending", "[I", true)
  | 30 => ("VotedBankModel", "pendings", "I", false)
  | 31 => ("VotedBankModel", "readFault", "I", false)
  | 32 => ("VotedBankModel", "readPlace", "I", false)
  | 33 => ("VotedBankModel", "faultKind", "I", false)
  | 34 => ("VotedBankModel", "faultPlace", "I", false)
  | 35 => ("VotedBankModel", "earMany", "I", false)
  | 36 => ("VotedBankModel", "ears", "[I", true)
  | 37 => ("VotedBankModel", "logMany", "I", false)
  | 38 => ("VotedBankModel", "logged", "[I", true)
  | 39 => ("VotedBankModel", "seasonMany", "I", false)
  | 40 => ("VotedBankModel", "seasons", "[I", true)
  | 41 => ("VotedBankModel", "asked", "[I", true)
  | 42 => ("VotedBankModel", "stack", "[I", true)
  | 43 => ("VotedBankModel", "turnings", "I", false)
  | 44 => ("VotedBankModel", "laid", "[I", true)
  | 45 => ("VotedBankModel", "lays", "[I", true)
  | 46 => ("VotedBankModel", "beaten", "[I", true)
  | 47 => ("VotedBankModel", "seenMany", "I", false)
  | 48 => ("VotedBankModel", "seenLand", "[I", true)
  | 49 => ("VotedBankModel", "bribeBut", "[I", true)
  | 50 => ("VotedBankModel", "isTaking", "Z", false)
  | 51 => ("VotedBankModel", "hasImage", "Z", false)
  | 52 => ("VotedBankModel", "keptAt", "I", false)
  | _ => ("VotedBankModel", "images", "[I", true)
def ix_y11 : Nat → FieldType := fun k => match k with
  | 0 => .int
  | 1 => (.array .int)
  | 2 => (.array .int)
  | 3 => .int
  | 4 => (.array .int)
  | 5 => .boolean
  | 6 => .int
  | 7 => .int
  | 8 => (.array .int)
  | 9 => (.array .int)
  | 10 => (.array .int)
  | 11 => (.array .int)
  | 12 => (.array .int)
  | 13 => .int
  | 14 => .int
  | 15 => .int
  | 16 => .int
  | 17 => .int
  | 18 => (.array .int)
  | 19 => (.array .int)
  | 20 => (.array .int)
  | 21 => (.array .int)
  | 22 => (.array .int)
  | 23 => (.array .int)
  | 24 => (.array .int)
  | 25 => (.array .int)
  | 26 => .int
  | 27 => .int
  | 28 => .int
  | 29 => (.array .int)
  | 30 => .int
  | 31 => .int
  | 32 => .int
  | 33 => .int
  | 34 => .int
  | 35 => .int
  | 36 => (.array .int)
  | 37 => .int
  | 38 => (.array .int)
  | 39 => .int
  | 40 => (.array .int)
  | 41 => (.array .int)
  | 42 => (.array .int)
  | 43 => .int
  | 44 => (.array .int)
  | 45 => (.array .int)
  | 46 => (.array .int)
  | 47 => .int
  | 48 => (.array .int)
  | 49 => (.array .int)
  | 50 => .boolean
  | 51 => .boolean
  | 52 => .int
  | _ => (.array .int)
def ix_cls : List vw_C := [("VotedBank$Book", ix_T0, 2), ("VotedBank$Crossing", ix_T1, 8), ("VotedBank$Law", ix_T2, 9), ("VotedBank$Parser", ix_T3, 5), ("VotedBank$Past", ix_T4, 4), ("VotedBank$Poll", ix_T5, 7), ("VotedBank$River", ix_T6, 14), ("VotedBank$Tape", ix_T7, 10), ("VotedBank$Texts", ix_T8, 7), ("VotedBank$World", ix_T9, 6), ("VotedBank", ix_T10, 8), ("VotedBankModel", ix_T11, 54)]
def ix_ty : Nat → Nat → FieldType
  | 0 => ix_y0
  | 1 => ix_y1
  | 2 => ix_y2
  | 3 => ix_y3
  | 4 => ix_y4
  | 5 => ix_y5
  | 6 => ix_y6
  | 7 => ix_y7
  | 8 => ix_y8
  | 9 => ix_y9
  | 10 => ix_y10
  | _ => ix_y11
def ix_isRef : FieldType → Bool
  | .object _ => true
  | .array _ => true
  | _ => false
theorem ix_mem_p {ws : List Cond} (ps : List Nat) (h : ws = ps.filterMap (fun i => lw_tbl[i]?)) (hu : ∀ w ∈ ws, ix_use w = true) : ∀ w ∈ ws, w ∈ ix_tb := by
  intro w hw
  have hu := hu w hw
  rw [h] at hw
  obtain ⟨i, -, hi⟩ := List.mem_filterMap.mp hw
  exact List.mem_filter.mpr ⟨List.mem_of_getElem? hi, hu⟩
theorem ix_cw0 : ∀ w ∈ u_ws "VotedBank$Book" ix_T0 2, w ∈ ix_tb := ix_mem_p [265, 267] (by decide +kernel) (by decide +kernel)
theorem ix_ci0 : ∀ w ∈ ([.instantiable "VotedBank$Book" 2, .initialized "VotedBank$Book"] : List Cond), w ∈ ix_tb := ix_mem_p [256, 140] (by decide +kernel) (by decide +kernel)
theorem ix_ck0 : (∀ k, k < 2 → parseFieldDescriptor (ix_T0 k).2.2.1 = some (ix_y0 k)) ∧ (∀ a, a < 2 → ∀ b, b < 2 → a ≠ b → (ix_T0 a).2.1 ≠ (ix_T0 b).2.1) ∧ (ix_kinds 0).length = 2 ∧ (∀ k, k < 2 → (ix_T0 k).1 = "VotedBank$Book") ∧ ∀ k, k < 2 → (ix_n (ix_kinds 0) k = some 0 ∧ ix_y0 k = .int) ∨ (ix_n (ix_kinds 0) k = some 1 ∧ ix_y0 k = .boolean) ∨ (ix_n (ix_kinds 0) k = some 2 ∧ ix_isRef (ix_y0 k) = true) := by decide +kernel
theorem ix_cw1 : ∀ w ∈ u_ws "VotedBank$Crossing" ix_T1 8, w ∈ ix_tb := ix_mem_p [496, 498, 500, 502, 504, 506, 508, 510] (by decide +kernel) (by decide +kernel)
theorem ix_ci1 : ∀ w ∈ ([.instantiable "VotedBank$Crossing" 8, .initialized "VotedBank$Crossing"] : List Cond), w ∈ ix_tb := ix_mem_p [479, 147] (by decide +kernel) (by decide +kernel)
theorem ix_ck1 : (∀ k, k < 8 → parseFieldDescriptor (ix_T1 k).2.2.1 = some (ix_y1 k)) ∧ (∀ a, a < 8 → ∀ b, b < 8 → a ≠ b → (ix_T1 a).2.1 ≠ (ix_T1 b).2.1) ∧ (ix_kinds 1).length = 8 ∧ (∀ k, k < 8 → (ix_T1 k).1 = "VotedBank$Crossing") ∧ ∀ k, k < 8 → (ix_n (ix_kinds 1) k = some 0 ∧ ix_y1 k = .int) ∨ (ix_n (ix_kinds 1) k = some 1 ∧ ix_y1 k = .boolean) ∨ (ix_n (ix_kinds 1) k = some 2 ∧ ix_isRef (ix_y1 k) = true) := by decide +kernel
theorem ix_cw2 : ∀ w ∈ u_ws "VotedBank$Law" ix_T2 9, w ∈ ix_tb := ix_mem_p [292, 294, 296, 298, 300, 302, 304, 306, 308] (by decide +kernel) (by decide +kernel)
theorem ix_ci2 : ∀ w ∈ ([.instantiable "VotedBank$Law" 9, .initialized "VotedBank$Law"] : List Cond), w ∈ ix_tb := ix_mem_p [277, 142] (by decide +kernel) (by decide +kernel)
theorem ix_ck2 : (∀ k, k < 9 → parseFieldDescriptor (ix_T2 k).2.2.1 = some (ix_y2 k)) ∧ (∀ a, a < 9 → ∀ b, b < 9 → a ≠ b → (ix_T2 a).2.1 ≠ (ix_T2 b).2.1) ∧ (ix_kinds 2).length = 9 ∧ (∀ k, k < 9 → (ix_T2 k).1 = "VotedBank$Law") ∧ ∀ k, k < 9 → (ix_n (ix_kinds 2) k = some 0 ∧ ix_y2 k = .int) ∨ (ix_n (ix_kinds 2) k = some 1 ∧ ix_y2 k = .boolean) ∨ (ix_n (ix_kinds 2) k = some 2 ∧ ix_isRef (ix_y2 k) = true) := by decide +kernel
theorem ix_cw3 : ∀ w ∈ u_ws "VotedBank$Parser" ix_T3 5, w ∈ ix_tb := ix_mem_p [467, 469, 471, 473, 475] (by decide +kernel) (by decide +kernel)
theorem ix_ci3 : ∀ w ∈ ([.instantiable "VotedBank$Parser" 5, .initialized "VotedBank$Parser"] : List Cond), w ∈ ix_tb := ix_mem_p [452, 146] (by decide +kernel) (by decide +kernel)
theorem ix_ck3 : (∀ k, k < 5 → parseFieldDescriptor (ix_T3 k).2.2.1 = some (ix_y3 k)) ∧ (∀ a, a < 5 → ∀ b, b < 5 → a ≠ b → (ix_T3 a).2.1 ≠ (ix_T3 b).2.1) ∧ (ix_kinds 3).length = 5 ∧ (∀ k, k < 5 → (ix_T3 k).1 = "VotedBank$Parser") ∧ ∀ k, k < 5 → (ix_n (ix_kinds 3) k = some 0 ∧ ix_y3 k = .int) ∨ (ix_n (ix_kinds 3) k = some 1 ∧ ix_y3 k = .boolean) ∨ (ix_n (ix_kinds 3) k = some 2 ∧ ix_isRef (ix_y3 k) = true) := by decide +kernel
theorem ix_cw4 : ∀ w ∈ u_ws "VotedBank$Past" ix_T4 4, w ∈ ix_tb := ix_mem_p [400, 402, 404, 406] (by decide +kernel) (by decide +kernel)
theorem ix_ci4 : ∀ w ∈ ([.instantiable "VotedBank$Past" 4, .initialized "VotedBank$Past"] : List Cond), w ∈ ix_tb := ix_mem_p [387, 144] (by decide +kernel) (by decide +kernel)
theorem ix_ck4 : (∀ k, k < 4 → parseFieldDescriptor (ix_T4 k).2.2.1 = some (ix_y4 k)) ∧ (∀ a, a < 4 → ∀ b, b < 4 → a ≠ b → (ix_T4 a).2.1 ≠ (ix_T4 b).2.1) ∧ (ix_kinds 4).length = 4 ∧ (∀ k, k < 4 → (ix_T4 k).1 = "VotedBank$Past") ∧ ∀ k, k < 4 → (ix_n (ix_kinds 4) k = some 0 ∧ ix_y4 k = .int) ∨ (ix_n (ix_kinds 4) k = some 1 ∧ ix_y4 k = .boolean) ∨ (ix_n (ix_kinds 4) k = some 2 ∧ ix_isRef (ix_y4 k) = true) := by decide +kernel
theorem ix_cw5 : ∀ w ∈ u_ws "VotedBank$Poll" ix_T5 7, w ∈ ix_tb := ix_mem_p [528, 530, 532, 534, 536, 538, 540] (by decide +kernel) (by decide +kernel)
theorem ix_ci5 : ∀ w ∈ ([.instantiable "VotedBank$Poll" 7, .initialized "VotedBank$Poll"] : List Cond), w ∈ ix_tb := ix_mem_p [514, 148] (by decide +kernel) (by decide +kernel)
theorem ix_ck5 : (∀ k, k < 7 → parseFieldDescriptor (ix_T5 k).2.2.1 = some (ix_y5 k)) ∧ (∀ a, a < 7 → ∀ b, b < 7 → a ≠ b → (ix_T5 a).2.1 ≠ (ix_T5 b).2.1) ∧ (ix_kinds 5).length = 7 ∧ (∀ k, k < 7 → (ix_T5 k).1 = "VotedBank$Poll") ∧ ∀ k, k < 7 → (ix_n (ix_kinds 5) k = some 0 ∧ ix_y5 k = .int) ∨ (ix_n (ix_kinds 5) k = some 1 ∧ ix_y5 k = .boolean) ∨ (ix_n (ix_kinds 5) k = some 2 ∧ ix_isRef (ix_y5 k) = true) := by decide +kernel
theorem ix_cw6 : ∀ w ∈ u_ws "VotedBank$River" ix_T6 14, w ∈ ix_tb := ix_mem_p [225, 227, 229, 231, 233, 235, 237, 239, 241, 243, 245, 247, 249, 251] (by decide +kernel) (by decide +kernel)
theorem ix_ci6 : ∀ w ∈ ([.instantiable "VotedBank$River" 14, .initialized "VotedBank$River"] : List Cond), w ∈ ix_tb := ix_mem_p [173, 139] (by decide +kernel) (by decide +kernel)
theorem ix_ck6 : (∀ k, k < 14 → parseFieldDescriptor (ix_T6 k).2.2.1 = some (ix_y6 k)) ∧ (∀ a, a < 14 → ∀ b, b < 14 → a ≠ b → (ix_T6 a).2.1 ≠ (ix_T6 b).2.1) ∧ (ix_kinds 6).length = 14 ∧ (∀ k, k < 14 → (ix_T6 k).1 = "VotedBank$River") ∧ ∀ k, k < 14 → (ix_n (ix_kinds 6) k = some 0 ∧ ix_y6 k = .int) ∨ (ix_n (ix_kinds 6) k = some 1 ∧ ix_y6 k = .boolean) ∨ (ix_n (ix_kinds 6) k = some 2 ∧ ix_isRef (ix_y6 k) = true) := by decide +kernel
theorem ix_cw7 : ∀ w ∈ u_ws "VotedBank$Tape" ix_T7 10, w ∈ ix_tb := ix_mem_p [429, 431, 433, 435, 437, 439, 441, 443, 445, 447] (by decide +kernel) (by decide +kernel)
theorem ix_ci7 : ∀ w ∈ ([.instantiable "VotedBank$Tape" 10, .initialized "VotedBank$Tape"] : List Cond), w ∈ ix_tb := ix_mem_p [410, 145] (by decide +kernel) (by decide +kernel)
theorem ix_ck7 : (∀ k, k < 10 → parseFieldDescriptor (ix_T7 k).2.2.1 = some (ix_y7 k)) ∧ (∀ a, a < 10 → ∀ b, b < 10 → a ≠ b → (ix_T7 a).2.1 ≠ (ix_T7 b).2.1) ∧ (ix_kinds 7).length = 10 ∧ (∀ k, k < 10 → (ix_T7 k).1 = "VotedBank$Tape") ∧ ∀ k, k < 10 → (ix_n (ix_kinds 7) k = some 0 ∧ ix_y7 k = .int) ∨ (ix_n (ix_kinds 7) k = some 1 ∧ ix_y7 k = .boolean) ∨ (ix_n (ix_kinds 7) k = some 2 ∧ ix_isRef (ix_y7 k) = true) := by decide +kernel
theorem ix_cw8 : ∀ w ∈ u_ws "VotedBank$Texts" ix_T8 7, w ∈ ix_tb := ix_mem_p [336, 338, 340, 342, 344, 346, 348] (by decide +kernel) (by decide +kernel)
theorem ix_ci8 : ∀ w ∈ ([.instantiable "VotedBank$Texts" 7, .initialized "VotedBank$Texts"] : List Cond), w ∈ ix_tb := ix_mem_p [271, 141] (by decide +kernel) (by decide +kernel)
theorem ix_ck8 : (∀ k, k < 7 → parseFieldDescriptor (ix_T8 k).2.2.1 = some (ix_y8 k)) ∧ (∀ a, a < 7 → ∀ b, b < 7 → a ≠ b → (ix_T8 a).2.1 ≠ (ix_T8 b).2.1) ∧ (ix_kinds 8).length = 7 ∧ (∀ k, k < 7 → (ix_T8 k).1 = "VotedBank$Texts") ∧ ∀ k, k < 7 → (ix_n (ix_kinds 8) k = some 0 ∧ ix_y8 k = .int) ∨ (ix_n (ix_kinds 8) k = some 1 ∧ ix_y8 k = .boolean) ∨ (ix_n (ix_kinds 8) k = some 2 ∧ ix_isRef (ix_y8 k) = true) := by decide +kernel
theorem ix_cw9 : ∀ w ∈ u_ws "VotedBank$World" ix_T9 6, w ∈ ix_tb := ix_mem_p [373, 375, 377, 379, 381, 383] (by decide +kernel) (by decide +kernel)
theorem ix_ci9 : ∀ w ∈ ([.instantiable "VotedBank$World" 6, .initialized "VotedBank$World"] : List Cond), w ∈ ix_tb := ix_mem_p [167, 138] (by decide +kernel) (by decide +kernel)
theorem ix_ck9 : (∀ k, k < 6 → parseFieldDescriptor (ix_T9 k).2.2.1 = some (ix_y9 k)) ∧ (∀ a, a < 6 → ∀ b, b < 6 → a ≠ b → (ix_T9 a).2.1 ≠ (ix_T9 b).2.1) ∧ (ix_kinds 9).length = 6 ∧ (∀ k, k < 6 → (ix_T9 k).1 = "VotedBank$World") ∧ ∀ k, k < 6 → (ix_n (ix_kinds 9) k = some 0 ∧ ix_y9 k = .int) ∨ (ix_n (ix_kinds 9) k = some 1 ∧ ix_y9 k = .boolean) ∨ (ix_n (ix_kinds 9) k = some 2 ∧ ix_isRef (ix_y9 k) = true) := by decide +kernel
theorem ix_cw10 : ∀ w ∈ u_ws "VotedBank" ix_T10 8, w ∈ ix_tb := ix_mem_p [551, 553, 555, 557, 559, 561, 563, 565] (by decide +kernel) (by decide +kernel)
theorem ix_ci10 : ∀ w ∈ ([.instantiable "VotedBank" 8, .initialized "VotedBank"] : List Cond), w ∈ ix_tb := ix_mem_p [159, 137] (by decide +kernel) (by decide +kernel)
theorem ix_ck10 : (∀ k, k < 8 → parseFieldDescriptor (ix_T10 k).2.2.1 = some (ix_y10 k)) ∧ (∀ a, a < 8 → ∀ b, b < 8 → a ≠ b → (ix_T10 a).2.1 ≠ (ix_T10 b).2.1) ∧ (ix_kinds 10).length = 8 ∧ (∀ k, k < 8 → (ix_T10 k).1 = "VotedBank") ∧ ∀ k, k < 8 → (ix_n (ix_kinds 10) k = some 0 ∧ ix_y10 k = .int) ∨ (ix_n (ix_kinds 10) k = some 1 ∧ ix_y10 k = .boolean) ∨ (ix_n (ix_kinds 10) k = some 2 ∧ ix_isRef (ix_y10 k) = true) := by decide +kernel
theorem ix_cw11 : ∀ w ∈ u_ws "VotedBankModel" ix_T11 54, w ∈ ix_tb := ix_mem_p [1356, 1358, 1360, 1362, 1364, 1366, 1368, 1370, 1372, 1374, 1376, 1378, 1380, 1382, 1384, 1386, 1388, 1390, 1392, 1394, 1396, 1398, 1400, 1402, 1404, 1406, 1408, 1410, 1412, 1414, 1416, 1418, 1420, 1422, 1424, 1426, 1428, 1430, 1432, 1434, 1436, 1438, 1440, 1442, 1444, 1446, 1448, 1450, 1452, 1454, 1456, 1458, 1460, 1462] (by decide +kernel) (by decide +kernel)
theorem ix_ci11 : ∀ w ∈ ([.instantiable "VotedBankModel" 54, .initialized "VotedBankModel"] : List Cond), w ∈ ix_tb := ix_mem_p [1297, 149] (by decide +kernel) (by decide +kernel)
theorem ix_ck11 : (∀ k, k < 54 → parseFieldDescriptor (ix_T11 k).2.2.1 = some (ix_y11 k)) ∧ (∀ a, a < 54 → ∀ b, b < 54 → a ≠ b → (ix_T11 a).2.1 ≠ (ix_T11 b).2.1) ∧ (ix_kinds 11).length = 54 ∧ (∀ k, k < 54 → (ix_T11 k).1 = "VotedBankModel") ∧ ∀ k, k < 54 → (ix_n (ix_kinds 11) k = some 0 ∧ ix_y11 k = .int) ∨ (ix_n (ix_kinds 11) k = some 1 ∧ ix_y11 k = .boolean) ∨ (ix_n (ix_kinds 11) k = some 2 ∧ ix_isRef (ix_y11 k) = true) := by decide +kernel
/-- what holds of a class by its number -/
def ix_CO (ci : Nat) (r : vw_C) : Prop := (∀ w ∈ u_ws r.1 r.2.1 r.2.2, w ∈ ix_tb) ∧ (∀ w ∈ ([.instantiable r.1 r.2.2, .initialized r.1] : List Cond), w ∈ ix_tb) ∧ (∀ k, k < r.2.2 → parseFieldDescriptor (r.2.1 k).2.2.1 = some (ix_ty ci k)) ∧ (∀ a, a < r.2.2 → ∀ b, b < r.2.2 → a ≠ b → (r.2.1 a).2.1 ≠ (r.2.1 b).2.1) ∧ (ix_kinds ci).length = r.2.2 ∧ (∀ k, k < r.2.2 → (r.2.1 k).1 = r.1) ∧
  ∀ k, k < r.2.2 → (ix_n (ix_kinds ci) k = some 0 ∧ ix_ty ci k = .int) ∨ (ix_n (ix_kinds ci) k = some 1 ∧ ix_ty ci k = .boolean) ∨ (ix_n (ix_kinds ci) k = some 2 ∧ ix_isRef (ix_ty ci k) = true)
theorem ix_cls_ok (ci : Nat) (r : vw_C) (h : ix_n ix_cls ci = some r) : ix_CO ci r := by
  rcases ci with _ | _ | _ | _ | _ | _ | _ | _ | _ | _ | _ | _ | n
  · cases h; exact ⟨ix_cw0, ix_ci0, ix_ck0⟩
  · cases h; exact ⟨ix_cw1, ix_ci1, ix_ck1⟩
  · cases h; exact ⟨ix_cw2, ix_ci2, ix_ck2⟩
  · cases h; exact ⟨ix_cw3, ix_ci3, ix_ck3⟩
  · cases h; exact ⟨ix_cw4, ix_ci4, ix_ck4⟩
  · cases h; exact ⟨ix_cw5, ix_ci5, ix_ck5⟩
  · cases h; exact ⟨ix_cw6, ix_ci6, ix_ck6⟩
  · cases h; exact ⟨ix_cw7, ix_ci7, ix_ck7⟩
  · cases h; exact ⟨ix_cw8, ix_ci8, ix_ck8⟩
  · cases h; exact ⟨ix_cw9, ix_ci9, ix_ck9⟩
  · cases h; exact ⟨ix_cw10, ix_ci10, ix_ck10⟩
  · cases h; exact ⟨ix_cw11, ix_ci11, ix_ck11⟩
  · cases h
theorem ix_glob : ∀ w ∈ ([.native arraycopyName, .static arraycopyName, .initialized "java/lang/System", .instanceMethod objectInit, .code objectInit ⟨#[0xb1]⟩ 1 none, .arrayClass .int, .arrayClass .byte, .arrayOver (.object "VotedBank$River")] : List Cond), w ∈ ix_tb := ix_mem_p [635, 634, 150, 164, 165, 254, 450, 393] (by decide +kernel) (by decide +kernel)
end
section
/-! what the interpreter's cells are in the machine's heap: own cell k at base + k; the given ones where xa says -/
theorem ix_n_eq {α : Type} : ∀ (l : List α) (k : Nat), ix_n l k = l[k]?
  | [], _ => by simp [ix_n]
  | a :: l, 0 => by simp [ix_n]
  | a :: l, k + 1 => by simp [ix_n, ix_n_eq l k]
section Rel
variable (base : Nat) (xa : Nat → Nat) (cI cB cR : ClassId)
def ix_ad (k : Nat) : Nat := if k < 1000 then base + k else xa (k - 1000)
def ix_v (v : Value) : Value := match v with
  | .int x => .int x
  | .ref k => .ref (ix_ad base xa k)
  | _ => .null
def ix_sv (f : Nat → Int32) (j : Nat) (o : Option (Option Nat)) : Value := match o with
  | none => .int (f j)
  | some none => .null
  | some (some a) => .ref (ix_ad base xa a)
def ix_fl (f : Nat → Int32) : Nat → List (Option (Option Nat)) → List Value
  | _, [] => []
  | j, o :: l => ix_sv base xa f j o :: ix_fl f (j + 1) l
def ix_rf (sl : List (Option (Option Nat))) (j : Nat) : Option Nat := match ix_n sl j with
  | some (some (some a)) => some (ix_ad base xa a)
  | _ => none
def ix_ce (f : Nat → Int32) (sh : ix_Sh) : va_E := match sh with
  | (0, n, sl) => .inr (n, ix_fl base xa f 0 sl)
  | (1, n, _) => .inl (cI, n, .inl f)
  | (2, n, _) => .inl (cB, n, .inl f)
  | (_, n, sl) => .inl (cR, n, .inr (.inr (.inr (.inr (ix_rf base xa sl)))))
def ix_ws (σ : ix_St) : Nat → List ix_Sh → va_W
  | _, [] => []
  | k, s :: l => (base + k, ix_ce base xa cI cB cR (σ k) s) :: ix_ws σ (k + 1) l
def ix_tys : List (ClassId × FieldType) := [(cI, .int), (cB, .byte), (cR, .object "VotedBank$River")]
variable {base xa cI cB cR}
theorem ix_v_cat (v : Value) : (ix_v base xa v).category = 1 := by cases v <;> rfl
theorem ix_ws_get (σ : ix_St) : ∀ (S : List ix_Sh) (k j : Nat), (ix_ws base xa cI cB cR σ k S)[j]? = (S[j]?).map fun s => (base + (k + j), ix_ce base xa cI cB cR (σ (k + j)) s)
  | [], k, j => by simp [ix_ws]
  | s :: l, k, 0 => by simp [ix_ws]
  | s :: l, k, j + 1 => by
    have := ix_ws_get σ l (k + 1) j
    simp only [ix_ws, List.getElem?_cons_succ, this]
    rw [show k + 1 + j = k + (j + 1) by omega]
theorem ix_ws_len (σ : ix_St) : ∀ (S : List ix_Sh) (k : Nat), (ix_ws base xa cI cB cR σ k S).length = S.length
  | [], _ => rfl
  | _ :: l, k => by simp [ix_ws, ix_ws_len σ l (k + 1)]
theorem ix_fl_get (f : Nat → Int32) : ∀ (sl : List (Option (Option Nat))) (j i : Nat), (ix_fl base xa f j sl)[i]? = (sl[i]?).map (ix_sv base xa f (j + i))
  | [], j, i => by simp [ix_fl]
  | o :: l, j, 0 => by simp [ix_fl]
  | o :: l, j, i + 1 => by
    have := ix_fl_get f l (j + 1) i
    simp only [ix_fl, List.getElem?_cons_succ, this]
    rw [show j + 1 + i = j + (i + 1) by omega]
theorem ix_fl_len (f : Nat → Int32) : ∀ (sl : List (Option (Option Nat))) (j : Nat), (ix_fl base xa f j sl).length = sl.length
  | [], _ => rfl
  | _ :: l, j => by simp [ix_fl, ix_fl_len f l (j + 1)]
theorem ix_at0 {S : List ix_Sh} {σ : ix_St} {r : Nat} {sh : ix_Sh} (h : ix_n S r = some sh) : (ix_ws base xa cI cB cR σ 0 S)[r]? = some (base + r, ix_ce base xa cI cB cR (σ r) sh) := by
  rw [ix_n_eq] at h
  rw [ix_ws_get, h]
  simp
theorem ix_n_lt {α : Type} {l : List α} {r : Nat} {x : α} (h : ix_n l r = some x) : r < l.length := by
  rw [ix_n_eq] at h
  exact (List.getElem?_eq_some_iff.mp h).1
theorem ix_ws_row {S : List ix_Sh} {σ : ix_St} {r : Nat} {sh : ix_Sh} (f : Nat → Int32) (h : ix_n S r = some sh) : (ix_ws base xa cI cB cR σ 0 S).set r (base + r, ix_ce base xa cI cB cR f sh) = ix_ws base xa cI cB cR (ix_row σ r f) 0 S := by
  have hl := ix_n_lt h
  rw [ix_n_eq] at h
  apply List.ext_getElem?
  intro j
  rw [List.getElem?_set, ix_ws_get, ix_ws_get, ix_ws_len]
  by_cases hj : r = j
  · subst hj
    rw [if_pos rfl, if_pos hl, h]
    simp [ix_row]
  · have hj' : ¬ j = r := fun q => hj q.symm
    simp [hj, hj', ix_row]
theorem ix_ws_set {S : List ix_Sh} {σ : ix_St} {r : Nat} (sh : ix_Sh) (hl : r < S.length) : (ix_ws base xa cI cB cR σ 0 S).set r (base + r, ix_ce base xa cI cB cR (σ r) sh) = ix_ws base xa cI cB cR σ 0 (S.set r sh) := by
  apply List.ext_getElem?
  intro j
  rw [List.getElem?_set, ix_ws_get, ix_ws_get, ix_ws_len, List.getElem?_set]
  by_cases hj : r = j
  · subst hj
    simp [hl]
  · simp [hj]
theorem ix_ws_new {S : List ix_Sh} {σ : ix_St} (f : Nat → Int32) (sh : ix_Sh) : ix_ws base xa cI cB cR (ix_row σ S.length f) 0 (S ++ [sh]) = ix_ws base xa cI cB cR σ 0 S ++ [(base + S.length, ix_ce base xa cI cB cR f sh)] := by
  apply List.ext_getElem?
  intro j
  rw [ix_ws_get]
  by_cases hj : j < S.length
  · rw [List.getElem?_append_left hj, List.getElem?_append_left (by rw [ix_ws_len]; exact hj), ix_ws_get]
    have hj' : ¬ j = S.length := by omega
    simp [ix_row, hj']
  · rw [List.getElem?_append_right (by omega), List.getElem?_append_right (by rw [ix_ws_len]; omega), ix_ws_len]
    by_cases hz : j = S.length
    · subst hz
      simp [ix_row]
    · have h1 : j - S.length ≠ 0 := by omega
      obtain ⟨d, hd⟩ : ∃ d, j - S.length = d + 1 := ⟨j - S.length - 1, by omega⟩
      simp [hd]
theorem ix_D {S : List ix_Sh} {σ : ix_St} : va_D (fun q => base ≤ q) (ix_ws base xa cI cB cR σ 0 S) := by
  refine ⟨fun i j p q hi hj hpq => ?_, fun k q hk => ?_⟩
  · rw [ix_ws_get] at hi hj
    obtain ⟨a, -, rfl⟩ := Option.map_eq_some_iff.mp hi
    obtain ⟨b, -, rfl⟩ := Option.map_eq_some_iff.mp hj
    simp only at hpq
    omega
  · rw [ix_ws_get] at hk
    obtain ⟨a, -, rfl⟩ := Option.map_eq_some_iff.mp hk
    simp only
    omega
/-- a put of an int, of a reference -/
theorem ix_fl_int {f : Nat → Int32} {sl : List (Option (Option Nat))} {k : Nat} (x : Int32) (h : ix_n sl k = some none) : (ix_fl base xa f 0 sl).set k (.int x) = ix_fl base xa (upd f k x) 0 sl := by
  have hl := ix_n_lt h
  rw [ix_n_eq] at h
  apply List.ext_getElem?
  intro j
  rw [List.getElem?_set, ix_fl_get, ix_fl_get, ix_fl_len]
  by_cases hj : k = j
  · subst hj
    rw [if_pos rfl, if_pos hl, h]
    simp [ix_sv, upd]
  · have hj' : ¬ j = k := fun q => hj q.symm
    rcases hq : sl[j]? with _ | _ | _ | a <;> simp [hj, hj', ix_sv, upd]
theorem ix_fl_ref {f : Nat → Int32} {sl : List (Option (Option Nat))} {k a : Nat} (hl : k < sl.length) : (ix_fl base xa f 0 sl).set k (.ref (ix_ad base xa a)) = ix_fl base xa f 0 (sl.set k (some (some a))) := by
  apply List.ext_getElem?
  intro j
  rw [List.getElem?_set, ix_fl_get, ix_fl_get, ix_fl_len, List.getElem?_set]
  by_cases hj : k = j
  · subst hj
    simp [hl, ix_sv]
  · simp [hj]
theorem ix_rf_set {sl : List (Option (Option Nat))} {k a : Nat} (hl : k < sl.length) : va_up (ix_rf base xa sl) k (some (ix_ad base xa a)) = ix_rf base xa (sl.set k (some (some a))) := by
  funext j
  simp only [va_up, ix_rf, ix_n_eq, List.getElem?_set]
  by_cases hj : j = k
  · subst hj
    simp [hl]
  · have hj' : ¬ k = j := fun q => hj q.symm
    simp [hj, hj']
theorem ix_ad_own {k : Nat} (h : k < 1000) : ix_ad base xa k = base + k := if_pos h
/-- the heap holds the cells -/
def ix_Rep (base : Nat) (xa : Nat → Nat) (cI cB cR : ClassId) (D : va_G) (h : ix_H) (H : Heap) : Prop := va_P D ix_cls (ix_ws base xa cI cB cR h.2 0 h.1) H ∧ h.1.length ≤ 900 ∧ ∀ sh ∈ h.1, sh.1 < 4
theorem ix_Rep.lt {D : va_G} {h : ix_H} {H : Heap} (hR : ix_Rep base xa cI cB cR D h H) {k : Nat} (hk : k < h.1.length) : base + k < H.size := by
  obtain ⟨s, hs⟩ : ∃ s, h.1[k]? = some s := ⟨h.1[k], by simp [hk]⟩
  have h1 := ix_at0 (base := base) (xa := xa) (cI := cI) (cB := cB) (cR := cR) (σ := h.2) (show ix_n h.1 k = some s by rw [ix_n_eq]; exact hs)
  exact (hR.1 k _ h1).lt
end Rel
/-- the given cells' contents, in the interpreter -/
def ix_lens : List Nat := [98, 15, 8, 14, 10]
def ix_byt : List (List Int32) := [[115, 119, 97, 121, 32, 97, 98, 115, 116, 97, 105, 110, 32, 115, 104, 101, 108, 108, 115, 32, 119, 104, 101, 110, 32, 111, 114, 32, 97, 110, 100, 32, 110, 111, 116, 32, 99, 104, 105, 108, 100, 32, 116, 97, 108, 107, 32, 102, 105, 114, 109, 32, 119, 97, 100, 101, 100, 32, 116, 117, 114, 110, 101, 100, 32, 98, 97, 110, 107, 32, 97, 103, 101, 32, 115, 116, 114, 101, 97, 109, 32, 109, 105, 110, 117, 116, 101, 32, 97, 98, 111, 97, 114, 100, 32, 102, 111, 114], [112, 97, 115, 115, 101, 110, 103, 101, 114, 32, 104, 101, 97, 114, 115], [114, 111, 119, 32, 115, 116, 97, 121], [98, 97, 110, 107, 32, 98, 101, 104, 105, 110, 100, 32, 105, 115], [59, 43, 45, 42, 47, 40, 41, 60, 61, 62]]
def ix_rnk : List Int32 := [12345, 12354, 12435, 12453, 12534, 12543, 13245, 13254, 13425, 13452, 13524, 13542, 14235, 14253, 14325, 14352, 14523, 14532, 15234, 15243, 15324, 15342, 15423, 15432, 21345, 21354, 21435, 21453, 21534, 21543, 23145, 23154, 23415, 23451, 23514, 23541, 24135, 24153, 24315, 24351, 24513, 24531, 25134, 25143, 25314, 25341, 25413, 25431, 31245, 31254, 31425, 31452, 31524, 31542, 32145, 32154, 32415, 32451, 32514, 32541, 34125, 34152, 34215, 34251, 34512, 34521, 35124, 35142, 35214, 35241, 35412, 35421, 41235, 41253, 41325, 41352, 41523, 41532, 42135, 42153, 42315, 42351, 42513, 42531, 43125, 43152, 43215, 43251, 43512, 43521, 45123, 45132, 45213, 45231, 45312, 45321, 51234, 51243, 51324, 51342, 51423, 51432, 52134, 52143, 52314, 52341, 52413, 52431, 53124, 53142, 53214, 53241, 53412, 53421, 54123, 54132, 54213, 54231, 54312, 54321]
def ix_txt : List (String × Nat × String × Nat) := [("VotedBank$Parser", 75, "sway abstain shells when or and not child talk firm waded turned bank age stream minute aboard for", 1002), ("VotedBank$Parser", 77, "passenger hears", 1003), ("VotedBank$Parser", 79, "row stay", 1004), ("VotedBank$Parser", 81, "bank behind is", 1005), ("VotedBank$Tape", 48, ";+-*/()<=>", 1006)]
/-- what the interpreter's numbers are for the given cells: a script of L ints -/
def ix_Xs (L : Nat) (xs : Nat → Int32) (σ : ix_St) : Prop := L ≤ 3072 ∧ σ 999 0 = Int32.ofNat L ∧ (∀ j, j < L → σ 1000 j = xs j) ∧ (∀ j, j < 120 → σ 1001 j = ix_rnk.getD j 0) ∧ ∀ i, i < 5 → ∀ j, j < ix_lens.getD i 0 → σ (1007 + i) j = (ix_byt.getD i []).getD j 0
theorem ix_Xs.row {L : Nat} {xs : Nat → Int32} {σ : ix_St} (h : ix_Xs L xs σ) {r : Nat} (hr : r < 999) (f : Nat → Int32) : ix_Xs L xs (ix_row σ r f) := by
  have e : ∀ k, 999 ≤ k → ix_row σ r f k = σ k := fun k hk => by
    have : ¬ k = r := by omega
    simp [ix_row, this]
  refine ⟨h.1, ?_, fun j hj => ?_, fun j hj => ?_, fun i hi j hj => ?_⟩
  · rw [e 999 (Nat.le_refl _)]; exact h.2.1
  · rw [e 1000 (by omega)]; exact h.2.2.1 j hj
  · rw [e 1001 (by omega)]; exact h.2.2.2.1 j hj
  · rw [e (1007 + i) (by omega)]; exact h.2.2.2.2 i hi j hj
/-- what the machine has of the given cells -/
def ix_Ex (xa : Nat → Nat) (A : Nat → Prop) (L : Nat) (xs : Nat → Int32) (U : State) (H : Heap) : Prop :=
  va_T .int (xa 0) L (fun j => .int (xs j)) A U H ∧ va_T .int (xa 1) 120 (fun j => .int (ix_rnk.getD j 0)) A U H ∧ va_Z "VotedBank" "RANKS" "[I" (.ref (xa 1)) A U H ∧ va_Z "java/lang/String" "COMPACT_STRINGS" "Z" (.int 1) A U H ∧
  vk_S 5 ix_lens ix_byt (fun i => xa (2 + i)) (fun i => xa (7 + i)) A U H ∧ ∀ t ∈ ix_txt, vk_R t.1 t.2.1 t.2.2.1 (xa (t.2.2.2 - 1000)) U
theorem ix_Ex.moved {xa : Nat → Nat} {A : Nat → Prop} {L : Nat} {xs : Nat → Int32} {u U : State} {H : Heap} (hW : u.WarmedH U.vm) (h : ix_Ex xa A L xs u H) : ix_Ex xa A L xs U H :=
  ⟨h.1.moved hW.alike, h.2.1.moved hW.alike, h.2.2.1.moved hW.alike, h.2.2.2.1.moved hW.alike, h.2.2.2.2.1.moved hW.alike, fun t ht => (h.2.2.2.2.2 t ht).warm hW⟩
theorem ix_Ex.same {xa : Nat → Nat} {A : Nat → Prop} {L : Nat} {xs : Nat → Int32} {u U : State} {H : Heap} (hv : U.vm = u.vm) (h : ix_Ex xa A L xs u H) : ix_Ex xa A L xs U H := by
  have hvm : u.vm.Alike U.vm := by rw [hv]; exact Vm.Alike.refl _
  exact ⟨h.1.moved hvm, h.2.1.moved hvm, h.2.2.1.moved hvm, h.2.2.2.1.moved hvm, h.2.2.2.2.1.moved hvm, fun t ht => (h.2.2.2.2.2 t ht).same hv⟩
theorem ix_Ex.kept {xa : Nat → Nat} {A : Nat → Prop} {L : Nat} {xs : Nat → Int32} {U : State} {H H1 : Heap} (h : ix_Ex xa A L xs U H) (hq : ∀ a : Nat, a < H.size → ¬ A a → H1[a]? = H[a]?) : ix_Ex xa A L xs U H1 :=
  ⟨h.1.kept hq, h.2.1.kept hq, h.2.2.1.kept hq, h.2.2.2.1.kept hq, h.2.2.2.2.1.kept hq, h.2.2.2.2.2⟩
end
section
/-- the word of the tables that an entry stands on -/
def ix_need (own : String) (e : ix_E) : List Cond := match e with
  | (_, ins, _, _, a, b, c, _, v) => match ins with
    | .ldc i => bif Nat.beq b 0 then [.constant own i v] else []
    | .ldc_w i => [.constant own i v]
    | .getstatic i => bif Nat.beq b 0 then [.fieldLink own i "java/lang/String" "COMPACT_STRINGS" "Z"] else [.fieldLinkNest own i "VotedBank" "RANKS" "[I" "VotedBank"]
    | .getfield i => bif Nat.beq a 99 then (match b with
        | 0 => [.fieldLink own i "java/lang/String" "value" "[B"]
        | _ => [.fieldLink own i "java/lang/String" "coder" "B"]) else (match ix_n ix_cls a with
        | some r => [.fieldLink own i r.1 (r.2.1 b).2.1 (r.2.1 b).2.2.1]
        | none => [])
    | .putfield i => (match ix_n ix_cls a with
        | some r => [.fieldLink own i r.1 (r.2.1 b).2.1 (r.2.1 b).2.2.1]
        | none => [])
    | .new i => (match ix_n ix_cls a with
        | some r => [.classLink own i r.1]
        | none => [])
    | .anewarray i => [.classLink own i "VotedBank$River"]
    | .invokestatic i => bif Nat.beq c 2 then [.methodLink own i arraycopyName] else (match ix_n ix_ms a with
        | some m => [if v = 1 then .methodLinkNest own i m.1 "VotedBank" else .methodLink own i m.1]
        | none => [])
    | .invokevirtual i => (match ix_n ix_ms a with
        | some m => [if v = 1 then .methodLinkNest own i m.1 "VotedBank" else .methodLink own i m.1]
        | none => [])
    | .invokespecial i => bif Nat.beq c 2 then [.methodLink own i objectInit] else (match ix_n ix_ms a with
        | some m => [if v = 1 then .methodLinkNest own i m.1 "VotedBank" else .methodLink own i m.1]
        | none => [])
    | _ => []
def ix_clsOf (d : Nat) : String := if d = 99 then "java/lang/String" else match ix_n ix_cls d with
  | some r => r.1
  | none => ""
/-- the parts of an entry agree with each other -/
def ix_okb (mm : ix_M) (e : ix_E) : Bool := match e with
  | (pc, ins, len, _, a, b, c, d, v) => match ins with
    | .iconst n => decide (len = 1 ∧ Int32.ofInt n = v)
    | .bipush n => decide (len = 2 ∧ (Int8.ofInt n).toInt32 = v)
    | .sipush n => decide (len = 3 ∧ (Int16.ofInt n).toInt32 = v)
    | .ldc i => decide (len = 2 ∧ (b = 0 ∨ ∃ t ∈ ix_txt, t.1 = mm.1.cls ∧ t.2.1 = i ∧ t.2.2.2 = a))
    | .ldc_w _ => decide (len = 3)
    | .iload i => decide (len = 2 ∧ i = a)
    | .iload_n k => decide (len = 1 ∧ k.val = a)
    | .aload i => decide (len = 2 ∧ i = a)
    | .aload_n k => decide (len = 1 ∧ k.val = a)
    | .istore i => decide (len = 2 ∧ i = a)
    | .istore_n k => decide (len = 1 ∧ k.val = a)
    | .astore i => decide (len = 2 ∧ i = a)
    | .astore_n k => decide (len = 1 ∧ k.val = a)
    | .iinc i n => decide (len = 3 ∧ i = a ∧ ((c = 0 ∧ Int32.ofInt n = v) ∨ (c = 1 ∧ Int32.ofInt n = -v)))
    | .goto o => decide (len = 3 ∧ (pc : Int) + o = (a : Int))
    | .ifCond _ o => decide (len = 3 ∧ (pc : Int) + o = (a : Int))
    | .if_icmp _ o => decide (len = 3 ∧ (pc : Int) + o = (a : Int))
    | .tableswitch df lo hi os => decide (hi = lo + os.size - 1 ∧ 0 ≤ (pc : Int) + df ∧ ∀ o ∈ os.toList, 0 ≤ (pc : Int) + o)
    | .lookupswitch df ps => decide ((ps.toList.zip (ps.toList.drop 1)).all (fun (a, next) => a.1 < next.1) = true ∧ 0 ≤ (pc : Int) + df ∧ ∀ o ∈ ps.toList, 0 ≤ (pc : Int) + o.2)
    | .getstatic _ => decide (len = 3 ∧ ((b = 0 ∧ v = 1) ∨ (b = 1 ∧ a = 1001)))
    | .getfield _ => decide (len = 3 ∧ ((a = 99 ∧ b < 2) ∨ (a < 12 ∧ b < (ix_kinds a).length)))
    | .putfield _ => decide (len = 3 ∧ a < 12 ∧ b < (ix_kinds a).length ∧ ix_n (ix_kinds a) b = some c) && (match ix_n ix_cls a with
        | some r => decide ((r.2.1 b).2.2.2 = false ∨ (mm.1.name = "<init>" ∧ r.1 = mm.1.cls))
        | none => false)
    | .new _ => decide (len = 3 ∧ a < 12)
    | .newarray _ => decide (len = 2)
    | .anewarray _ => decide (len = 3)
    | .invokestatic _ => decide (len = 3) && (decide (c = 2) || (match ix_n ix_ms a with
        | some m => decide (a ≠ 0 ∧ m.2.2.2.2.2.1 = true ∧ b = m.2.2.2.2.1 ∧ b ≤ m.2.2.1 ∧ (m.2.2.2.1 = none ↔ c = 0))
        | none => false))
    | .invokevirtual _ => decide (len = 3 ∧ (d = 99 ∨ d < 12)) && (match ix_n ix_ms a with
        | some m => decide (a ≠ 0 ∧ m.2.2.2.2.2.1 = false ∧ m.1.name ≠ "<init>" ∧ ix_clsOf d = m.1.cls ∧ b = m.2.2.2.2.1 + 1 ∧ b ≤ m.2.2.1 ∧ (m.2.2.2.1 = none ↔ c = 0))
        | none => false)
    | .invokespecial _ => decide (len = 3) && (decide (c = 2) || (match ix_n ix_ms a with
        | some m => decide (a ≠ 0 ∧ m.2.2.2.2.2.1 = false ∧ m.1.name = "<init>" ∧ b = m.2.2.2.2.1 + 1 ∧ b ≤ m.2.2.1 ∧ m.2.2.2.1 = none ∧ c = 0)
        | none => false))
    | .ireturn => decide (len = 1 ∧ ((a = 0 ∧ mm.2.2.2.1 = some .int) ∨ (a = 1 ∧ mm.2.2.2.1 = some .boolean) ∨ (a = 2 ∧ mm.2.2.2.1 = some .byte) ∨ (a = 3 ∧ mm.2.2.2.1 = some .char)))
    | .areturn => decide (len = 1) && (match mm.2.2.2.1 with
        | some t => ix_isRef t
        | none => false)
    | .return_ => decide (len = 1 ∧ mm.2.2.2.1 = none)
    | .dup | .dup2 | .pop | .iadd | .isub | .imul | .idiv | .irem | .ineg | .ishl | .ishr | .iushr | .iand | .ior | .ixor | .i2b | .i2c | .arraylength | .iaload | .baload | .iastore | .bastore | .aaload | .aastore => decide (len = 1)
    | _ => false
/-- the words of a method that is called -/
def ix_mw (mm : ix_M) : List Cond := [.code mm.1 mm.2.1 mm.2.2.1 mm.2.2.2.1, .initialized mm.1.cls] ++ (bif mm.2.2.2.2.2.1 then [.static mm.1] else if mm.1.name = "<init>" then [.instanceMethod mm.1] else [.instanceMethod mm.1, .selects mm.1.cls mm.1 mm.1])
def ix_nmb (mm : ix_M) : Bool := plainName mm.1.cls && decide (mm.1.cls ≠ "java/lang/invoke/MethodHandle" ∧ mm.1.cls ≠ "java/lang/invoke/VarHandle" ∧ (parseMethodDescriptor mm.1.desc).map (fun d => d.parameters.length) = some mm.2.2.2.2.1 ∧ mm.2.2.1 ≤ 20)
/-- a method's entries are its bytes', the tables hold what they stand on -/
def ix_Gd (mm : ix_M) : Prop := (∀ e ∈ mm.2.2.2.2.2.2, decode mm.2.1 e.1 = .ok (e.2.1, e.2.2.1) ∧ ix_okb mm e = true ∧ ∀ w ∈ ix_need mm.1.cls e, w ∈ ix_tb) ∧ ix_nmb mm = true
/-- all methods are; those that are called (all but the first) have their words -/
def ix_All : Prop := (∀ mi mm, ix_n ix_ms mi = some mm → ix_Gd mm) ∧ ∀ mi mm, mi ≠ 0 → ix_n ix_ms mi = some mm → ∀ w ∈ ix_mw mm, w ∈ ix_tb
theorem ix_need_use (own : String) (e : ix_E) : ∀ w ∈ ix_need own e, ix_use w = true := by
  intro w hw
  obtain ⟨pc, ins, len, ct, a, b, c, d, v⟩ := e
  cases ins <;> unfold ix_need at hw <;> dsimp only at hw <;> first | (cases hw; done) | skip
  all_goals (repeat' split at hw)
  all_goals first
    | (cases hw; done)
    | (cases List.mem_singleton.mp hw; rfl)
    | (cases hc : Nat.beq b 0 <;> rw [hc] at hw <;> first | (cases hw; done) | (cases List.mem_singleton.mp hw; rfl))
    | (cases hc : Nat.beq c 2 <;> rw [hc] at hw <;> first | (cases hw; done) | (cases List.mem_singleton.mp hw; rfl) | (cases List.mem_singleton.mp hw; split <;> rfl))
    | (cases hc : Nat.beq a 99 <;> rw [hc] at hw <;> first | (cases hw; done) | (cases List.mem_singleton.mp hw; rfl))
    | (cases List.mem_singleton.mp hw; split <;> rfl)
theorem ix_mw_use (mm : ix_M) : ∀ w ∈ ix_mw mm, ix_use w = true := by
  intro w hw
  unfold ix_mw at hw
  rcases List.mem_append.mp hw with h | h
  · rcases List.mem_cons.mp h with rfl | h
    · rfl
    · cases List.mem_singleton.mp h; rfl
  · cases hc : mm.2.2.2.2.2.1 <;> rw [hc] at h
    · simp only [cond_false] at h
      split at h
      · cases List.mem_singleton.mp h; rfl
      · rcases List.mem_cons.mp h with rfl | h
        · rfl
        · cases List.mem_singleton.mp h; rfl
    · cases List.mem_singleton.mp h; rfl
theorem ix_Gd_of {mm : ix_M} (ps : List Nat) (h1 : mm.2.2.2.2.2.2.all (fun e => decide (decode mm.2.1 e.1 = .ok (e.2.1, e.2.2.1))) = true) (h2 : mm.2.2.2.2.2.2.all (ix_okb mm) = true) (h3 : mm.2.2.2.2.2.2.flatMap (ix_need mm.1.cls) = ps.filterMap (fun i => lw_tbl[i]?)) (h4 : ix_nmb mm = true) : ix_Gd mm := by
  refine ⟨fun e he => ⟨of_decide_eq_true (List.all_eq_true.mp h1 e he), List.all_eq_true.mp h2 e he, fun w hw => ?_⟩, h4⟩
  exact ix_mem_p ps h3 (fun w hw => by obtain ⟨e, -, hw⟩ := List.mem_flatMap.mp hw; exact ix_need_use _ e w hw) w (List.mem_flatMap.mpr ⟨e, he, hw⟩)
end
section
/-! the interpreter's steps are the machine's -/
section Snd
variable {base : Nat} {xa : Nat → Nat} {cI cB cR : ClassId} {D : va_G} {L : Nat} {xs : Nat → Int32}
variable {p : Program} {l : Launch} {e : Env} {R : Room} {s : State} {m : MethodId} {args : Array Value} {below : List Frame} {meth : Method} {c : Code} {Q : State → Prop}
/-- the locals -/
def ix_Lo (base : Nat) (xa : Nat → Nat) (nL : Nat) (ls : ix_L) (la : Array Slot) : Prop := la.size = nL ∧ ls.length ≤ nL ∧ lv_wf la ∧ ∀ (i : Nat) (v : Value), ls[i]? = some (some v) → la[i]? = some (.val (ix_v base xa v))
def ix_lv (base : Nat) (xa : Nat → Nat) (ls : ix_L) : List (Nat × Value) := (List.range ls.length).filterMap fun i => match ls[i]? with
  | some (some v) => some (i, ix_v base xa v)
  | _ => none
theorem ix_lv_mem {ls : ix_L} {i : Nat} {w : Value} : (i, w) ∈ ix_lv base xa ls ↔ ∃ v, ls[i]? = some (some v) ∧ w = ix_v base xa v := by
  unfold ix_lv
  rw [List.mem_filterMap]
  constructor
  · rintro ⟨j, hj, h⟩
    split at h
    · rename_i v hv
      cases h
      exact ⟨v, hv, rfl⟩
    · cases h
  · rintro ⟨v, hv, rfl⟩
    have hl : i < ls.length := (List.getElem?_eq_some_iff.mp hv).1
    exact ⟨i, List.mem_range.mpr hl, by rw [hv]⟩
theorem ix_Lo.has {nL : Nat} {ls : ix_L} {la : Array Slot} (h : ix_Lo base xa nL ls la) : lv_has la nL (ix_lv base xa ls) := by
  refine ⟨h.1, h.2.2.1, fun q hq => ?_⟩
  obtain ⟨i, w⟩ := q
  obtain ⟨v, h1, rfl⟩ := ix_lv_mem.mp hq
  exact h.2.2.2 i v h1
theorem ix_Lo.get {nL : Nat} {ls : ix_L} {la : Array Slot} (h : ix_Lo base xa nL ls la) {i : Nat} {v : Value} (hi : ix_n ls i = some (some v)) : la[i]? = some (.val (ix_v base xa v)) := h.2.2.2 i v (by rw [← ix_n_eq]; exact hi)
theorem ix_Lo.stored {nL : Nat} {ls : ix_L} {la : Array Slot} (h : ix_Lo base xa nL ls la) {i : Nat} {v : Value} {la' : Array Slot} (h' : lv_has la' nL ((i, ix_v base xa v) :: (ix_lv base xa ls).filter (fun q => !(q.1 == i) && !(q.1 + 1 == i && q.2.category == 2)))) : ix_Lo base xa nL (ls.set i (some v)) la' := by
  refine ⟨h'.1, by rw [List.length_set]; exact h.2.1, h'.2.1, fun j w hj => ?_⟩
  rw [List.getElem?_set] at hj
  by_cases hij : i = j
  · subst hij
    rw [if_pos rfl] at hj
    split at hj
    · cases hj
      exact h'.2.2 (i, ix_v base xa v) List.mem_cons_self
    · cases hj
  · rw [if_neg hij] at hj
    refine h'.2.2 (j, ix_v base xa w) (List.mem_cons_of_mem _ (List.mem_filter.mpr ⟨ix_lv_mem.mpr ⟨w, hj, rfl⟩, ?_⟩))
    have h1 : ¬ j = i := fun q => hij q.symm
    simp [h1, ix_v_cat]
theorem ix_Lo.mask {nL : Nat} {la : Array Slot} {ls : ix_L} (h : ix_Lo base xa nL ls la) (bs : List Bool) : ix_Lo base xa nL (ix_mask bs ls) la := by
  have key : ∀ (bs : List Bool) (ls : ix_L), (ix_mask bs ls).length ≤ ls.length ∧ ∀ (i : Nat) (v : Value), (ix_mask bs ls)[i]? = some (some v) → ls[i]? = some (some v) := by
    intro bs
    induction bs with
    | nil => intro ls; exact ⟨by simp [ix_mask], fun i v h => by simp [ix_mask] at h⟩
    | cons b bs ih =>
      intro ls
      cases ls with
      | nil => exact ⟨by simp [ix_mask], fun i v h => by simp [ix_mask] at h⟩
      | cons x ls =>
        refine ⟨by simp only [ix_mask, List.length_cons]; exact Nat.succ_le_succ (ih ls).1, fun i v h => ?_⟩
        cases i with
        | zero =>
          cases b with
          | false => simp [ix_mask] at h
          | true => simpa [ix_mask] using h
        | succ i =>
          simp only [ix_mask, List.getElem?_cons_succ] at h ⊢
          exact (ih ls).2 i v h
  exact ⟨h.1, Nat.le_trans (key bs ls).1 h.2.1, h.2.2.1, fun i v hi => h.2.2.2 i v ((key bs ls).2 i v hi)⟩
/-- what holds of the frame's method and state -/
def ix_Cx (base : Nat) (xa : Nat → Nat) (cI cB cR : ClassId) (D : va_G) (L : Nat) (xs : Nat → Int32) (mm : ix_M) (r : Nat) (p : Program) (R : Room) (s : State) (m : MethodId) (args : Array Value) (meth : Method) (c : Code) : Prop :=
  p.tables.exec = Jvm.exec ∧ c.code = mm.2.1 ∧ meth.sig.returnType = mm.2.2.2.1 ∧ meth.locks = false ∧ c.maxLocals = mm.2.2.1 ∧ s.vm.findClass mm.1.cls = some m.cls ∧ (∀ w ∈ ix_tb, w.before args s = true) ∧ (mm.1.name = "<init>" → meth.name = "<init>") ∧
  va_K D ix_cls (ix_tys cI cB cR) s ∧ ix_Ex xa (fun q => base ≤ q) L xs s s.heap ∧ r ≤ R.frames ∧ 40 * r ≤ R.locals ∧ 1 ≤ r
/-- the heap now, beside the interpreter's -/
def ix_Pt (base : Nat) (xa : Nat → Nat) (cI cB cR : ClassId) (D : va_G) (L : Nat) (xs : Nat → Int32) (s : State) (n0 z0 : Nat) (h : ix_H) (H : Heap) (locs : List Loc) (cells slots : Nat) : Prop :=
  ix_Rep base xa cI cB cR D h H ∧ ix_Xs L xs h.2 ∧ va_S (fun q => base ≤ q) s.heap H locs ∧ s.heap.size = base + n0 ∧ cells + n0 = h.1.length ∧ slots + z0 = ix_sz h.1
/-- from this frame the machine comes to Q -/
def ix_Wt (base : Nat) (xa : Nat → Nat) (cI cB cR : ClassId) (D : va_G) (L : Nat) (xs : Nat → Int32) (p : Program) (l : Launch) (e : Env) (R : Room) (s : State) (m : MethodId) (args : Array Value) (below : List Frame) (meth : Method) (c : Code) (Q : State → Prop) (n0 z0 nL : Nat) (pc : Nat) (ls : ix_L) (st : List Value) (h : ix_H) : Prop :=
  ∀ (la : Array Slot) (H : Heap) (locs : List Loc) (cells slots : Nat), ix_Lo base xa nL ls la → ix_Pt base xa cI cB cR D L xs s n0 z0 h H locs cells slots → W p l e R s m args below meth c H locs cells slots Q (F0 m pc la (st.map (ix_v base xa)))
/-- a return's instruction, value and stack -/
def ix_Rt (base : Nat) (xa : Nat → Nat) (mm : ix_M) (v : Value) (pc : Nat) (st : List Value) : Prop :=
  (∃ iv ty, v = .int iv ∧ st = [.int iv] ∧ decode mm.2.1 pc = .ok (.ireturn, 1) ∧ mm.2.2.2.1 = some ty ∧ narrow ty (.int iv) = .int iv) ∨
  (∃ a rt, v = .ref a ∧ st = [.ref (ix_ad base xa a)] ∧ decode mm.2.1 pc = .ok (.areturn, 1) ∧ mm.2.2.2.1 = some rt ∧ ((∃ n, rt = .object n) ∨ ∃ t, rt = .array t)) ∨
  (v = .null ∧ st = [] ∧ decode mm.2.1 pc = .ok (.return_, 1) ∧ mm.2.2.2.1 = none)
theorem ix_size {H : Heap} {locs : List Loc} {cells slots : Nat} {g : JFrame} (k : H.size ≤ s.heap.size + cells → W p l e R s m args below meth c H locs cells slots Q g) : W p l e R s m args below meth c H locs cells slots Q g :=
  fun T hT X => k (by rw [← hT]; exact X.heapSize) T hT X
theorem ix_Pt.size {n0 z0 : Nat} {h : ix_H} {H : Heap} {locs : List Loc} {cells slots : Nat} (P : ix_Pt base xa cI cB cR D L xs s n0 z0 h H locs cells slots) (hs : H.size ≤ s.heap.size + cells) : H.size = base + h.1.length := by
  obtain ⟨hR, -, hS, h0, h1, -⟩ := P
  have h2 : s.heap.size ≤ H.size := hS.1
  have h3 : base + h.1.length ≤ H.size := by
    by_cases hz : h.1.length = 0
    · omega
    · have := hR.lt (k := h.1.length - 1) (by omega)
      omega
  omega
theorem ix_Pt.own {n0 z0 : Nat} {h : ix_H} {H : Heap} {locs : List Loc} {cells slots : Nat} (P : ix_Pt base xa cI cB cR D L xs s n0 z0 h H locs cells slots) {r : Nat} {sh : ix_Sh} (hr : ix_n h.1 r = some sh) : r < 900 ∧ ix_ad base xa r = base + r := by
  have h1 := ix_n_lt hr
  have h2 := P.1.2.1
  have h3 : r < 900 := by omega
  exact ⟨h3, ix_ad_own (by omega)⟩
/-- another heap in its place: an own cell's ints -/
theorem ix_Pt.row {n0 z0 : Nat} {h : ix_H} {H H1 : Heap} {locs locs1 : List Loc} {cells slots : Nat} (P : ix_Pt base xa cI cB cR D L xs s n0 z0 h H locs cells slots) {r : Nat} {sh : ix_Sh} (hr : ix_n h.1 r = some sh) (f : Nat → Int32)
    (hP : va_P D ix_cls ((ix_ws base xa cI cB cR h.2 0 h.1).set r (base + r, ix_ce base xa cI cB cR f sh)) H1) (hS : va_S (fun q => base ≤ q) s.heap H1 locs1) : ix_Pt base xa cI cB cR D L xs s n0 z0 (h.1, ix_row h.2 r f) H1 locs1 cells slots := by
  have h1 := (P.own hr).1
  rw [ix_ws_row f hr] at hP
  exact ⟨⟨hP, P.1.2⟩, P.2.1.row (by omega) f, hS, P.2.2.2.1, P.2.2.2.2.1, P.2.2.2.2.2⟩
/-- .. its references -/
theorem ix_Pt.shape {n0 z0 : Nat} {h : ix_H} {H H1 : Heap} {locs locs1 : List Loc} {cells slots : Nat} (P : ix_Pt base xa cI cB cR D L xs s n0 z0 h H locs cells slots) {r q n : Nat} {sl : List (Option (Option Nat))} (sl' : List (Option (Option Nat))) (hr : ix_n h.1 r = some (q, n, sl))
    (hP : va_P D ix_cls ((ix_ws base xa cI cB cR h.2 0 h.1).set r (base + r, ix_ce base xa cI cB cR (h.2 r) (q, n, sl'))) H1) (hS : va_S (fun q => base ≤ q) s.heap H1 locs1) : ix_Pt base xa cI cB cR D L xs s n0 z0 (h.1.set r (q, n, sl'), h.2) H1 locs1 cells slots := by
  rw [ix_ws_set _ (ix_n_lt hr)] at hP
  refine ⟨⟨hP, ?_, fun sh hsh => ?_⟩, P.2.1, hS, P.2.2.2.1, ?_, ?_⟩
  · show (h.1.set r _).length ≤ 900
    rw [List.length_set]
    exact P.1.2.1
  · rcases List.mem_or_eq_of_mem_set hsh with h1 | rfl
    · exact P.1.2.2 _ h1
    · rw [ix_n_eq] at hr
      exact P.1.2.2 (q, n, sl) (List.mem_of_getElem? hr)
  · show cells + n0 = (h.1.set r _).length
    rw [List.length_set]
    exact P.2.2.2.2.1
  · show slots + z0 = ix_sz (h.1.set r _)
    rw [ix_sz_set _ _ _ _ _ _ hr]
    exact P.2.2.2.2.2
end Snd
end
section
theorem ix_popI_s {st : List Value} {k : Int32 → List Value → ix_R} {x : Value × ix_H} (h : ix_popI st k = some x) : ∃ y r, st = .int y :: r ∧ k y r = some x := by
  rcases st with _ | ⟨v, r⟩
  · cases h
  · cases v <;> first | exact ⟨_, _, rfl, h⟩ | cases h
theorem ix_popR_s {st : List Value} {k : Nat → List Value → ix_R} {x : Value × ix_H} (h : ix_popR st k = some x) : ∃ y r, st = .ref y :: r ∧ k y r = some x := by
  rcases st with _ | ⟨v, r⟩
  · cases h
  · cases v <;> first | exact ⟨_, _, rfl, h⟩ | cases h
theorem ix_bif_s {b : Bool} {f : ix_R} {x : Value × ix_H} (h : (bif b then f else none) = some x) : b = true ∧ f = some x := by
  cases b
  · cases h
  · exact ⟨rfl, h⟩
theorem ix_if_s {c : Prop} [Decidable c] {f : ix_R} {x : Value × ix_H} (h : (if c then f else none) = some x) : c ∧ f = some x := by
  split at h
  · rename_i hc; exact ⟨hc, h⟩
  · cases h
theorem ix_beq {a b : Nat} (h : Nat.beq a b = true) : a = b := Nat.eq_of_beq_eq_true h
theorem ix_sh_s {h : ix_H} {r : Nat} {sh : ix_Sh} (hs : ix_sh h r = some sh) : (r < 1000 ∧ ix_n h.1 r = some sh) ∨ ∃ i, r = 1000 + i ∧ ix_n (ix_xs h.2) i = some sh := by
  unfold ix_sh at hs
  cases hb : Nat.blt r 1000 with
  | true =>
    rw [hb] at hs
    exact Or.inl ⟨Nat.le_of_ble_eq_true hb, hs⟩
  | false =>
    rw [hb] at hs
    have : ¬ r < 1000 := fun q => by rw [show Nat.blt r 1000 = true from Nat.ble_eq_true_of_le q] at hb; cases hb
    simp only [cond_false] at hs
    exact Or.inr ⟨r - 1000, by omega, hs⟩
theorem ix_own_s {h : ix_H} {r k : Nat} {f : Nat → ix_R} {x : Value × ix_H} (hx : ix_own h r k f = some x) : ∃ n sl, ix_n h.1 r = some (k, n, sl) ∧ f n = some x := by
  unfold ix_own at hx
  rcases hq : ix_n h.1 r with _ | ⟨q, n, sl⟩
  · rw [hq] at hx; cases hx
  · rw [hq] at hx
    obtain ⟨h1, h2⟩ := ix_bif_s hx
    cases ix_beq h1
    exact ⟨n, sl, rfl, h2⟩
theorem ix_arr_s {h : ix_H} {r k : Nat} {f : Nat → ix_R} {x : Value × ix_H} (hx : ix_arr h r k f = some x) : ∃ q n sl, ix_sh h r = some (q, n, sl) ∧ (q = k ∨ q = k + 10) ∧ f n = some x := by
  unfold ix_arr at hx
  rcases hq : ix_sh h r with _ | ⟨q, n, sl⟩
  · rw [hq] at hx; cases hx
  · rw [hq] at hx
    obtain ⟨h1, h2⟩ := ix_bif_s hx
    refine ⟨q, n, sl, rfl, ?_, h2⟩
    rcases Bool.or_eq_true_iff.mp h1 with h3 | h3
    · exact Or.inl (ix_beq h3)
    · exact Or.inr (ix_beq h3)
theorem ix_isA_s {h : ix_H} {r ci : Nat} (hx : ix_isA h r ci = true) : (∃ sl, ix_sh h r = some (0, ci, sl)) ∨ (ci = 99 ∧ ∃ n sl, ix_sh h r = some (14, n, sl)) := by
  unfold ix_isA at hx
  rcases hq : ix_sh h r with _ | ⟨q, n, sl⟩
  · rw [hq] at hx; cases hx
  · rw [hq] at hx
    rcases Bool.or_eq_true_iff.mp hx with h3 | h3
    · obtain ⟨h4, h5⟩ := Bool.and_eq_true_iff.mp h3
      cases ix_beq h4
      cases ix_beq h5
      exact Or.inl ⟨sl, rfl⟩
    · obtain ⟨h4, h5⟩ := Bool.and_eq_true_iff.mp h3
      cases ix_beq h4
      exact Or.inr ⟨ix_beq h5, n, sl, rfl⟩
theorem ix_get_s {h : ix_H} {r ci k : Nat} {f : Value → ix_R} {x : Value × ix_H} (hx : ix_get h r ci k f = some x) :
    (∃ sl, ix_sh h r = some (0, ci, sl) ∧ ((ix_n sl k = some none ∧ f (.int (h.2 r k)) = some x) ∨ ∃ a, ix_n sl k = some (some (some a)) ∧ f (.ref a) = some x)) ∨
    (ci = 99 ∧ ∃ n sl, ix_sh h r = some (14, n, sl) ∧ ((k = 0 ∧ f (.ref (1007 + n)) = some x) ∨ (k ≠ 0 ∧ f (.int 0) = some x))) := by
  unfold ix_get at hx
  rcases hq : ix_sh h r with _ | ⟨q, n, sl⟩
  · rw [hq] at hx; cases hx
  · rw [hq] at hx
    dsimp only at hx
    cases hb : (Nat.beq q 0 && Nat.beq n ci) with
    | true =>
      rw [hb] at hx
      obtain ⟨h4, h5⟩ := Bool.and_eq_true_iff.mp hb
      cases ix_beq h4
      cases ix_beq h5
      refine Or.inl ⟨sl, rfl, ?_⟩
      rcases hk : ix_n sl k with _ | _ | _ | a
      · rw [hk] at hx; cases hx
      · rw [hk] at hx; exact Or.inl ⟨rfl, hx⟩
      · rw [hk] at hx; cases hx
      · rw [hk] at hx; exact Or.inr ⟨a, rfl, hx⟩
    | false =>
      rw [hb] at hx
      obtain ⟨h1, h2⟩ := ix_bif_s hx
      obtain ⟨h4, h5⟩ := Bool.and_eq_true_iff.mp h1
      cases ix_beq h4
      refine Or.inr ⟨ix_beq h5, n, sl, rfl, ?_⟩
      cases k with
      | zero => exact Or.inl ⟨rfl, h2⟩
      | succ k => exact Or.inr ⟨Nat.succ_ne_zero k, h2⟩
theorem ix_put_s {h : ix_H} {r ci k b : Nat} {v : Value} {f : ix_H → ix_R} {x : Value × ix_H} (hx : ix_put h r ci k b v f = some x) : ∃ sl, ix_n h.1 r = some (0, ci, sl) ∧
    ((∃ y, v = .int y ∧ ix_n sl k = some none ∧ (b = 0 ∨ (b = 1 ∧ (y = 0 ∨ y = 1))) ∧ f (h.1, ix_up h.2 r k y) = some x) ∨ ∃ a o, v = .ref a ∧ b = 2 ∧ ix_n sl k = some (some o) ∧ f (h.1.set r (0, ci, sl.set k (some (some a))), h.2) = some x) := by
  unfold ix_put at hx
  rcases hq : ix_n h.1 r with _ | ⟨q, n, sl⟩
  · rw [hq] at hx; cases hx
  · rw [hq] at hx
    obtain ⟨h1, h2⟩ := ix_bif_s hx
    obtain ⟨h4, h5⟩ := Bool.and_eq_true_iff.mp h1
    cases ix_beq h4
    cases ix_beq h5
    refine ⟨sl, rfl, ?_⟩
    rcases hk : ix_n sl k with _ | _ | o <;> rw [hk] at h2 <;> rcases b with _ | _ | _ | b <;> cases v <;> first
      | (cases h2; done)
      | exact Or.inl ⟨_, rfl, rfl, Or.inl rfl, h2⟩
      | exact Or.inr ⟨_, _, rfl, rfl, rfl, h2⟩
      | (obtain ⟨hc, h3⟩ := ix_if_s h2
         exact Or.inl ⟨_, rfl, rfl, Or.inr ⟨rfl, hc⟩, h3⟩)
theorem ix_ch_s {i : Nat} {k : Nat → ix_R} {x : Value × ix_H} : ∀ (sl : List (Option (Option Nat))) (j : Nat), ix_ch sl j i k = some x → ∃ a, j ≤ i ∧ ix_n sl (i - j) = some (some (some a)) ∧ k a = some x
  | [], _, h => by cases h
  | none :: _, _, h => by cases h
  | some none :: _, _, h => by cases h
  | some (some a) :: l, j, h => by
    unfold ix_ch at h
    split at h
    · rename_i hc
      subst hc
      exact ⟨a, Nat.le_refl _, by simp [ix_n], h⟩
    · rename_i hc
      obtain ⟨b, h1, h2, h3⟩ := ix_ch_s l (j + 1) h
      refine ⟨b, by omega, ?_, h3⟩
      rw [show i - j = (i - (j + 1)) + 1 by omega]
      exact h2
theorem ix_sw_s {d x : Int} {k : Int → ix_R} {y : Value × ix_H} : ∀ (os : List Int) (j : Int), ix_sw os j d x k = some y → ((x < j ∨ j + os.length ≤ x) ∧ k d = some y) ∨ ∃ o, j ≤ x ∧ x < j + os.length ∧ os[(x - j).toNat]? = some o ∧ k o = some y
  | [], j, h => Or.inl ⟨by simp only [List.length_nil]; omega, h⟩
  | o :: os, j, h => by
    unfold ix_sw at h
    split at h
    · rename_i hc
      subst hc
      exact Or.inr ⟨o, by omega, by simp only [List.length_cons]; omega, by simp, h⟩
    · rename_i hc
      rcases ix_sw_s os (j + 1) h with ⟨h1, h2⟩ | ⟨o', h1, h2, h3, h4⟩
      · exact Or.inl ⟨by simp only [List.length_cons]; omega, h2⟩
      · refine Or.inr ⟨o', by omega, by simp only [List.length_cons]; omega, ?_, h4⟩
        rw [show (x - j).toNat = (x - (j + 1)).toNat + 1 by omega]
        exact h3
theorem ix_lk_s {d x : Int} {k : Int → ix_R} {y : Value × ix_H} : ∀ (os : List (Int × Int)), ix_lk os d x k = some y → k (Op.lookupswitch.offset os d x) = some y
  | [], h => h
  | o :: os, h => by
    unfold ix_lk at h
    rw [show o :: os = (o.1, o.2) :: os from rfl, Op.lookupswitch.offset_cons]
    split at h
    · rename_i hc
      rw [if_pos hc.symm]
      exact h
    · rename_i hc
      rw [if_neg (fun q => hc q.symm)]
      exact ix_lk_s os h
theorem ix_lk_in {d x : Int} : ∀ (os : List (Int × Int)), Op.lookupswitch.offset os d x = d ∨ ∃ o ∈ os, Op.lookupswitch.offset os d x = o.2
  | [] => Or.inl rfl
  | o :: os => by
    rw [show o :: os = (o.1, o.2) :: os from rfl, Op.lookupswitch.offset_cons]
    split
    · exact Or.inr ⟨o, List.mem_cons_self, rfl⟩
    · rcases ix_lk_in (d := d) (x := x) os with h | ⟨q, h1, h2⟩
      · exact Or.inl h
      · exact Or.inr ⟨q, List.mem_cons_of_mem _ h1, h2⟩
theorem ix_new_s {h : ix_H} {sh : ix_Sh} {k : Nat → ix_H → ix_R} {x : Value × ix_H} (hx : ix_new h sh k = some x) : h.1.length < 900 ∧ k h.1.length (h.1 ++ [sh], ix_row h.2 h.1.length (fun _ => 0)) = some x := by
  unfold ix_new at hx
  obtain ⟨h1, h2⟩ := ix_bif_s hx
  exact ⟨Nat.le_of_ble_eq_true h1, h2⟩
theorem ix_popN_s : ∀ (n : Nat) (acc st as st' : List Value), ix_popN n acc st = some (as, st') → ∃ ys, ys.length = n ∧ st = ys ++ st' ∧ as = ys.reverse ++ acc
  | 0, acc, st, as, st', h => by
    cases h
    exact ⟨[], rfl, rfl, rfl⟩
  | n + 1, acc, [], as, st', h => by cases h
  | n + 1, acc, v :: st, as, st', h => by
    obtain ⟨ys, h1, h2, h3⟩ := ix_popN_s n (v :: acc) st as st' h
    exact ⟨v :: ys, by simp [h1], by rw [h2]; rfl, by rw [h3]; simp⟩
theorem ix_call_s {cl : ix_CL} {nx : ix_NX} {ls : ix_L} {st : List Value} {h : ix_H} {a b c : Nat} {x : Value × ix_H} (hx : ix_call (ix_D0 cl) nx ls st h a b c = some x) : ∃ as st' y, as.length = b ∧ st = as.reverse ++ st' ∧ st'.length ≤ 8 ∧ cl a as h = some y ∧ nx ls (bif Nat.beq c 0 then st' else y.1 :: st') y.2 = some x := by
  unfold ix_call at hx
  rcases hq : ix_popN b [] st with _ | ⟨as, st'⟩
  · rw [hq] at hx; cases hx
  · rw [hq] at hx
    obtain ⟨h1, h2⟩ := ix_bif_s hx
    obtain ⟨ys, g1, g2, g3⟩ := ix_popN_s _ _ _ _ _ hq
    obtain ⟨y, h3, h4⟩ := Option.bind_eq_some_iff.mp h2
    rw [List.append_nil] at g3
    exact ⟨as, st', y, by rw [g3]; simp [g1], by rw [g3]; simp [g2], Nat.le_of_ble_eq_true h1, h3, h4⟩
theorem ix_recv_s {h : ix_H} {b d : Nat} {st : List Value} {k : ix_R} {x : Value × ix_H} (hx : ix_recv h b d st k = some x) : ∃ r, ix_n st (b - 1) = some (.ref r) ∧ ix_isA h r d = true ∧ k = some x := by
  unfold ix_recv at hx
  rcases hq : ix_n st (b - 1) with _ | v
  · rw [hq] at hx; cases hx
  · rw [hq] at hx
    cases v <;> first | (cases hx; done) | skip
    obtain ⟨h1, h2⟩ := ix_bif_s hx
    exact ⟨_, rfl, h1, h2⟩
theorem ix_nar_s {t : Nat} {y : Int32} {k : ix_R} {x : Value × ix_H} (hx : ix_nar t y k = some x) : k = some x ∧ (t = 0 ∨ (t = 1 ∧ (y = 0 ∨ y = 1)) ∨ (t = 2 ∧ y.toInt8.toInt32 = y) ∨ (3 ≤ t ∧ (y.toUInt32 % 65536).toInt32 = y)) := by
  rcases t with _ | _ | _ | t
  · exact ⟨hx, Or.inl rfl⟩
  · obtain ⟨hc, h3⟩ := ix_if_s hx
    exact ⟨h3, Or.inr (Or.inl ⟨rfl, hc⟩)⟩
  · obtain ⟨hc, h3⟩ := ix_if_s hx
    exact ⟨h3, Or.inr (Or.inr (Or.inl ⟨rfl, hc⟩))⟩
  · obtain ⟨hc, h3⟩ := ix_if_s hx
    exact ⟨h3, Or.inr (Or.inr (Or.inr ⟨by omega, hc⟩))⟩
theorem ix_nar_ok {t : Nat} {y : Int32} (h : t = 0 ∨ (t = 1 ∧ (y = 0 ∨ y = 1)) ∨ (t = 2 ∧ y.toInt8.toInt32 = y) ∨ (3 ≤ t ∧ (y.toUInt32 % 65536).toInt32 = y)) {ty : FieldType} (hty : (t = 0 ∧ ty = .int) ∨ (t = 1 ∧ ty = .boolean) ∨ (t = 2 ∧ ty = .byte) ∨ (t = 3 ∧ ty = .char)) : narrow ty (.int y) = .int y := by
  rcases hty with ⟨rfl, rfl⟩ | ⟨rfl, rfl⟩ | ⟨rfl, rfl⟩ | ⟨rfl, rfl⟩
  · rfl
  · rcases h with h | ⟨-, h⟩ | ⟨h, -⟩ | ⟨h, -⟩
    · cases h
    · rcases h with rfl | rfl <;> rfl
    · cases h
    · omega
  · rcases h with h | ⟨h, -⟩ | ⟨-, h⟩ | ⟨h, -⟩
    · cases h
    · cases h
    · rw [← h]; exact pk_nb y
    · omega
  · rcases h with h | ⟨h, -⟩ | ⟨h, -⟩ | ⟨-, h⟩
    · cases h
    · cases h
    · cases h
    · rw [← h]; exact pk_nc y
end
section
section Stp
variable {base : Nat} {xa : Nat → Nat} {cI cB cR : ClassId} {D : va_G} {L : Nat} {xs : Nat → Int32}
variable {p : Program} {l : Launch} {e : Env} {R : Room} {s : State} {m : MethodId} {args : Array Value} {below : List Frame} {meth : Method} {c : Code} {Q : State → Prop}
theorem ix_xs_11 {σ : ix_St} {i n : Nat} {sl : List (Option (Option Nat))} (h : ix_n (ix_xs σ) i = some (11, n, sl)) : (i = 0 ∧ n = (σ 999 0).toNatClampNeg) ∨ (i = 1 ∧ n = 120) := by
  rcases i with _ | _ | _ | _ | _ | _ | _ | _ | _ | _ | _ | _ | i
  · cases h; exact Or.inl ⟨rfl, rfl⟩
  · cases h; exact Or.inr ⟨rfl, rfl⟩
  all_goals cases h
theorem ix_xs_12 {σ : ix_St} {i n : Nat} {sl : List (Option (Option Nat))} (h : ix_n (ix_xs σ) i = some (12, n, sl)) : ∃ k, k < 5 ∧ i = 7 + k ∧ n = ix_lens.getD k 0 := by
  rcases i with _ | _ | _ | _ | _ | _ | _ | _ | _ | _ | _ | _ | i
  all_goals first | (cases h; done) | skip
  · cases h; exact ⟨0, by decide, rfl, rfl⟩
  · cases h; exact ⟨1, by decide, rfl, rfl⟩
  · cases h; exact ⟨2, by decide, rfl, rfl⟩
  · cases h; exact ⟨3, by decide, rfl, rfl⟩
  · cases h; exact ⟨4, by decide, rfl, rfl⟩
theorem ix_xs_14 {σ : ix_St} {i n : Nat} {sl : List (Option (Option Nat))} (h : ix_n (ix_xs σ) i = some (14, n, sl)) : n < 5 ∧ i = 2 + n := by
  rcases i with _ | _ | _ | _ | _ | _ | _ | _ | _ | _ | _ | _ | i
  all_goals first | (cases h; done) | skip
  all_goals (cases h; exact ⟨by decide, rfl⟩)
theorem ix_xs_lo {σ : ix_St} {i q n : Nat} {sl : List (Option (Option Nat))} (h : ix_n (ix_xs σ) i = some (q, n, sl)) : 4 ≤ q := by
  rcases i with _ | _ | _ | _ | _ | _ | _ | _ | _ | _ | _ | _ | i
  all_goals (cases h; try decide)
theorem ix_ad_x (i : Nat) : ix_ad base xa (1000 + i) = xa i := by
  unfold ix_ad
  rw [if_neg (by omega), Nat.add_sub_cancel_left]
theorem ix_mem_n {α : Type} {l : List α} {r : Nat} {x : α} (h : ix_n l r = some x) : x ∈ l := by
  rw [ix_n_eq] at h
  exact List.mem_of_getElem? h
/-- an array read, of an own cell or a given one -/
theorem ix_iald {mm : ix_M} {r0 n0 z0 pc : Nat} (C : ix_Cx base xa cI cB cR D L xs mm r0 p R s m args meth c) {h : ix_H} {H : Heap} {locs : List Loc} {cells slots : Nat} (P : ix_Pt base xa cI cB cR D L xs s n0 z0 h H locs cells slots) {r q n : Nat} {sl : List (Option (Option Nat))} (hs : ix_sh h r = some (q, n, sl)) (hq : q = 1 ∨ q = 1 + 10) {i : Int32} (hi : ¬ (i < 0 ∨ n ≤ i.toNatClampNeg)) {la : Array Slot} {rest : List Value} (hdg : decode mm.2.1 pc = .ok (.iaload, 1))
    (kk : W p l e R s m args below meth c H locs cells slots Q (F0 m (pc + 1) la (.int (h.2 r i.toNatClampNeg) :: rest))) : W p l e R s m args below meth c H locs cells slots Q (F0 m pc la (.int i :: .ref (ix_ad base xa r) :: rest)) := by
  obtain ⟨hx0, hb, hr, hlk, hml, hown, hts, hnm, hK, hE, -⟩ := C
  rcases ix_sh_s hs with ⟨h1, h2⟩ | ⟨i0, rfl, h2⟩
  · have h3 := P.1.2.2 _ (ix_mem_n h2)
    have h4 : q = 1 := by simp only at h3; omega
    subst h4
    rw [(P.own h2).2]
    exact va_iald hx0 hb hK P.1.1 r 0 (ix_at0 h2) rfl hi hdg kk
  · have h3 := ix_xs_lo h2
    have h4 : q = 11 := by omega
    subst h4
    rw [ix_ad_x]
    have hX := P.2.1
    have hlt : i.toNatClampNeg < n := Nat.not_le.mp fun q => hi (Or.inr q)
    rcases ix_xs_11 h2 with ⟨rfl, rfl⟩ | ⟨rfl, rfl⟩
    · have hLe : (h.2 999 0).toNatClampNeg = L := by rw [hX.2.1]; exact nI_clamp (Nat.lt_of_le_of_lt hX.1 (by decide))
      rw [hLe] at hi hlt
      refine va_ti hx0 hb hE.1 P.2.2.1 hi (v := .int (h.2 1000 i.toNatClampNeg)) ?_ hdg kk
      show Value.int (xs _) = _
      rw [hX.2.2.1 _ hlt]
    · refine va_ti hx0 hb hE.2.1 P.2.2.1 hi (v := .int (h.2 1001 i.toNatClampNeg)) ?_ hdg kk
      show Value.int _ = _
      rw [hX.2.2.2.1 _ hlt]
theorem ix_bald {mm : ix_M} {r0 n0 z0 pc : Nat} (C : ix_Cx base xa cI cB cR D L xs mm r0 p R s m args meth c) {h : ix_H} {H : Heap} {locs : List Loc} {cells slots : Nat} (P : ix_Pt base xa cI cB cR D L xs s n0 z0 h H locs cells slots) {r q n : Nat} {sl : List (Option (Option Nat))} (hs : ix_sh h r = some (q, n, sl)) (hq : q = 2 ∨ q = 2 + 10) {i : Int32} (hi : ¬ (i < 0 ∨ n ≤ i.toNatClampNeg)) {la : Array Slot} {rest : List Value} (hdg : decode mm.2.1 pc = .ok (.baload, 1))
    (kk : W p l e R s m args below meth c H locs cells slots Q (F0 m (pc + 1) la (.int (h.2 r i.toNatClampNeg) :: rest))) : W p l e R s m args below meth c H locs cells slots Q (F0 m pc la (.int i :: .ref (ix_ad base xa r) :: rest)) := by
  obtain ⟨hx0, hb, hr, hlk, hml, hown, hts, hnm, hK, hE, -⟩ := C
  rcases ix_sh_s hs with ⟨h1, h2⟩ | ⟨i0, rfl, h2⟩
  · have h3 := P.1.2.2 _ (ix_mem_n h2)
    have h4 : q = 2 := by simp only at h3; omega
    subst h4
    rw [(P.own h2).2]
    exact va_bald hx0 hb hK P.1.1 r 1 (ix_at0 h2) rfl hi hdg kk
  · have h3 := ix_xs_lo h2
    have h4 : q = 12 := by omega
    subst h4
    rw [ix_ad_x]
    have hX := P.2.1
    have hlt : i.toNatClampNeg < n := Nat.not_le.mp fun q => hi (Or.inr q)
    obtain ⟨k, hk, rfl, rfl⟩ := ix_xs_12 h2
    refine va_tb hx0 hb (hE.2.2.2.2.1.1 k hk).2.2.2 P.2.2.1 hi (v := .int (h.2 (1000 + (7 + k)) i.toNatClampNeg)) ?_ hdg kk
    show Value.int _ = _
    rw [show 1000 + (7 + k) = 1007 + k by omega, hX.2.2.2.2 k hk _ hlt]
theorem ix_alen {mm : ix_M} {r0 n0 z0 pc : Nat} (C : ix_Cx base xa cI cB cR D L xs mm r0 p R s m args meth c) {h : ix_H} {H : Heap} {locs : List Loc} {cells slots : Nat} (P : ix_Pt base xa cI cB cR D L xs s n0 z0 h H locs cells slots) {r q n : Nat} {sl : List (Option (Option Nat))} (hs : ix_sh h r = some (q, n, sl)) (hq : q = 1 ∨ q = 2 ∨ q = 11 ∨ q = 12) {la : Array Slot} {rest : List Value} (hdg : decode mm.2.1 pc = .ok (.arraylength, 1))
    (kk : W p l e R s m args below meth c H locs cells slots Q (F0 m (pc + 1) la (.int (Int32.ofNat n) :: rest))) : W p l e R s m args below meth c H locs cells slots Q (F0 m pc la (.ref (ix_ad base xa r) :: rest)) := by
  obtain ⟨hx0, hb, hr, hlk, hml, hown, hts, hnm, hK, hE, -⟩ := C
  rcases ix_sh_s hs with ⟨h1, h2⟩ | ⟨i0, rfl, h2⟩
  · have h3 := P.1.2.2 _ (ix_mem_n h2)
    rw [(P.own h2).2]
    have h4 : q = 1 ∨ q = 2 := by simp only at h3; omega
    rcases h4 with rfl | rfl
    · exact va_alen hx0 hb hK P.1.1 r 0 (ix_at0 h2) (ty := .int) rfl rfl hdg kk
    · exact va_alen hx0 hb hK P.1.1 r 1 (ix_at0 h2) (ty := .byte) rfl rfl hdg kk
  · have h3 := ix_xs_lo h2
    rw [ix_ad_x]
    have hX := P.2.1
    have h4 : q = 11 ∨ q = 12 := by omega
    rcases h4 with rfl | rfl
    · rcases ix_xs_11 h2 with ⟨rfl, rfl⟩ | ⟨rfl, rfl⟩
      · have hLe : (h.2 999 0).toNatClampNeg = L := by rw [hX.2.1]; exact nI_clamp (Nat.lt_of_le_of_lt hX.1 (by decide))
        rw [hLe] at kk
        exact va_tlen hx0 hb hE.1 P.2.2.1 rfl hdg kk
      · exact va_tlen hx0 hb hE.2.1 P.2.2.1 rfl hdg kk
    · obtain ⟨k, hk, rfl, rfl⟩ := ix_xs_12 h2
      exact va_tlen hx0 hb (hE.2.2.2.2.1.1 k hk).2.2.2 P.2.2.1 rfl hdg kk
/-- a field read -/
theorem ix_getf {mm : ix_M} {r0 n0 z0 pc idx ci k : Nat} (C : ix_Cx base xa cI cB cR D L xs mm r0 p R s m args meth c) {h : ix_H} {H : Heap} {locs : List Loc} {cells slots : Nat} (P : ix_Pt base xa cI cB cR D L xs s n0 z0 h H locs cells slots) {r : Nat} {x : Value × ix_H} {f : Value → ix_R} (hx : ix_get h r ci k f = some x)
    (hok : (ci = 99 ∧ k < 2) ∨ (ci < 12 ∧ k < (ix_kinds ci).length)) (hneed : ∀ w ∈ (bif Nat.beq ci 99 then (match k with
        | 0 => [.fieldLink mm.1.cls idx "java/lang/String" "value" "[B"]
        | _ => [.fieldLink mm.1.cls idx "java/lang/String" "coder" "B"]) else (match ix_n ix_cls ci with
        | some r => [.fieldLink mm.1.cls idx r.1 (r.2.1 k).2.1 (r.2.1 k).2.2.1]
        | none => []) : List Cond), w ∈ ix_tb) {la : Array Slot} {rest : List Value} (hdg : decode mm.2.1 pc = .ok (.getfield idx, 3))
    (kk : ∀ v, f v = some x → W p l e R s m args below meth c H locs cells slots Q (F0 m (pc + 3) la (ix_v base xa v :: rest))) : W p l e R s m args below meth c H locs cells slots Q (F0 m pc la (.ref (ix_ad base xa r) :: rest)) := by
  obtain ⟨hx0, hb, hr, hlk, hml, hown, hts, hnm, hK, hE, -⟩ := C
  rcases ix_get_s hx with ⟨sl, hs, hv⟩ | ⟨rfl, n, sl, hs, hv⟩
  · rcases ix_sh_s hs with ⟨h1, h2⟩ | ⟨i0, rfl, h2⟩
    · have hci : ci < 12 ∧ k < (ix_kinds ci).length := by
        rcases hok with ⟨rfl, -⟩ | h5
        · exfalso
          obtain ⟨q, hq, -⟩ := P.1.1 r _ (ix_at0 h2)
          exact absurd hq (by simp [ix_cls])
        · exact h5
      obtain ⟨rc, hrc⟩ : ∃ rc, ix_n ix_cls ci = some rc := by
        rw [ix_n_eq]
        exact ⟨_, List.getElem?_eq_getElem (show ci < ix_cls.length from hci.1)⟩
      have hO := ix_cls_ok ci rc hrc
      have hne : Nat.beq ci 99 = false := by
        cases hq : Nat.beq ci 99
        · rfl
        · have := ix_beq hq; omega
      rw [hne, hrc] at hneed
      have hkN : k < rc.2.2 := by rw [← hO.2.2.2.2.1]; exact hci.2
      rw [(P.own h2).2]
      obtain ⟨Cn, T, N⟩ := rc
      have hgo : ∀ v, ix_n sl k = some v → W p l e R s m args below meth c H locs cells slots Q (F0 m (pc + 3) la (ix_sv base xa (h.2 r) k v :: rest)) → W p l e R s m args below meth c H locs cells slots Q (F0 m pc la (.ref (base + r) :: rest)) := by
        intro v hv2 hW
        refine va_get (D := D) (ci := ci) (C := Cn) (T := T) (N := N) (ref := Cn) hx0 hb hts hO.1 hown hK P.1.1 r (ix_at0 h2) (by rw [← ix_n_eq]; exact hrc) k hkN (hts _ (hneed _ List.mem_cons_self)) (fun y hy => ?_) (v := ix_sv base xa (h.2 r) k v) ?_ hdg hW
        · rw [show (T k).1 = Cn from hO.2.2.2.2.2.1 k hkN] at hy
          exact hy
        · rw [ix_fl_get, ← ix_n_eq, hv2]
          simp
      rcases hv with ⟨h5, h6⟩ | ⟨a, h5, h6⟩
      · exact hgo none h5 (kk _ h6)
      · exact hgo (some (some a)) h5 (kk _ h6)
    · exact absurd (ix_xs_lo h2) (by decide)
  · rcases ix_sh_s hs with ⟨h1, h2⟩ | ⟨i0, rfl, h2⟩
    · have h9 : (14 : Nat) < 4 := P.1.2.2 _ (ix_mem_n h2)
      omega
    · obtain ⟨hn, rfl⟩ := ix_xs_14 h2
      rw [ix_ad_x]
      have hS5 := hE.2.2.2.2.1.1 n hn
      rcases hv with ⟨rfl, h6⟩ | ⟨h5, h6⟩
      · have hk6 := kk _ h6
        rw [show ix_v base xa (.ref (1007 + n)) = .ref (xa (7 + n)) from congrArg Value.ref (by rw [show 1007 + n = 1000 + (7 + n) by omega]; exact ix_ad_x _)] at hk6
        exact vk_getf hx0 hb hS5.2.2.1 P.2.2.1 hown (hts _ (hneed _ List.mem_cons_self)) (fun _ h => h) hdg hk6
      · obtain ⟨k', rfl⟩ : ∃ k', k = k' + 1 := ⟨k - 1, by omega⟩
        exact vk_getf hx0 hb hS5.2.1 P.2.2.1 hown (hts _ (hneed _ List.mem_cons_self)) (fun _ h => h) hdg (kk _ h6)
/-- a field write -/
theorem ix_putf {mm : ix_M} {r0 n0 z0 pc idx ci k b : Nat} (C : ix_Cx base xa cI cB cR D L xs mm r0 p R s m args meth c) {h : ix_H} {H : Heap} {locs : List Loc} {cells slots : Nat} (P : ix_Pt base xa cI cB cR D L xs s n0 z0 h H locs cells slots) {r : Nat} {v : Value} {x : Value × ix_H} {f : ix_H → ix_R} (hx : ix_put h r ci k b v f = some x)
    (hok : ci < 12 ∧ k < (ix_kinds ci).length ∧ ix_n (ix_kinds ci) k = some b) (hfin : ∀ rc, ix_n ix_cls ci = some rc → (rc.2.1 k).2.2.2 = false ∨ (mm.1.name = "<init>" ∧ rc.1 = mm.1.cls)) (hneed : ∀ rc, ix_n ix_cls ci = some rc → Cond.fieldLink mm.1.cls idx rc.1 (rc.2.1 k).2.1 (rc.2.1 k).2.2.1 ∈ ix_tb) {la : Array Slot} {rest : List Value} (hdg : decode mm.2.1 pc = .ok (.putfield idx, 3))
    (kk : ∀ h' H1 locs1, f h' = some x → ix_Pt base xa cI cB cR D L xs s n0 z0 h' H1 locs1 cells slots → W p l e R s m args below meth c H1 locs1 cells slots Q (F0 m (pc + 3) la rest)) : W p l e R s m args below meth c H locs cells slots Q (F0 m pc la (ix_v base xa v :: .ref (ix_ad base xa r) :: rest)) := by
  obtain ⟨hx0, hb, hr, hlk, hml, hown, hts, hnm, hK, hE, -⟩ := C
  obtain ⟨sl, h2, hv⟩ := ix_put_s hx
  obtain ⟨⟨Cn, T, N⟩, hrc⟩ : ∃ rc, ix_n ix_cls ci = some rc := by
    rw [ix_n_eq]
    exact ⟨_, List.getElem?_eq_getElem (show ci < ix_cls.length from hok.1)⟩
  have hO := ix_cls_ok ci _ hrc
  have hkN : k < N := by rw [← show (ix_kinds ci).length = N from hO.2.2.2.2.1]; exact hok.2.1
  rw [(P.own h2).2]
  have hD : va_D (fun q => base ≤ q) (ix_ws base xa cI cB cR h.2 0 h.1) := ix_D
  have hsame : ∀ y, s.fieldFound? (T k).1 (T k).2.1 (T k).2.2.1 = some y → s.fieldFound? Cn (T k).2.1 (T k).2.2.1 = some y := fun y hy => by
    rw [show (T k).1 = Cn from hO.2.2.2.2.2.1 k hkN] at hy
    exact hy
  have hrc' : ix_cls[ci]? = some (Cn, T, N) := by rw [← ix_n_eq]; exact hrc
  have go : ∀ (w : Value), narrow (ix_ty ci k) w = w → fits (ix_ty ci k) w = true → (∀ (H1 : Heap) (locs1 : List Loc), va_P D ix_cls ((ix_ws base xa cI cB cR h.2 0 h.1).set r (base + r, .inr (ci, (ix_fl base xa (h.2 r) 0 sl).set k w))) H1 → va_S (fun q => base ≤ q) s.heap H1 locs1 → W p l e R s m args below meth c H1 locs1 cells slots Q (F0 m (pc + 3) la rest)) → k < sl.length → W p l e R s m args below meth c H locs cells slots Q (F0 m pc la (w :: .ref (base + r) :: rest)) := by
    intro w hn hf hW hlen
    rcases hfin _ hrc with h7 | ⟨h7, h8⟩
    · exact va_put (D := D) (ci := ci) (v := w) (ty := ix_ty ci k) (C := Cn) (T := T) (N := N) (ref := Cn) hx0 hb hts hO.1 (ix_ty ci) hO.2.2.1 hO.2.2.2.1 hown hK P.1.1 hD P.2.2.1 r (ix_at0 h2) hrc' k hkN (hts _ (hneed _ hrc)) hsame h7 (hO.2.2.1 k hkN) hn hf (by rw [ix_fl_len]; exact hlen) hdg (fun H1 locs1 hP _ hS => hW H1 locs1 hP hS)
    · cases h9 : (T k).2.2.2 with
      | false => exact va_put (D := D) (ci := ci) (v := w) (ty := ix_ty ci k) (C := Cn) (T := T) (N := N) (ref := Cn) hx0 hb hts hO.1 (ix_ty ci) hO.2.2.1 hO.2.2.2.1 hown hK P.1.1 hD P.2.2.1 r (ix_at0 h2) hrc' k hkN (hts _ (hneed _ hrc)) hsame h9 (hO.2.2.1 k hkN) hn hf (by rw [ix_fl_len]; exact hlen) hdg (fun H1 locs1 hP _ hS => hW H1 locs1 hP hS)
      | true => exact va_putF (D := D) (ci := ci) (v := w) (ty := ix_ty ci k) (C := Cn) (T := T) (N := N) (ref := Cn) hx0 hb hts hO.1 (ix_ty ci) hO.2.2.1 hO.2.2.2.1 hown hK P.1.1 hD P.2.2.1 r (ix_at0 h2) hrc' k hkN (hts _ (hneed _ hrc)) hsame h9 (hnm h7) ((hO.2.2.2.2.2.1 k hkN).trans h8) (hO.2.2.1 k hkN) hn hf (by rw [ix_fl_len]; exact hlen) hdg (fun H1 locs1 hP _ hS => hW H1 locs1 hP hS)
  rcases hv with ⟨y, rfl, h3, h4, h5⟩ | ⟨a, o, rfl, rfl, h3, h5⟩
  · have hty : narrow (ix_ty ci k) (.int y) = .int y ∧ fits (ix_ty ci k) (.int y) = true := by
      rcases hO.2.2.2.2.2.2 k hkN with ⟨g1, g2⟩ | ⟨g1, g2⟩ | ⟨g1, g2⟩
      · rw [g2]; exact ⟨rfl, rfl⟩
      · rw [g2]
        have hb1 : b = 1 := Option.some.inj (hok.2.2.symm.trans g1)
        rcases h4 with h4 | ⟨-, h4⟩
        · omega
        · rcases h4 with rfl | rfl <;> exact ⟨rfl, rfl⟩
      · have hb1 : b = 2 := Option.some.inj (hok.2.2.symm.trans g1)
        rcases h4 with h4 | ⟨h4, -⟩ <;> omega
    refine go (.int y) hty.1 hty.2 (fun H1 locs1 hP hS => ?_) (ix_n_lt h3)
    rw [ix_fl_int y h3] at hP
    exact kk _ H1 locs1 h5 (P.row h2 (upd (h.2 r) k y) hP hS)
  · have hty : narrow (ix_ty ci k) (.ref (ix_ad base xa a)) = .ref (ix_ad base xa a) ∧ fits (ix_ty ci k) (.ref (ix_ad base xa a)) = true := by
      rcases hO.2.2.2.2.2.2 k hkN with ⟨g1, g2⟩ | ⟨g1, g2⟩ | ⟨g1, g2⟩
      · exact absurd (Option.some.inj (hok.2.2.symm.trans g1)) (by decide)
      · exact absurd (Option.some.inj (hok.2.2.symm.trans g1)) (by decide)
      · cases h9 : ix_ty ci k <;> rw [h9] at g2 <;> first | (cases g2; done) | exact ⟨rfl, rfl⟩
    refine go (.ref (ix_ad base xa a)) hty.1 hty.2 (fun H1 locs1 hP hS => ?_) (ix_n_lt h3)
    rw [ix_fl_ref (ix_n_lt h3)] at hP
    exact kk _ H1 locs1 h5 (P.shape _ h2 hP hS)
end Stp
end
section
section Stq
variable {base : Nat} {xa : Nat → Nat} {cI cB cR : ClassId} {D : va_G} {L : Nat} {xs : Nat → Int32}
variable {p : Program} {l : Launch} {e : Env} {R : Room} {s : State} {m : MethodId} {args : Array Value} {below : List Frame} {meth : Method} {c : Code} {Q : State → Prop}
theorem ix_cat_sum (st : List Value) : ((st.map (ix_v base xa)).map fun v => v.category).sum = st.length := by
  induction st with
  | nil => rfl
  | cons v st ih =>
    simp only [List.map_cons, List.sum_cons, ih, ix_v_cat, List.length_cons]
    omega
/-- a new own cell: where it lies -/
theorem ix_Pt.grown {n0 z0 : Nat} {h : ix_H} {H1 : Heap} {locs : List Loc} {cells slots q N : Nat} {H : Heap} {locs0 : List Loc} (P : ix_Pt base xa cI cB cR D L xs s n0 z0 h H locs0 cells slots) (hlen : h.1.length < 900) {sh : ix_Sh} (hsh : sh.1 < 4) (hN : (bif Nat.beq sh.1 0 then (ix_kinds sh.2.1).length else sh.2.1) = N)
    (hP : va_P D ix_cls (ix_ws base xa cI cB cR h.2 0 h.1 ++ [(q, ix_ce base xa cI cB cR (fun _ => 0) sh)]) H1) (hD : va_D (fun q => base ≤ q) (ix_ws base xa cI cB cR h.2 0 h.1 ++ [(q, ix_ce base xa cI cB cR (fun _ => 0) sh)])) (hS : va_S (fun q => base ≤ q) s.heap H1 locs) (hs : H1.size ≤ s.heap.size + (cells + 1)) :
    q = ix_ad base xa h.1.length ∧ ix_Pt base xa cI cB cR D L xs s n0 z0 (h.1 ++ [sh], ix_row h.2 h.1.length (fun _ => 0)) H1 locs (cells + 1) (slots + N) := by
  obtain ⟨hR, hX, -, h0, h1, h2⟩ := P
  have hq : (ix_ws base xa cI cB cR h.2 0 h.1 ++ [(q, ix_ce base xa cI cB cR (fun _ => 0) sh)])[h.1.length]? = some (q, ix_ce base xa cI cB cR (fun _ => 0) sh) := by
    rw [List.getElem?_append_right (by rw [ix_ws_len]; exact Nat.le_refl _), ix_ws_len, Nat.sub_self]
    rfl
  have hlt : q < H1.size := (hP _ _ hq).lt
  have hge : base ≤ q := hD.2 _ _ hq
  have hne : ∀ k, k < h.1.length → q ≠ base + k := by
    intro k hk hqk
    obtain ⟨sk, hsk⟩ : ∃ sk, h.1[k]? = some sk := ⟨h.1[k], by simp [hk]⟩
    have hkk : (ix_ws base xa cI cB cR h.2 0 h.1 ++ [(q, ix_ce base xa cI cB cR (fun _ => 0) sh)])[k]? = some (base + k, ix_ce base xa cI cB cR (h.2 k) sk) := by
      rw [List.getElem?_append_left (by rw [ix_ws_len]; exact hk)]
      exact ix_at0 (by rw [ix_n_eq]; exact hsk)
    have := hD.1 _ _ _ _ hq hkk hqk
    omega
  have hqe : q = base + h.1.length := by
    by_cases hz : q < base + h.1.length
    · exact absurd (show q = base + (q - base) by omega) (hne (q - base) (by omega))
    · omega
  refine ⟨by rw [ix_ad_own (by omega)]; exact hqe, ⟨?_, ?_, ?_⟩, hX.row (by omega) _, hS, h0, ?_, ?_⟩
  · show va_P D ix_cls (ix_ws base xa cI cB cR (ix_row h.2 h.1.length _) 0 (h.1 ++ [sh])) H1
    rw [ix_ws_new, ← hqe]
    exact hP
  · show (h.1 ++ [sh]).length ≤ 900
    rw [List.length_append, List.length_singleton]
    omega
  · intro x hx
    rcases List.mem_append.mp hx with h3 | h3
    · exact hR.2.2 x h3
    · rw [List.mem_singleton.mp h3]; exact hsh
  · show cells + 1 + n0 = (h.1 ++ [sh]).length
    rw [List.length_append, List.length_singleton]
    omega
  · show slots + N + z0 = ix_sz (h.1 ++ [sh])
    rw [ix_sz_app, hN]
    omega
theorem ix_tyI {cA : ClassId} {ty : FieldType} {k : Nat} {U : State} {tys : List (ClassId × FieldType)} {cK : ClassId} (hK : va_K D ix_cls (tys ++ [(cA, ty)]) U) (hk : tys[k]? = some (cK, ty)) (hp : ty = .int ∨ ty = .byte ∨ ∃ C, ty = .object C) : cA = cK := by
  have h1 := (hK.2 tys.length (cA, ty) (by simp)).2
  have h2 := (hK.2 k (cK, ty) (by rw [List.getElem?_append_left (List.getElem?_eq_some_iff.mp hk).1]; exact hk)).2
  rcases hp with rfl | rfl | ⟨C, rfl⟩
  · exact Option.some.inj (h1.symm.trans h2)
  · exact Option.some.inj (h1.symm.trans h2)
  · obtain ⟨_, _, -, -, -, h3⟩ := h1
    obtain ⟨_, _, -, -, -, h4⟩ := h2
    exact Option.some.inj (h3.symm.trans h4)
theorem ix_newo {mm : ix_M} {r0 n0 z0 pc idx ci : Nat} (C : ix_Cx base xa cI cB cR D L xs mm r0 p R s m args meth c) {h : ix_H} {H : Heap} {locs : List Loc} {cells slots : Nat} (P : ix_Pt base xa cI cB cR D L xs s n0 z0 h H locs cells slots) (hlen : h.1.length < 900) (hci : ci < 12) (hneed : ∀ rc, ix_n ix_cls ci = some rc → Cond.classLink mm.1.cls idx rc.1 ∈ ix_tb)
    (hrc : cells + 1 ≤ R.cells) (hrs : slots + (ix_kinds ci).length ≤ R.slots) {la : Array Slot} {rest : List Value} (hdg : decode mm.2.1 pc = .ok (.new idx, 3))
    (kk : ∀ H1 locs1, ix_Pt base xa cI cB cR D L xs s n0 z0 (h.1 ++ [(0, ci, ix_fs (ix_kinds ci))], ix_row h.2 h.1.length (fun _ => 0)) H1 locs1 (cells + 1) (slots + (ix_kinds ci).length) → W p l e R s m args below meth c H1 locs1 (cells + 1) (slots + (ix_kinds ci).length) Q (F0 m (pc + 3) la (.ref (ix_ad base xa h.1.length) :: rest))) : W p l e R s m args below meth c H locs cells slots Q (F0 m pc la rest) := by
  obtain ⟨hx0, hb, hr, hlk, hml, hown, hts, hnm, hK, hE, -⟩ := C
  obtain ⟨⟨Cn, T, N⟩, hrcl⟩ : ∃ rc, ix_n ix_cls ci = some rc := by
    rw [ix_n_eq]
    exact ⟨_, List.getElem?_eq_getElem (show ci < ix_cls.length from hci)⟩
  have hO := ix_cls_ok ci _ hrcl
  have hN : (ix_kinds ci).length = N := hO.2.2.2.2.1
  rw [hN] at hrs kk
  have hA : ∀ q, s.heap.size ≤ q → base ≤ q := fun q hq => by have := P.2.2.2.1; omega
  refine va_new (D := D) (ci := ci) (C := Cn) (T := T) (N := N) (A := fun q => base ≤ q) hx0 hb hts hO.1 (ix_ty ci) hO.2.2.1 hown (hts _ (hneed _ hrcl)) (hts _ (hO.2.1 _ List.mem_cons_self)) (hts _ (hO.2.1 _ (List.mem_cons_of_mem _ List.mem_cons_self))) hK P.1.1 ix_D P.2.2.1 hA (by rw [← ix_n_eq]; exact hrcl) (fs := ix_fl base xa (fun _ => 0) 0 (ix_fs (ix_kinds ci))) (fun j hj => ?_) hrc hrs hdg (fun q H1 hP hD hS => ?_)
  · have h1 := ix_fl_get (base := base) (xa := xa) (fun _ => 0) (ix_fs (ix_kinds ci)) 0 j
    have hjl : j < (ix_kinds ci).length := by rw [hN]; exact hj
    have h2 : (ix_fs (ix_kinds ci))[j]? = (ix_n (ix_kinds ci) j).map fun k => bif Nat.beq k 2 then some none else none := by
      unfold ix_fs
      rw [List.getElem?_map, ix_n_eq]
    unfold vp_V
    rw [List.getD_eq_getElem?_getD, h1, h2]
    rcases hO.2.2.2.2.2.2 j hj with ⟨g1, g2⟩ | ⟨g1, g2⟩ | ⟨g1, g2⟩
    · rw [g1, g2]; rfl
    · rw [g1, g2]; rfl
    · rw [g1]
      cases h9 : ix_ty ci j <;> rw [h9] at g2 <;> first | (cases g2; done) | rfl
  · refine ix_size fun hs => ?_
    obtain ⟨hq, hP'⟩ := P.grown (sh := (0, ci, ix_fs (ix_kinds ci))) (N := N) hlen (Nat.le_of_ble_eq_true rfl) (by exact hN) hP hD hS hs
    subst hq
    exact kk H1 locs hP'
theorem ix_newi {mm : ix_M} {r0 n0 z0 pc : Nat} (C : ix_Cx base xa cI cB cR D L xs mm r0 p R s m args meth c) {h : ix_H} {H : Heap} {locs : List Loc} {cells slots : Nat} (P : ix_Pt base xa cI cB cR D L xs s n0 z0 h H locs cells slots) (hlen : h.1.length < 900) {n : Int32} (hn : ¬ (n < 0 ∨ 5000 < n.toNatClampNeg)) {t : ArrayType} {kd : Nat} (ht : (t = .int ∧ kd = 1) ∨ (t = .byte ∧ kd = 2))
    (hrc : cells + 1 ≤ R.cells) (hrs : slots + n.toNatClampNeg ≤ R.slots) {la : Array Slot} {rest : List Value} (hdg : decode mm.2.1 pc = .ok (.newarray t, 2))
    (kk : ∀ H1 locs1, ix_Pt base xa cI cB cR D L xs s n0 z0 (h.1 ++ [(kd, n.toNatClampNeg, [])], ix_row h.2 h.1.length (fun _ => 0)) H1 locs1 (cells + 1) (slots + n.toNatClampNeg) → W p l e R s m args below meth c H1 locs1 (cells + 1) (slots + n.toNatClampNeg) Q (F0 m (pc + 2) la (.ref (ix_ad base xa h.1.length) :: rest))) : W p l e R s m args below meth c H locs cells slots Q (F0 m pc la (.int n :: rest)) := by
  obtain ⟨hx0, hb, hr, hlk, hml, hown, hts, hnm, hK, hE, -⟩ := C
  have hA : ∀ q, s.heap.size ≤ q → base ≤ q := fun q hq => by have := P.2.2.2.1; omega
  have hn1 : ¬ n < 0 := fun q => hn (Or.inl q)
  have hn2 : n.toNatClampNeg ≤ 5000 := Nat.not_lt.mp fun q => hn (Or.inr q)
  rcases ht with ⟨rfl, rfl⟩ | ⟨rfl, rfl⟩
  · refine va_newa (D := D) (A := fun q => base ≤ q) (ty := .int) hx0 hb (hts _ (ix_glob _ (by simp [newarray.typeOf]))) rfl hK P.1.1 ix_D P.2.2.1 hA (N' := n.toNatClampNeg) (a0 := (n.toNatClampNeg, .inl (fun _ => 0))) (fun cA => rfl) hn1 rfl (by simp only [componentBytes]; omega) hrc hrs hdg (fun q cA H1 hK' hP hD hS => ?_)
    have hc := ix_tyI (k := 0) (cK := cI) hK' rfl (Or.inl rfl)
    subst hc
    refine ix_size fun hs => ?_
    obtain ⟨hq, hP'⟩ := P.grown (sh := (1, n.toNatClampNeg, [])) (N := n.toNatClampNeg) hlen (Nat.le_of_ble_eq_true rfl) rfl hP hD hS hs
    subst hq
    exact kk H1 locs hP'
  · refine va_newa (D := D) (A := fun q => base ≤ q) (ty := .byte) hx0 hb (hts _ (ix_glob _ (by simp [newarray.typeOf]))) rfl hK P.1.1 ix_D P.2.2.1 hA (N' := n.toNatClampNeg) (a0 := (n.toNatClampNeg, .inl (fun _ => 0))) (fun cA => rfl) hn1 rfl (by simp only [componentBytes]; omega) hrc hrs hdg (fun q cA H1 hK' hP hD hS => ?_)
    have hc := ix_tyI (k := 1) (cK := cB) hK' rfl (Or.inr (Or.inl rfl))
    subst hc
    refine ix_size fun hs => ?_
    obtain ⟨hq, hP'⟩ := P.grown (sh := (2, n.toNatClampNeg, [])) (N := n.toNatClampNeg) hlen (Nat.le_of_ble_eq_true rfl) rfl hP hD hS hs
    subst hq
    exact kk H1 locs hP'
theorem ix_rf_new (n : Nat) : ix_rf base xa (List.replicate n (some none)) = fun _ => none := by
  funext j
  unfold ix_rf
  rw [ix_n_eq, List.getElem?_replicate]
  by_cases h : j < n <;> simp [h]
theorem ix_newq {mm : ix_M} {r0 n0 z0 pc idx : Nat} (C : ix_Cx base xa cI cB cR D L xs mm r0 p R s m args meth c) {h : ix_H} {H : Heap} {locs : List Loc} {cells slots : Nat} (P : ix_Pt base xa cI cB cR D L xs s n0 z0 h H locs cells slots) (hlen : h.1.length < 900) {n : Int32} (hn : ¬ (n < 0 ∨ 5000 < n.toNatClampNeg)) (hneed : Cond.classLink mm.1.cls idx "VotedBank$River" ∈ ix_tb)
    (hrc : cells + 1 ≤ R.cells) (hrs : slots + n.toNatClampNeg ≤ R.slots) {la : Array Slot} {rest : List Value} (hdg : decode mm.2.1 pc = .ok (.anewarray idx, 3))
    (kk : ∀ H1 locs1, ix_Pt base xa cI cB cR D L xs s n0 z0 (h.1 ++ [(3, n.toNatClampNeg, List.replicate n.toNatClampNeg (some none))], ix_row h.2 h.1.length (fun _ => 0)) H1 locs1 (cells + 1) (slots + n.toNatClampNeg) → W p l e R s m args below meth c H1 locs1 (cells + 1) (slots + n.toNatClampNeg) Q (F0 m (pc + 3) la (.ref (ix_ad base xa h.1.length) :: rest))) : W p l e R s m args below meth c H locs cells slots Q (F0 m pc la (.int n :: rest)) := by
  obtain ⟨hx0, hb, hr, hlk, hml, hown, hts, hnm, hK, hE, -⟩ := C
  have hA : ∀ q, s.heap.size ≤ q → base ≤ q := fun q hq => by have := P.2.2.2.1; omega
  have hn1 : ¬ n < 0 := fun q => hn (Or.inl q)
  have hn2 : n.toNatClampNeg ≤ 5000 := Nat.not_lt.mp fun q => hn (Or.inr q)
  refine va_newq (D := D) (A := fun q => base ≤ q) (C := "VotedBank$River") hx0 hb hown (hts _ hneed) (va_AO.of (hts _ (ix_glob _ (by simp)))) hK P.1.1 ix_D P.2.2.1 hA (N' := n.toNatClampNeg) hn1 rfl (by omega) hrc hrs hdg (fun q cA H1 hK' hP hD hS => ?_)
  have hc := ix_tyI (k := 2) (cK := cR) hK' rfl (Or.inr (Or.inr ⟨_, rfl⟩))
  subst hc
  have hce : ix_ce base xa cI cB cA (fun _ => 0) (3, n.toNatClampNeg, List.replicate n.toNatClampNeg (some none)) = .inl (cA, n.toNatClampNeg, .inr (.inr (.inr (.inr (fun _ => none))))) := by
    show Sum.inl (cA, n.toNatClampNeg, Sum.inr (Sum.inr (Sum.inr (Sum.inr (ix_rf base xa _))))) = _
    rw [ix_rf_new]
  rw [← hce] at hP hD
  refine ix_size fun hs => ?_
  obtain ⟨hq, hP'⟩ := P.grown (sh := (3, n.toNatClampNeg, List.replicate n.toNatClampNeg (some none))) (N := n.toNatClampNeg) hlen (Nat.le_of_ble_eq_true rfl) rfl hP hD hS hs
  subst hq
  exact kk H1 locs hP'
/-- a copy of an own int array's ints into another's -/
theorem ix_copy {mm : ix_M} {r0 n0 z0 pc idx : Nat} (C : ix_Cx base xa cI cB cR D L xs mm r0 p R s m args meth c) {h : ix_H} {H : Heap} {locs : List Loc} {cells slots : Nat} (P : ix_Pt base xa cI cB cR D L xs s n0 z0 h H locs cells slots) {n dp sp : Int32} {q1 q0 : Nat} {f : ix_H → ix_R} {x : Value × ix_H} (hx : ix_cpy h n dp q1 sp q0 f = some x) (hneed : Cond.methodLink mm.1.cls idx arraycopyName ∈ ix_tb)
    {la : Array Slot} (hla : la.size = mm.2.2.1) {st : List Value} (hst : st.length ≤ 8) (hdg : decode mm.2.1 pc = .ok (.invokestatic idx, 3))
    (kk : ∀ h' H1 locs1, f h' = some x → ix_Pt base xa cI cB cR D L xs s n0 z0 h' H1 locs1 cells slots → W p l e R s m args below meth c H1 locs1 cells slots Q (F0 m (pc + 3) la (st.map (ix_v base xa)))) : W p l e R s m args below meth c H locs cells slots Q (F0 m pc la (.int n :: .int dp :: .ref (ix_ad base xa q1) :: .int sp :: .ref (ix_ad base xa q0) :: st.map (ix_v base xa))) := by
  obtain ⟨hx0, hb, hr, hlk, hml, hown, hts, hnm, hK, hE, hfr, hlo, h1r⟩ := C
  unfold ix_cpy at hx
  obtain ⟨na, sla, ha, hx⟩ := ix_own_s hx
  obtain ⟨nb, slb, hb2, hx⟩ := ix_own_s hx
  split at hx
  · cases hx
  · rename_i hc
    rw [(P.own ha).2, (P.own hb2).2]
    have g1 : ¬ sp < 0 := fun q => hc (Or.inl q)
    have g2 : ¬ dp < 0 := fun q => hc (Or.inr (Or.inl q))
    have g3 : ¬ n < 0 := fun q => hc (Or.inr (Or.inr (Or.inl q)))
    have g4 : sp.toNatClampNeg + n.toNatClampNeg ≤ na := Nat.not_lt.mp fun q => hc (Or.inr (Or.inr (Or.inr (Or.inl q))))
    have g5 : dp.toNatClampNeg + n.toNatClampNeg ≤ nb := Nat.not_lt.mp fun q => hc (Or.inr (Or.inr (Or.inr (Or.inr q))))
    refine va_copyi (D := D) (A := fun q => base ≤ q) (ty := .int) hx0 hb (hml.trans hla.symm) hown (hts _ hneed) (hts _ (ix_glob _ (by simp))) (hts _ (ix_glob _ (by simp))) (hts _ (ix_glob _ (by simp))) hK P.1.1 ix_D P.2.2.1 q0 q1 0 0 (ix_at0 ha) (ix_at0 hb2) rfl rfl rfl g1 g2 g3 g4 g5 (fun _ _ => rfl) (by omega) ?_ hdg (fun H1 locs1 hP _ hS => ?_)
    · rw [ix_cat_sum]
      have : nativeFrameWords "java/lang/System" "arraycopy" 5 = 7 := by decide
      omega
    · exact kk _ H1 locs1 hx (P.row hb2 _ hP hS)
end Stq
end
section
section Cll
variable {base : Nat} {xa : Nat → Nat} {cI cB cR : ClassId} {D : va_G} {L : Nat} {xs : Nat → Int32}
variable {p : Program} {l : Launch} {e : Env} {R : Room} {s : State} {m : MethodId} {args : Array Value} {below : List Frame} {meth : Method} {c : Code} {Q : State → Prop}
/-- a method's words: its code, and all the tables' -/
def ix_tg : List Cond := lw_tbl.filter goodWord
def ix_wd (mm : ix_M) : List Cond := .code mm.1 mm.2.1 mm.2.2.1 mm.2.2.2.1 :: ix_tg
/-- .. the others, by its start -/
def ix_Nw (U : State) : Prop := ∀ w ∈ ix_tb, ix_bad w = true → w.before #[] U = true
theorem ix_bad_warm {w : Cond} (hb : ix_bad w = true) {A A' : Array Value} {u U : State} (hW : u.WarmedH U.vm) (h : w.before A u = true) : w.before A' U = true := by
  cases w <;> first | (cases hb; done) | skip
  case methodLinkNest a i x hh => exact va_Nw.use rfl ((va_Nw.of rfl h).warmM hW)
  case fieldLinkNest a i r n d hh => exact va_Nw.use rfl ((va_Nw.of rfl h).warmF hW)
  case arrayOver t =>
    cases t <;> first | (cases hb; done) | exact va_AO.use ((va_AO.of h).moved hW.alike)
theorem ix_bad_same {w : Cond} (hb : ix_bad w = true) {A A' : Array Value} {u U : State} (hv : U.vm = u.vm) (h : w.before A u = true) : w.before A' U = true := by
  cases w <;> first | (cases hb; done) | skip
  case methodLinkNest a i x hh => exact va_tabs rfl hv.symm h
  case fieldLinkNest a i r n d hh => exact va_tabs rfl hv.symm h
  case arrayOver t =>
    cases t <;> first | (cases hb; done) | exact va_AO.use ((va_AO.of h).moved (by rw [hv]; exact Vm.Alike.refl _))
def ix_rm (r mc ms : Nat) : Room := { frames := r, cells := mc, slots := ms, locals := 40 * r }
def ix_rv (base : Nat) (xa : Nat → Nat) (mm : ix_M) (v : Value) : Option Value := match mm.2.2.2.1 with
  | none => none
  | some _ => some (ix_v base xa v)
/-- how a method begins, how it ends -/
def ix_Pc (base : Nat) (xa : Nat → Nat) (cI cB cR : ClassId) (D : va_G) (L : Nat) (xs : Nat → Int32) (as : List Value) (h : ix_H) : Array Value → State → Prop := va_Pc (as.map (ix_v base xa)) (fun U => ix_Rep base xa cI cB cR D h U.heap ∧ ix_Xs L xs h.2 ∧ va_K D ix_cls (ix_tys cI cB cR) U ∧ ix_Ex xa (fun q => base ≤ q) L xs U U.heap ∧ U.heap.size = base + h.1.length ∧ ix_Nw U)
def ix_Qc (base : Nat) (xa : Nat → Nat) (cI cB cR : ClassId) (D : va_G) (L : Nat) (xs : Nat → Int32) (mm : ix_M) (y : Value × ix_H) : Array Value → State → Outcome → State → Prop := fun _ st oc t => oc = .returned (ix_rv base xa mm y.1) ∧ ix_Rep base xa cI cB cR D y.2 t.heap ∧ ix_Xs L xs y.2.2 ∧ va_F (fun q => base ≤ q) st t
/-- a method's contract for one start and one end -/
def ix_Mt (base : Nat) (xa : Nat → Nat) (cI cB cR : ClassId) (D : va_G) (l : Launch) (L : Nat) (xs : Nat → Int32) (mm : ix_M) (r : Nat) (as : List Value) (h : ix_H) (y : Value × ix_H) : Prop :=
  Met l mm.1 (ix_wd mm) (ix_rm r (y.2.1.length - h.1.length) (ix_sz y.2.1 - ix_sz h.1)) (ix_Pc base xa cI cB cR D L xs as h) (ix_Qc base xa cI cB cR D L xs mm y) (y.2.1.length - h.1.length) (ix_sz y.2.1 - ix_sz h.1) (fun q => base ≤ q)
theorem ix_Pc_blind (as : List Value) (h : ix_H) : FrameBlind (ix_Pc base xa cI cB cR D L xs as h) := by
  intro a U g mk q
  obtain ⟨q0, q1, q2, q3, q4, q5, q6⟩ := q
  exact ⟨q0, q1, q2, va_K.moved (u := U) (U := U.calling g mk a) (Vm.Alike.refl U.vm) q3, ix_Ex.same (u := U) (U := U.calling g mk a) rfl q4, q5, fun w hw hb => ix_bad_same (u := U) hb rfl (q6 w hw hb)⟩
theorem ix_Pc_of {mm0 : ix_M} {r0 n0 z0 : Nat} (C : ix_Cx base xa cI cB cR D L xs mm0 r0 p R s m args meth c) {h : ix_H} {H : Heap} {locs : List Loc} {cells slots : Nat} (P : ix_Pt base xa cI cB cR D L xs s n0 z0 h H locs cells slots) (hs : H.size ≤ s.heap.size + cells) (as : List Value) : ∀ U : State, U.heap = H → s.WarmedH U.vm → ix_Pc base xa cI cB cR D L xs as h (as.map (ix_v base xa)).toArray U := by
  intro U hU hW
  obtain ⟨hx0, hb, hr, hlk, hml, hown, hts, hnm, hK, hE, -⟩ := C
  refine ⟨rfl, by rw [hU]; exact P.1, P.2.1, va_K.moved hW.alike hK, ?_, by rw [hU]; exact P.size hs, fun w hw hb => ix_bad_warm hb hW (hts w hw)⟩
  rw [hU]
  exact (hE.kept (fun a h1 h2 => P.2.2.1.2.1 a h1 h2)).moved hW
theorem ix_good_tbl {mm : ix_M} (hw : ∀ w ∈ ix_mw mm, w ∈ ix_tb) : GoodIn ix_tb (ix_wd mm) := by
  intro w h
  rcases List.mem_cons.mp h with rfl | h
  · exact ⟨hw _ (by simp [ix_mw]), Or.inl rfl⟩
  · obtain ⟨h1, h2⟩ := List.mem_filter.mp h
    exact ⟨List.mem_filter.mpr ⟨h1, by unfold ix_use; rw [h2]; rfl⟩, good_of_word h2⟩
/-- what comes behind a call -/
theorem ix_callG {mm0 mm : ix_M} {r0 n0 z0 pc : Nat} (C : ix_Cx base xa cI cB cR D L xs mm0 r0 p R s m args meth c) {h : ix_H} {H : Heap} {locs : List Loc} {cells slots : Nat} (P : ix_Pt base xa cI cB cR D L xs s n0 z0 h H locs cells slots) {y : Value × ix_H} (hPy : ix_P h.1 y.2) {la : Array Slot} {st0 rest : List Value} {a : Array Value}
    (hr : va_Run p l e R s m args below meth c H locs cells slots (y.2.1.length - h.1.length) (ix_sz y.2.1 - ix_sz h.1) (F0 m pc la st0) rest (ix_Qc base xa cI cB cR D L xs mm y a) (fun q => base ≤ q))
    (kk : ∀ H1 locs1 cells1 slots1, ix_Pt base xa cI cB cR D L xs s n0 z0 y.2 H1 locs1 cells1 slots1 → W p l e R s m args below meth c H1 locs1 cells1 slots1 Q (F0 m (pc + 3) la ((ix_rv base xa mm y.1).toList ++ rest))) : W p l e R s m args below meth c H locs cells slots Q (F0 m pc la st0) := by
  intro T hT X
  obtain ⟨v, st₀, t, T', L2, h0, X', hL, e1, e2, ⟨hv, hR, hX, hz, hk⟩, st⟩ := hr T hT X
  cases hv
  rw [h0] at hz hk
  obtain ⟨-, -, hS, g0, g1, g2⟩ := P
  obtain ⟨t2, a1, b1⟩ := kk T'.heap (locs ++ L2) _ _ ⟨by rw [e1]; exact hR, hX, ⟨Nat.le_trans hS.1 (by rw [e1]; exact hz), fun q h1 h2 => by rw [e1, hk q (Nat.lt_of_lt_of_le h1 hS.1) h2]; exact hS.2.1 q h1 h2, fun q hq => by
      rcases List.mem_append.mp hq with h | h
      · exact hS.2.2 q h
      · exact hL q h⟩, g0, by have := hPy.1; omega, by have := hPy.2; omega⟩ T' rfl X'
  exact ⟨t2, st t2 a1, b1⟩
end Cll
end
section
section Inv
variable {base : Nat} {xa : Nat → Nat} {cI cB cR : ClassId} {D : va_G} {L : Nat} {xs : Nat → Int32}
variable {p : Program} {l : Launch} {e : Env} {R : Room} {s : State} {m : MethodId} {args : Array Value} {below : List Frame} {meth : Method} {c : Code} {Q : State → Prop}
theorem ix_invS {mm0 mm : ix_M} {r0 rj n0 z0 pc idx : Nat} {v : Int32} (C : ix_Cx base xa cI cB cR D L xs mm0 r0 p R s m args meth c) {h : ix_H} {H : Heap} {locs : List Loc} {cells slots : Nat} (P : ix_Pt base xa cI cB cR D L xs s n0 z0 h H locs cells slots) {y : Value × ix_H} (hPy : ix_P h.1 y.2) {as st' : List Value} (hMt : ix_Mt base xa cI cB cR D l L xs mm rj as h y) (hrj : rj < r0)
    (hcs : y.2.1.length ≤ n0 + R.cells) (hss : ix_sz y.2.1 ≤ z0 + R.slots) (hGd : ix_Gd mm) (hmw : ∀ w ∈ ix_mw mm, w ∈ ix_tb) (hst : mm.2.2.2.2.2.1 = true) (hlen : as.length = mm.2.2.2.2.1) (hst8 : st'.length ≤ 8) (hneed : (if v = 1 then Cond.methodLinkNest mm0.1.cls idx mm.1 "VotedBank" else Cond.methodLink mm0.1.cls idx mm.1) ∈ ix_tb) {la : Array Slot} (hla : la.size = mm0.2.2.1) (hdg : decode mm0.2.1 pc = .ok (.invokestatic idx, 3))
    (kk : ∀ H1 locs1 cells1 slots1, ix_Pt base xa cI cB cR D L xs s n0 z0 y.2 H1 locs1 cells1 slots1 → W p l e R s m args below meth c H1 locs1 cells1 slots1 Q (F0 m (pc + 3) la ((ix_rv base xa mm y.1).toList ++ st'.map (ix_v base xa)))) : W p l e R s m args below meth c H locs cells slots Q (F0 m pc la ((as.reverse ++ st').map (ix_v base xa))) := by
  refine ix_size fun hs => ?_
  have hC := C
  obtain ⟨hx0, hb, hr, hlk, hml, hown, hts, hnm, hK, hE, hfr, hlo, h1r⟩ := C
  have hnb := hGd.2
  simp only [ix_nmb, Bool.and_eq_true, decide_eq_true_eq] at hnb
  obtain ⟨-, hd1, hd2, hd3, hd4⟩ := hnb
  have hGI := ix_good_tbl hmw
  have hini : (Cond.initialized mm.1.cls).before args s = true := hts _ (hmw _ (by simp [ix_mw]))
  have hstat : (Cond.static mm.1).before args s = true := hts _ (hmw _ (by simp [ix_mw, hst]))
  have hroom : (ix_rm rj (y.2.1.length - h.1.length) (ix_sz y.2.1 - ix_sz h.1)).frames + 1 ≤ R.frames ∧ 8 + (mm.2.2.1 + 11) + (ix_rm rj (y.2.1.length - h.1.length) (ix_sz y.2.1 - ix_sz h.1)).locals ≤ R.locals := by
    show rj + 1 ≤ R.frames ∧ 8 + (mm.2.2.1 + 11) + 40 * rj ≤ R.locals
    omega
  have hf : cells + (y.2.1.length - h.1.length) ≤ R.cells ∧ slots + (ix_sz y.2.1 - ix_sz h.1) ≤ R.slots := by
    have a1 := hPy.1
    have a2 := hPy.2
    have a3 := P.2.2.2.2.1
    have a4 := P.2.2.2.2.2
    omega
  have hp : PreS s H (ix_Pc base xa cI cB cR D L xs as h) (as.map (ix_v base xa)) := ⟨ix_Pc_blind as h, ix_Pc_of hC P hs as⟩
  have hstk : (F0 m pc la ((as.reverse ++ st').map (ix_v base xa))).stack = (as.map (ix_v base xa)).reverse ++ st'.map (ix_v base xa) := by simp
  refine ix_callG hC P hPy (mm := mm) (a := (as.map (ix_v base xa)).toArray) (rest := st'.map (ix_v base xa)) ?_ kk
  by_cases hv : v = 1
  · rw [if_pos hv] at hneed
    exact va_runSN ⟨hx0, hb, hml, hown, hts⟩ hMt ⟨va_cnB _ hts hGI rfl rfl rfl (va_Nw.of rfl (hts _ hneed)) hini ⟨hd1, hd2, hd3⟩ hroom, hstat, trivial⟩ hp rfl (by rw [List.length_map]; exact hlen) hla hstk (lv_room (by rw [ix_cat_sum]; exact hst8)) hdg hf
  · rw [if_neg hv] at hneed
    exact va_runS ⟨hx0, hb, hml, hown, hts⟩ hMt ⟨callB_of _ hts hGI rfl rfl rfl hini (hts _ hneed) ⟨hd1, hd2, hd3⟩ hroom, hstat⟩ hp rfl (by rw [List.length_map]; exact hlen) hla hstk (lv_room (by rw [ix_cat_sum]; exact hst8)) hdg hf
theorem ix_invV {mm0 mm : ix_M} {r0 rj n0 z0 pc idx d rr : Nat} {v : Int32} (C : ix_Cx base xa cI cB cR D L xs mm0 r0 p R s m args meth c) {h : ix_H} {H : Heap} {locs : List Loc} {cells slots : Nat} (P : ix_Pt base xa cI cB cR D L xs s n0 z0 h H locs cells slots) {y : Value × ix_H} (hPy : ix_P h.1 y.2) {as st' : List Value} (hMt : ix_Mt base xa cI cB cR D l L xs mm rj (.ref rr :: as) h y) (hrj : rj < r0)
    (hcs : y.2.1.length ≤ n0 + R.cells) (hss : ix_sz y.2.1 ≤ z0 + R.slots) (hGd : ix_Gd mm) (hmw : ∀ w ∈ ix_mw mm, w ∈ ix_tb) (hst : mm.2.2.2.2.2.1 = false) (hni : mm.1.name ≠ "<init>") (hd : d = 99 ∨ d < 12) (hcd : ix_clsOf d = mm.1.cls) (hA : ix_isA h rr d = true) (hlen : as.length = mm.2.2.2.2.1) (hst8 : st'.length ≤ 8) (hneed : (if v = 1 then Cond.methodLinkNest mm0.1.cls idx mm.1 "VotedBank" else Cond.methodLink mm0.1.cls idx mm.1) ∈ ix_tb) {la : Array Slot} (hla : la.size = mm0.2.2.1) (hdg : decode mm0.2.1 pc = .ok (.invokevirtual idx, 3))
    (kk : ∀ H1 locs1 cells1 slots1, ix_Pt base xa cI cB cR D L xs s n0 z0 y.2 H1 locs1 cells1 slots1 → W p l e R s m args below meth c H1 locs1 cells1 slots1 Q (F0 m (pc + 3) la ((ix_rv base xa mm y.1).toList ++ st'.map (ix_v base xa)))) : W p l e R s m args below meth c H locs cells slots Q (F0 m pc la (((Value.ref rr :: as).reverse ++ st').map (ix_v base xa))) := by
  refine ix_size fun hs => ?_
  have hC := C
  obtain ⟨hx0, hb, hr, hlk, hml, hown, hts, hnm, hK, hE, hfr, hlo, h1r⟩ := C
  have hnb := hGd.2
  simp only [ix_nmb, Bool.and_eq_true, decide_eq_true_eq] at hnb
  obtain ⟨-, hd1, hd2, hd3, hd4⟩ := hnb
  have hGI := ix_good_tbl hmw
  have hini : (Cond.initialized mm.1.cls).before args s = true := hts _ (hmw _ (by simp [ix_mw]))
  have hinst : (Cond.instanceMethod mm.1).before args s = true := hts _ (hmw _ (by simp [ix_mw, hst, hni]))
  have hsel : (Cond.selects mm.1.cls mm.1 mm.1).before args s = true := hts _ (hmw _ (by simp [ix_mw, hst, hni]))
  have hroom : (ix_rm rj (y.2.1.length - h.1.length) (ix_sz y.2.1 - ix_sz h.1)).frames + 1 ≤ R.frames ∧ 8 + (mm.2.2.1 + 11) + (ix_rm rj (y.2.1.length - h.1.length) (ix_sz y.2.1 - ix_sz h.1)).locals ≤ R.locals := by
    show rj + 1 ≤ R.frames ∧ 8 + (mm.2.2.1 + 11) + 40 * rj ≤ R.locals
    omega
  have hf : cells + (y.2.1.length - h.1.length) ≤ R.cells ∧ slots + (ix_sz y.2.1 - ix_sz h.1) ≤ R.slots := by
    have a1 := hPy.1
    have a2 := hPy.2
    have a3 := P.2.2.2.2.1
    have a4 := P.2.2.2.2.2
    omega
  have hrecv : ∃ cellB : Cell, H[ix_ad base xa rr]? = some cellB ∧ cellB.vm.isStatics = false ∧ s.vm.findClass mm.1.cls = some cellB.cls := by
    rcases ix_isA_s hA with ⟨sl, hsh⟩ | ⟨rfl, n, sl, hsh⟩
    · rcases ix_sh_s hsh with ⟨h1, h2⟩ | ⟨i0, rfl, h2⟩
      · rw [(P.own h2).2, ← hcd]
        have hat := P.1.1 rr _ (ix_at0 h2)
        obtain ⟨q, hq, -⟩ := hat
        have hq2 : ix_n ix_cls d = some q := by rw [ix_n_eq]; exact hq
        have hne : ¬ d = 99 := by
          intro hz
          rw [hz] at hq
          exact absurd hq (by simp [ix_cls])
        have hcq : ix_clsOf d = q.1 := by
          unfold ix_clsOf
          rw [if_neg hne, hq2]
        rw [hcq]
        exact va_recv hK P.1.1 hq (ix_at0 h2)
      · exact absurd (ix_xs_lo h2) (by decide)
    · rcases ix_sh_s hsh with ⟨h1, h2⟩ | ⟨i0, rfl, h2⟩
      · have h9 : (14 : Nat) < 4 := P.1.2.2 _ (ix_mem_n h2)
        omega
      · obtain ⟨hn, rfl⟩ := ix_xs_14 h2
        rw [ix_ad_x, ← hcd]
        exact va_Orecv (hE.2.2.2.2.1.1 n hn).1 P.2.2.1
  have hp : PreV s H mm.1.cls (ix_ad base xa rr) (ix_Pc base xa cI cB cR D L xs (.ref rr :: as) h) (as.map (ix_v base xa)) := ⟨ix_Pc_blind _ h, hrecv, ix_Pc_of hC P hs (.ref rr :: as)⟩
  have hstk : (F0 m pc la (((Value.ref rr :: as).reverse ++ st').map (ix_v base xa))).stack = (as.map (ix_v base xa)).reverse ++ .ref (ix_ad base xa rr) :: st'.map (ix_v base xa) := by simp [ix_v]
  refine ix_callG hC P hPy (mm := mm) (a := (Value.ref (ix_ad base xa rr) :: as.map (ix_v base xa)).toArray) (rest := st'.map (ix_v base xa)) ?_ kk
  by_cases hv : v = 1
  · rw [if_pos hv] at hneed
    exact va_runVN ⟨hx0, hb, hml, hown, hts⟩ hMt ⟨va_cnB _ hts hGI rfl rfl rfl (va_Nw.of rfl (hts _ hneed)) hini ⟨hd1, hd2, hd3⟩ hroom, hinst, hsel⟩ hp rfl (by rw [List.length_map]; exact hlen) hla hstk (lv_room (by rw [ix_cat_sum]; exact hst8)) hdg hf
  · rw [if_neg hv] at hneed
    exact va_runV ⟨hx0, hb, hml, hown, hts⟩ hMt ⟨callB_of _ hts hGI rfl rfl rfl hini (hts _ hneed) ⟨hd1, hd2, hd3⟩ hroom, hinst, hsel⟩ hp rfl (by rw [List.length_map]; exact hlen) hla hstk (lv_room (by rw [ix_cat_sum]; exact hst8)) hdg hf
theorem ix_invI {mm0 mm : ix_M} {r0 rj n0 z0 pc idx rr : Nat} {v : Int32} (C : ix_Cx base xa cI cB cR D L xs mm0 r0 p R s m args meth c) {h : ix_H} {H : Heap} {locs : List Loc} {cells slots : Nat} (P : ix_Pt base xa cI cB cR D L xs s n0 z0 h H locs cells slots) {y : Value × ix_H} (hPy : ix_P h.1 y.2) {as st' : List Value} (hMt : ix_Mt base xa cI cB cR D l L xs mm rj (.ref rr :: as) h y) (hrj : rj < r0)
    (hcs : y.2.1.length ≤ n0 + R.cells) (hss : ix_sz y.2.1 ≤ z0 + R.slots) (hGd : ix_Gd mm) (hmw : ∀ w ∈ ix_mw mm, w ∈ ix_tb) (hst : mm.2.2.2.2.2.1 = false) (hni : mm.1.name = "<init>") (hret : mm.2.2.2.1 = none) (hlen : as.length = mm.2.2.2.2.1) (hst8 : st'.length ≤ 8) (hneed : (if v = 1 then Cond.methodLinkNest mm0.1.cls idx mm.1 "VotedBank" else Cond.methodLink mm0.1.cls idx mm.1) ∈ ix_tb) {la : Array Slot} (hla : la.size = mm0.2.2.1) (hdg : decode mm0.2.1 pc = .ok (.invokespecial idx, 3))
    (kk : ∀ H1 locs1 cells1 slots1, ix_Pt base xa cI cB cR D L xs s n0 z0 y.2 H1 locs1 cells1 slots1 → W p l e R s m args below meth c H1 locs1 cells1 slots1 Q (F0 m (pc + 3) la ((ix_rv base xa mm y.1).toList ++ st'.map (ix_v base xa)))) : W p l e R s m args below meth c H locs cells slots Q (F0 m pc la (((Value.ref rr :: as).reverse ++ st').map (ix_v base xa))) := by
  refine ix_size fun hs => ?_
  have hC := C
  obtain ⟨hx0, hb, hr, hlk, hml, hown, hts, hnm, hK, hE, hfr, hlo, h1r⟩ := C
  have hnb := hGd.2
  simp only [ix_nmb, Bool.and_eq_true, decide_eq_true_eq] at hnb
  obtain ⟨-, hd1, hd2, hd3, hd4⟩ := hnb
  have hGI := ix_good_tbl hmw
  have hini : (Cond.initialized mm.1.cls).before args s = true := hts _ (hmw _ (by simp [ix_mw]))
  have hinst : (Cond.instanceMethod mm.1).before args s = true := hts _ (hmw _ (by simp [ix_mw, hst, hni]))
  have hroom : (ix_rm rj (y.2.1.length - h.1.length) (ix_sz y.2.1 - ix_sz h.1)).frames + 1 ≤ R.frames ∧ 8 + (mm.2.2.1 + 11) + (ix_rm rj (y.2.1.length - h.1.length) (ix_sz y.2.1 - ix_sz h.1)).locals ≤ R.locals := by
    show rj + 1 ≤ R.frames ∧ 8 + (mm.2.2.1 + 11) + 40 * rj ≤ R.locals
    omega
  have hf : cells + (y.2.1.length - h.1.length) ≤ R.cells ∧ slots + (ix_sz y.2.1 - ix_sz h.1) ≤ R.slots := by
    have a1 := hPy.1
    have a2 := hPy.2
    have a3 := P.2.2.2.2.1
    have a4 := P.2.2.2.2.2
    omega
  have hp : PreS s H (ix_Pc base xa cI cB cR D L xs (.ref rr :: as) h) (.ref (ix_ad base xa rr) :: as.map (ix_v base xa)) := ⟨ix_Pc_blind _ h, ix_Pc_of hC P hs (.ref rr :: as)⟩
  have hstk : (F0 m pc la (((Value.ref rr :: as).reverse ++ st').map (ix_v base xa))).stack = (as.map (ix_v base xa)).reverse ++ .ref (ix_ad base xa rr) :: st'.map (ix_v base xa) := by simp [ix_v]
  have hwd : ix_wd mm = Cond.code mm.1 mm.2.1 mm.2.2.1 none :: ix_tg := by rw [← hret]; rfl
  refine ix_callG hC P hPy (mm := mm) (a := (Value.ref (ix_ad base xa rr) :: as.map (ix_v base xa)).toArray) (rest := st'.map (ix_v base xa)) ?_ kk
  by_cases hv : v = 1
  · rw [if_pos hv] at hneed
    exact va_runIN ⟨hx0, hb, hml, hown, hts⟩ hMt ⟨va_cnB _ hts hGI hwd rfl rfl (va_Nw.of rfl (hts _ hneed)) hini ⟨hd1, hd2, hd3⟩ hroom, hni, hinst⟩ hp rfl (by rw [List.length_map]; exact hlen) hla hstk (lv_room (by rw [ix_cat_sum]; exact hst8)) hdg hf
  · rw [if_neg hv] at hneed
    exact va_runI ⟨hx0, hb, hml, hown, hts⟩ hMt ⟨callB_of _ hts hGI hwd rfl rfl hini (hts _ hneed) ⟨hd1, hd2, hd3⟩ hroom, hni, hinst⟩ hp rfl (by rw [List.length_map]; exact hlen) hla hstk (lv_room (by rw [ix_cat_sum]; exact hst8)) hdg hf
end Inv
end
section
section Mn
variable {base : Nat} {xa : Nat → Nat} {cI cB cR : ClassId} {D : va_G} {L : Nat} {xs : Nat → Int32}
variable {p : Program} {l : Launch} {e : Env} {R : Room} {s : State} {m : MethodId} {args : Array Value} {below : List Frame} {meth : Method} {c : Code} {Q : State → Prop}
/-- called methods keep their contracts -/
def ix_Cl (base : Nat) (xa : Nat → Nat) (cI cB cR : ClassId) (D : va_G) (l : Launch) (L : Nat) (xs : Nat → Int32) (r0 : Nat) (cl : ix_CL) : Prop :=
  ∀ a as h y, cl a as h = some y → ∃ mm rj, ix_n ix_ms a = some mm ∧ rj < r0 ∧ ix_P h.1 y.2 ∧ (as.length ≤ mm.2.2.1 → ix_Mt base xa cI cB cR D l L xs mm rj as h y)
theorem ix_as_head {as st' st : List Value} {b rr : Nat} (h1 : as.length = b) (h2 : st = as.reverse ++ st') (hb : 0 < b) (h3 : ix_n st (b - 1) = some (.ref rr)) : ∃ as', as = .ref rr :: as' := by
  rw [ix_n_eq, h2, List.getElem?_append_left (by rw [List.length_reverse]; omega)] at h3
  cases as with
  | nil => simp at h1; omega
  | cons v as' =>
    refine ⟨as', ?_⟩
    rw [List.reverse_cons, List.getElem?_append_right (by rw [List.length_reverse]; simp at h1; omega)] at h3
    have hz : b - 1 - as'.reverse.length = 0 := by rw [List.length_reverse]; simp at h1; omega
    rw [hz] at h3
    simp at h3
    rw [h3]
set_option maxHeartbeats 4000000 in
/-- one instruction of the interpreter is one of the machine -/
theorem ix_step (hAll : ix_All) {mm : ix_M} {r0 n0 z0 : Nat} (C : ix_Cx base xa cI cB cR D L xs mm r0 p R s m args meth c) (hGd : ix_Gd mm) {x : Value × ix_H} (hrc : x.2.1.length ≤ n0 + R.cells) (hrs : ix_sz x.2.1 ≤ z0 + R.slots)
    (hret : ∀ pc st la H locs cells slots, ix_Rt base xa mm x.1 pc st → ix_Pt base xa cI cB cR D L xs s n0 z0 x.2 H locs cells slots → W p l e R s m args below meth c H locs cells slots Q (F0 m pc la st))
    {cl : ix_CL} {nx : ix_NX} {jp : ix_JP} (hcl : ix_Cl base xa cI cB cR D l L xs r0 cl) (e0 : ix_E) (he : e0 ∈ mm.2.2.2.2.2.2)
    (hn : ∀ ls st h, nx ls st h = some x → ix_P h.1 x.2 ∧ ix_Wt base xa cI cB cR D L xs p l e R s m args below meth c Q n0 z0 mm.2.2.1 (e0.1 + e0.2.2.1) ls st h)
    (hj : ∀ t ls st h, jp t ls st h = some x → ix_Wt base xa cI cB cR D L xs p l e R s m args below meth c Q n0 z0 mm.2.2.1 t ls st h)
    (ls : ix_L) (st : List Value) (h : ix_H) (hx : ix_ex (ix_D0 cl) nx jp e0 ls st h = some x) : ix_Wt base xa cI cB cR D L xs p l e R s m args below meth c Q n0 z0 mm.2.2.1 e0.1 ls st h := by
  obtain ⟨hdec, hok, hneed⟩ := hGd.1 e0 he
  obtain ⟨pc, ins, len, ct, a, b, k, d, v⟩ := e0
  dsimp only at hdec hn
  have hC := C
  obtain ⟨hx0, hb, hr, hlk, hml, hown, hts, hnm, hK, hE, hfr, hlo, h1r⟩ := C
  intro la H locs cells slots hL P
  have hD : va_D (fun q => base ≤ q) (ix_ws base xa cI cB cR h.2 0 h.1) := ix_D
  cases ins
  case iconst n =>
    simp only [ix_okb, decide_eq_true_eq] at hok
    obtain ⟨rfl, hok⟩ := hok
    exact lv_iconst hx0 hb hdec hok ((hn _ _ _ hx).2 la H locs cells slots hL P)
  case bipush n =>
    simp only [ix_okb, decide_eq_true_eq] at hok
    obtain ⟨rfl, hok⟩ := hok
    exact lv_bipush hx0 hb hdec hok ((hn _ _ _ hx).2 la H locs cells slots hL P)
  case sipush n =>
    simp only [ix_okb, decide_eq_true_eq] at hok
    obtain ⟨rfl, hok⟩ := hok
    exact lv_sipush hx0 hb hdec hok ((hn _ _ _ hx).2 la H locs cells slots hL P)
  case ldc i =>
    simp only [ix_okb, decide_eq_true_eq] at hok
    obtain ⟨rfl, hok⟩ := hok
    unfold ix_ex at hx
    dsimp only at hx
    cases hbz : Nat.beq b 0 with
    | true =>
      rw [hbz] at hx
      refine lv_ldc hx0 hb hown (hts _ (hneed _ ?_)) hdec ((hn _ _ _ hx).2 la H locs cells slots hL P)
      unfold ix_need
      dsimp only
      rw [hbz]
      exact List.mem_cons_self
    | false =>
      rw [hbz] at hx
      rcases hok with h0 | ⟨t, ht, h1, h2, h3⟩
      · rw [h0] at hbz; cases hbz
      · have hR := hE.2.2.2.2.2 t ht
        have hW := (hn _ _ _ hx).2 la H locs cells slots hL P
        have ha : ix_ad base xa a = xa (t.2.2.2 - 1000) := by
          rw [← h3]
          have hge : ¬ t.2.2.2 < 1000 := by
            have : ∀ t ∈ ix_txt, 1000 ≤ t.2.2.2 := by decide
            have := this t ht
            omega
          exact if_neg hge
        rw [h1, h2] at hR
        refine va_ldcS hx0 hb hown hR hdec ?_
        rw [← ha]
        exact hW
  case ldc_w i =>
    simp only [ix_okb, decide_eq_true_eq] at hok
    subst hok
    have hW := (hn _ _ _ hx).2 la H locs cells slots hL P
    have hcon := hts _ (hneed _ (List.mem_cons_self))
    intro T hT X
    obtain ⟨t, a1, b1⟩ := hW T hT X
    exact ⟨t, va_ldcwI X hx0 hown hcon rfl (by rw [hb]; exact hdec) t a1, b1⟩
  case iload i =>
    simp only [ix_okb, decide_eq_true_eq] at hok
    obtain ⟨rfl, rfl⟩ := hok
    unfold ix_ex at hx
    dsimp only at hx
    rcases hq : ix_n ls i with _ | _ | y
    · rw [hq] at hx; cases hx
    · rw [hq] at hx; cases hx
    · rw [hq] at hx
      cases y <;> first | (cases hx; done) | exact lv_iload hx0 hb hdec (hL.get hq) ((hn _ _ _ hx).2 la H locs cells slots hL P)
  case iload_n i =>
    simp only [ix_okb, decide_eq_true_eq] at hok
    obtain ⟨rfl, rfl⟩ := hok
    unfold ix_ex at hx
    dsimp only at hx
    rcases hq : ix_n ls i.val with _ | _ | y
    · rw [hq] at hx; cases hx
    · rw [hq] at hx; cases hx
    · rw [hq] at hx
      cases y <;> first | (cases hx; done) | exact lv_iload_n hx0 hb hdec rfl (hL.get hq) ((hn _ _ _ hx).2 la H locs cells slots hL P)
  case aload i =>
    simp only [ix_okb, decide_eq_true_eq] at hok
    obtain ⟨rfl, rfl⟩ := hok
    unfold ix_ex at hx
    dsimp only at hx
    rcases hq : ix_n ls i with _ | _ | y
    · rw [hq] at hx; cases hx
    · rw [hq] at hx; cases hx
    · rw [hq] at hx
      cases y <;> first | (cases hx; done) | exact lv_aload hx0 hb hdec (hL.get hq) ((hn _ _ _ hx).2 la H locs cells slots hL P)
  case aload_n i =>
    simp only [ix_okb, decide_eq_true_eq] at hok
    obtain ⟨rfl, rfl⟩ := hok
    unfold ix_ex at hx
    dsimp only at hx
    rcases hq : ix_n ls i.val with _ | _ | y
    · rw [hq] at hx; cases hx
    · rw [hq] at hx; cases hx
    · rw [hq] at hx
      cases y <;> first | (cases hx; done) | exact lv_aload_n hx0 hb hdec rfl (hL.get hq) ((hn _ _ _ hx).2 la H locs cells slots hL P)
  case istore i =>
    simp only [ix_okb, decide_eq_true_eq] at hok
    obtain ⟨rfl, rfl⟩ := hok
    obtain ⟨y, st1, rfl, hx⟩ := ix_popI_s hx
    obtain ⟨hlt, hx⟩ := ix_bif_s hx
    have hlt' : i < ls.length := Nat.le_of_ble_eq_true hlt
    exact lv_istore hx0 hb hdec hL.has (Nat.lt_of_lt_of_le hlt' hL.2.1) rfl (fun la' hl' => (hn _ _ _ hx).2 la' H locs cells slots (hL.stored (v := .int y) hl') P)
  case istore_n i =>
    simp only [ix_okb, decide_eq_true_eq] at hok
    obtain ⟨rfl, rfl⟩ := hok
    obtain ⟨y, st1, rfl, hx⟩ := ix_popI_s hx
    obtain ⟨hlt, hx⟩ := ix_bif_s hx
    have hlt' : i.val < ls.length := Nat.le_of_ble_eq_true hlt
    exact lv_istore_n hx0 hb hdec rfl hL.has (Nat.lt_of_lt_of_le hlt' hL.2.1) rfl (fun la' hl' => (hn _ _ _ hx).2 la' H locs cells slots (hL.stored (v := .int y) hl') P)
  case astore i =>
    simp only [ix_okb, decide_eq_true_eq] at hok
    obtain ⟨rfl, rfl⟩ := hok
    obtain ⟨y, st1, rfl, hx⟩ := ix_popR_s hx
    obtain ⟨hlt, hx⟩ := ix_bif_s hx
    have hlt' : i < ls.length := Nat.le_of_ble_eq_true hlt
    exact lv_astore hx0 hb hdec hL.has (Nat.lt_of_lt_of_le hlt' hL.2.1) rfl (fun la' hl' => (hn _ _ _ hx).2 la' H locs cells slots (hL.stored (v := .ref y) hl') P)
  case astore_n i =>
    simp only [ix_okb, decide_eq_true_eq] at hok
    obtain ⟨rfl, rfl⟩ := hok
    obtain ⟨y, st1, rfl, hx⟩ := ix_popR_s hx
    obtain ⟨hlt, hx⟩ := ix_bif_s hx
    have hlt' : i.val < ls.length := Nat.le_of_ble_eq_true hlt
    exact lv_astore_n hx0 hb hdec rfl hL.has (Nat.lt_of_lt_of_le hlt' hL.2.1) rfl (fun la' hl' => (hn _ _ _ hx).2 la' H locs cells slots (hL.stored (v := .ref y) hl') P)
  case iinc i n =>
    simp only [ix_okb, decide_eq_true_eq] at hok
    obtain ⟨rfl, rfl, hok⟩ := hok
    unfold ix_ex at hx
    dsimp only at hx
    rcases hq : ix_n ls i with _ | _ | y
    · rw [hq] at hx; cases hx
    · rw [hq] at hx; cases hx
    · rw [hq] at hx
      cases y <;> first | (cases hx; done) | skip
      rename_i y
      have hlt' : i < ls.length := ix_n_lt hq
      obtain ⟨kk, hkk⟩ := List.getElem?_of_mem (ix_lv_mem.mpr ⟨.int y, by rw [← ix_n_eq]; exact hq, rfl⟩ : (i, ix_v base xa (.int y)) ∈ ix_lv base xa ls)
      have hval : y + Int32.ofInt n = (bif Nat.beq k 0 then y + v else y - v) := by
        rcases hok with ⟨rfl, h1⟩ | ⟨rfl, h1⟩
        · rw [h1]; rfl
        · rw [h1]
          show y + -v = y - v
          rw [Int32.sub_eq_add_neg]
      exact lv_iinc hx0 hb hdec hL.has hkk hval (Nat.lt_of_lt_of_le hlt' hL.2.1) rfl (fun la' hl' => (hn _ _ _ hx).2 la' H locs cells slots (hL.stored (v := .int (bif Nat.beq k 0 then y + v else y - v)) hl') P)
  case dup =>
    simp only [ix_okb, decide_eq_true_eq] at hok
    subst hok
    rcases st with _ | ⟨y, st⟩
    · cases hx
    · exact lv_dup hx0 hb hdec (ix_v_cat y) ((hn _ _ _ hx).2 la H locs cells slots hL P)
  case dup2 =>
    simp only [ix_okb, decide_eq_true_eq] at hok
    subst hok
    rcases st with _ | ⟨y, _ | ⟨z, st⟩⟩
    · cases hx
    · cases hx
    · exact lv_dup2_11 hx0 hb hdec (ix_v_cat y) (ix_v_cat z) ((hn _ _ _ hx).2 la H locs cells slots hL P)
  case pop =>
    simp only [ix_okb, decide_eq_true_eq] at hok
    subst hok
    rcases st with _ | ⟨y, st⟩
    · cases hx
    · exact lv_pop hx0 hb hdec (ix_v_cat y) ((hn _ _ _ hx).2 la H locs cells slots hL P)
  case iadd =>
    simp only [ix_okb, decide_eq_true_eq] at hok
    subst hok
    obtain ⟨y, st1, rfl, hx⟩ := ix_popI_s hx
    obtain ⟨z, st1, rfl, hx⟩ := ix_popI_s hx
    exact lv_iadd hx0 hb hdec ((hn _ _ _ hx).2 la H locs cells slots hL P)
  case isub =>
    simp only [ix_okb, decide_eq_true_eq] at hok
    subst hok
    obtain ⟨y, st1, rfl, hx⟩ := ix_popI_s hx
    obtain ⟨z, st1, rfl, hx⟩ := ix_popI_s hx
    exact lv_isub hx0 hb hdec ((hn _ _ _ hx).2 la H locs cells slots hL P)
  case imul =>
    simp only [ix_okb, decide_eq_true_eq] at hok
    subst hok
    obtain ⟨y, st1, rfl, hx⟩ := ix_popI_s hx
    obtain ⟨z, st1, rfl, hx⟩ := ix_popI_s hx
    exact lv_imul hx0 hb hdec ((hn _ _ _ hx).2 la H locs cells slots hL P)
  case iand =>
    simp only [ix_okb, decide_eq_true_eq] at hok
    subst hok
    obtain ⟨y, st1, rfl, hx⟩ := ix_popI_s hx
    obtain ⟨z, st1, rfl, hx⟩ := ix_popI_s hx
    exact lv_iand hx0 hb hdec ((hn _ _ _ hx).2 la H locs cells slots hL P)
  case ior =>
    simp only [ix_okb, decide_eq_true_eq] at hok
    subst hok
    obtain ⟨y, st1, rfl, hx⟩ := ix_popI_s hx
    obtain ⟨z, st1, rfl, hx⟩ := ix_popI_s hx
    exact lv_ior hx0 hb hdec ((hn _ _ _ hx).2 la H locs cells slots hL P)
  case ixor =>
    simp only [ix_okb, decide_eq_true_eq] at hok
    subst hok
    obtain ⟨y, st1, rfl, hx⟩ := ix_popI_s hx
    obtain ⟨z, st1, rfl, hx⟩ := ix_popI_s hx
    exact lv_ixor hx0 hb hdec ((hn _ _ _ hx).2 la H locs cells slots hL P)
  case ishl =>
    simp only [ix_okb, decide_eq_true_eq] at hok
    subst hok
    obtain ⟨y, st1, rfl, hx⟩ := ix_popI_s hx
    obtain ⟨z, st1, rfl, hx⟩ := ix_popI_s hx
    exact lv_ishl hx0 hb hdec ((hn _ _ _ hx).2 la H locs cells slots hL P)
  case ishr =>
    simp only [ix_okb, decide_eq_true_eq] at hok
    subst hok
    obtain ⟨y, st1, rfl, hx⟩ := ix_popI_s hx
    obtain ⟨z, st1, rfl, hx⟩ := ix_popI_s hx
    exact lv_ishr hx0 hb hdec ((hn _ _ _ hx).2 la H locs cells slots hL P)
  case iushr =>
    simp only [ix_okb, decide_eq_true_eq] at hok
    subst hok
    obtain ⟨y, st1, rfl, hx⟩ := ix_popI_s hx
    obtain ⟨z, st1, rfl, hx⟩ := ix_popI_s hx
    exact lv_iushr hx0 hb hdec rfl ((hn _ _ _ hx).2 la H locs cells slots hL P)
  case idiv =>
    simp only [ix_okb, decide_eq_true_eq] at hok
    subst hok
    obtain ⟨y, st1, rfl, hy⟩ := ix_popI_s hx
    obtain ⟨z, st2, rfl, hz⟩ := ix_popI_s hy
    split at hz
    · cases hz
    · rename_i hc
      exact lv_idiv hx0 hb hdec hc ((hn _ _ _ hz).2 la H locs cells slots hL P)
  case irem =>
    simp only [ix_okb, decide_eq_true_eq] at hok
    subst hok
    obtain ⟨y, st1, rfl, hy⟩ := ix_popI_s hx
    obtain ⟨z, st2, rfl, hz⟩ := ix_popI_s hy
    split at hz
    · cases hz
    · rename_i hc
      exact lv_irem hx0 hb hdec hc ((hn _ _ _ hz).2 la H locs cells slots hL P)
  case ineg =>
    simp only [ix_okb, decide_eq_true_eq] at hok
    subst hok
    obtain ⟨y, st1, rfl, hx⟩ := ix_popI_s hx
    exact lv_ineg hx0 hb hdec ((hn _ _ _ hx).2 la H locs cells slots hL P)
  case i2b =>
    simp only [ix_okb, decide_eq_true_eq] at hok
    subst hok
    obtain ⟨y, st1, rfl, hx⟩ := ix_popI_s hx
    exact lv_i2b hx0 hb hdec rfl ((hn _ _ _ hx).2 la H locs cells slots hL P)
  case i2c =>
    simp only [ix_okb, decide_eq_true_eq] at hok
    subst hok
    obtain ⟨y, st1, rfl, hx⟩ := ix_popI_s hx
    exact lv_i2c hx0 hb hdec rfl ((hn _ _ _ hx).2 la H locs cells slots hL P)
  case goto o =>
    simp only [ix_okb, decide_eq_true_eq] at hok
    obtain ⟨rfl, hok⟩ := hok
    exact lv_goto hx0 hb hdec hok (hj _ _ _ _ hx la H locs cells slots hL P)
  case ifCond cd o =>
    simp only [ix_okb, decide_eq_true_eq] at hok
    obtain ⟨rfl, hok⟩ := hok
    obtain ⟨y, st1, rfl, hy⟩ := ix_popI_s hx
    have T : ∀ hz : jp a ls st1 h = some x, W p l e R s m args below meth c H locs cells slots Q (F0 m a la (st1.map (ix_v base xa))) := fun hz => hj _ _ _ _ hz la H locs cells slots hL P
    have F : ∀ hz : nx ls st1 h = some x, W p l e R s m args below meth c H locs cells slots Q (F0 m (pc + 3) la (st1.map (ix_v base xa))) := fun hz => (hn _ _ _ hz).2 la H locs cells slots hL P
    cases cd <;> dsimp only at hy
    · exact lv_if_eq hx0 hb hdec hok (fun hc => T (by rw [if_pos hc] at hy; exact hy)) (fun hc => F (by rw [if_neg hc] at hy; exact hy))
    · exact lv_if_ne hx0 hb hdec hok (fun hc => T (by rw [if_neg hc] at hy; exact hy)) (fun hc => F (by rw [if_pos hc] at hy; exact hy))
    · exact lv_if_lt hx0 hb hdec hok (fun hc => T (by rw [if_pos hc] at hy; exact hy)) (fun hc => F (by rw [if_neg hc] at hy; exact hy))
    · exact lv_if_ge hx0 hb hdec hok (fun hc => T (by rw [if_pos hc] at hy; exact hy)) (fun hc => F (by rw [if_neg hc] at hy; exact hy))
    · exact lv_if_gt hx0 hb hdec hok (fun hc => T (by rw [if_pos hc] at hy; exact hy)) (fun hc => F (by rw [if_neg hc] at hy; exact hy))
    · exact lv_if_le hx0 hb hdec hok (fun hc => T (by rw [if_pos hc] at hy; exact hy)) (fun hc => F (by rw [if_neg hc] at hy; exact hy))
  case if_icmp cd o =>
    simp only [ix_okb, decide_eq_true_eq] at hok
    obtain ⟨rfl, hok⟩ := hok
    obtain ⟨y, st1, rfl, hy⟩ := ix_popI_s hx
    obtain ⟨z, st2, rfl, hy⟩ := ix_popI_s hy
    have T : ∀ hz : jp a ls st2 h = some x, W p l e R s m args below meth c H locs cells slots Q (F0 m a la (st2.map (ix_v base xa))) := fun hz => hj _ _ _ _ hz la H locs cells slots hL P
    have F : ∀ hz : nx ls st2 h = some x, W p l e R s m args below meth c H locs cells slots Q (F0 m (pc + 3) la (st2.map (ix_v base xa))) := fun hz => (hn _ _ _ hz).2 la H locs cells slots hL P
    cases cd
    · have hy2 : (if z = y then jp a ls st2 h else nx ls st2 h) = some x := hy
      exact lv_icmp_eq hx0 hb hdec hok (fun hc => T (by rw [if_pos hc] at hy2; exact hy2)) (fun hc => F (by rw [if_neg hc] at hy2; exact hy2))
    · have hy2 : (if z = y then nx ls st2 h else jp a ls st2 h) = some x := hy
      exact lv_icmp_ne hx0 hb hdec hok (fun hc => T (by rw [if_neg hc] at hy2; exact hy2)) (fun hc => F (by rw [if_pos hc] at hy2; exact hy2))
    · have hy2 : (if z < y then jp a ls st2 h else nx ls st2 h) = some x := hy
      exact lv_icmp_lt hx0 hb hdec hok (fun hc => T (by rw [if_pos hc] at hy2; exact hy2)) (fun hc => F (by rw [if_neg hc] at hy2; exact hy2))
    · have hy2 : (if y ≤ z then jp a ls st2 h else nx ls st2 h) = some x := hy
      exact lv_icmp_ge hx0 hb hdec hok (fun hc => T (by rw [if_pos hc] at hy2; exact hy2)) (fun hc => F (by rw [if_neg hc] at hy2; exact hy2))
    · have hy2 : (if y < z then jp a ls st2 h else nx ls st2 h) = some x := hy
      exact lv_icmp_gt hx0 hb hdec hok (fun hc => T (by rw [if_pos hc] at hy2; exact hy2)) (fun hc => F (by rw [if_neg hc] at hy2; exact hy2))
    · have hy2 : (if z ≤ y then jp a ls st2 h else nx ls st2 h) = some x := hy
      exact lv_icmp_le hx0 hb hdec hok (fun hc => T (by rw [if_pos hc] at hy2; exact hy2)) (fun hc => F (by rw [if_neg hc] at hy2; exact hy2))
  case tableswitch df lo hi os =>
    simp only [ix_okb, decide_eq_true_eq] at hok
    obtain ⟨ho1, ho2, ho3⟩ := hok
    obtain ⟨y, st1, rfl, hy⟩ := ix_popI_s hx
    have hsz : (os.toList.length : Int) = os.size := by simp
    rcases ix_sw_s _ _ hy with ⟨h1, h2⟩ | ⟨o, h1, h2, h3, h4⟩
    · exact lv_tableOut hx0 hb hdec (by omega) (tgt := ((pc : Int) + df).toNat) (by omega) (hj _ _ _ _ h2 la H locs cells slots hL P)
    · have ho : 0 ≤ (pc : Int) + o := ho3 o (List.mem_of_getElem? h3)
      exact lv_tableIn hx0 hb hdec (by omega) (by omega) (off := o) (by rw [← Array.getElem?_toList]; exact h3) (tgt := ((pc : Int) + o).toNat) (by omega) (hj _ _ _ _ h4 la H locs cells slots hL P)
  case lookupswitch df ps =>
    simp only [ix_okb, decide_eq_true_eq] at hok
    obtain ⟨ho1, ho2, ho3⟩ := hok
    obtain ⟨y, st1, rfl, hy⟩ := ix_popI_s hx
    have h2 := ix_lk_s _ hy
    have hge : 0 ≤ (pc : Int) + Op.lookupswitch.offset ps.toList df y.toInt := by
      rcases ix_lk_in (d := df) (x := y.toInt) ps.toList with h3 | ⟨o, h3, h4⟩
      · rw [h3]; exact ho2
      · rw [h4]; exact ho3 o h3
    exact lv_lookup hx0 hb hdec ho1 rfl (tgt := ((pc : Int) + Op.lookupswitch.offset ps.toList df y.toInt).toNat) (by omega) (hj _ _ _ _ h2 la H locs cells slots hL P)
  case getstatic i =>
    simp only [ix_okb, decide_eq_true_eq] at hok
    obtain ⟨rfl, hok⟩ := hok
    rcases hok with ⟨rfl, rfl⟩ | ⟨rfl, rfl⟩
    · exact va_gets hx0 hb hE.2.2.2.1 P.2.2.1 hown (hts _ (hneed _ List.mem_cons_self)) (fun _ h => h) hdec ((hn _ _ _ hx).2 la H locs cells slots hL P)
    · have hW := (hn _ _ _ hx).2 la H locs cells slots hL P
      rw [show (Value.ref 1001 :: st).map (ix_v base xa) = .ref (xa 1) :: st.map (ix_v base xa) from congrArg (fun q => Value.ref q :: st.map (ix_v base xa)) (ix_ad_x 1)] at hW
      exact va_getsN hx0 hb hE.2.2.1 P.2.2.1 hown (hts _ (hneed _ List.mem_cons_self)) (fun _ h => h) hdec hW
  case getfield i =>
    simp only [ix_okb, decide_eq_true_eq] at hok
    obtain ⟨rfl, hok⟩ := hok
    obtain ⟨r, st1, rfl, hy⟩ := ix_popR_s hx
    exact ix_getf hC P hy hok hneed hdec (fun w hw => (hn _ _ _ hw).2 la H locs cells slots hL P)
  case putfield i =>
    simp only [ix_okb, Bool.and_eq_true, decide_eq_true_eq] at hok
    obtain ⟨⟨rfl, hok1, hok2, hok3⟩, hok4⟩ := hok
    rcases st with _ | ⟨w, st⟩
    · cases hx
    · obtain ⟨r, st1, rfl, hy⟩ := ix_popR_s (show ix_popR st (fun r st => ix_put h r a b k w fun h => nx ls st h) = some x from hx)
      refine ix_putf hC P hy ⟨hok1, hok2, hok3⟩ (fun rc hrc2 => ?_) (fun rc hrc2 => ?_) hdec (fun h' H1 locs1 hw P' => (hn _ _ _ hw).2 la H1 locs1 cells slots hL P')
      · rw [hrc2] at hok4
        simpa using hok4
      · refine hneed _ ?_
        unfold ix_need
        dsimp only
        rw [hrc2]
        exact List.mem_cons_self
  case arraylength =>
    simp only [ix_okb, decide_eq_true_eq] at hok
    subst hok
    obtain ⟨r, st1, rfl, hy⟩ := ix_popR_s hx
    rcases hq : ix_sh h r with _ | ⟨q, n, sl⟩
    · rw [hq] at hy; cases hy
    · rw [hq] at hy
      obtain ⟨h1, h2⟩ := ix_bif_s hy
      have hqk : q = 1 ∨ q = 2 ∨ q = 11 ∨ q = 12 := by
        simp only [Bool.or_eq_true] at h1
        rcases h1 with ((h1 | h1) | h1) | h1
        · exact Or.inl (ix_beq h1)
        · exact Or.inr (Or.inl (ix_beq h1))
        · exact Or.inr (Or.inr (Or.inl (ix_beq h1)))
        · exact Or.inr (Or.inr (Or.inr (ix_beq h1)))
      exact ix_alen hC P hq hqk hdec ((hn _ _ _ h2).2 la H locs cells slots hL P)
  case iaload =>
    simp only [ix_okb, decide_eq_true_eq] at hok
    subst hok
    obtain ⟨i, st1, rfl, hy⟩ := ix_popI_s hx
    obtain ⟨r, st2, rfl, hy⟩ := ix_popR_s hy
    obtain ⟨q, n, sl, h1, h2, h3⟩ := ix_arr_s hy
    split at h3
    · cases h3
    · rename_i hc
      exact ix_iald hC P h1 h2 hc hdec ((hn _ _ _ h3).2 la H locs cells slots hL P)
  case baload =>
    simp only [ix_okb, decide_eq_true_eq] at hok
    subst hok
    obtain ⟨i, st1, rfl, hy⟩ := ix_popI_s hx
    obtain ⟨r, st2, rfl, hy⟩ := ix_popR_s hy
    obtain ⟨q, n, sl, h1, h2, h3⟩ := ix_arr_s hy
    split at h3
    · cases h3
    · rename_i hc
      exact ix_bald hC P h1 h2 hc hdec ((hn _ _ _ h3).2 la H locs cells slots hL P)
  case iastore =>
    simp only [ix_okb, decide_eq_true_eq] at hok
    subst hok
    obtain ⟨y, st1, rfl, hy⟩ := ix_popI_s hx
    obtain ⟨i, st2, rfl, hy⟩ := ix_popI_s hy
    obtain ⟨r, st3, rfl, hy⟩ := ix_popR_s hy
    obtain ⟨n, sl, h1, h3⟩ := ix_own_s hy
    split at h3
    · cases h3
    · rename_i hc
      rw [show (Value.int y :: Value.int i :: Value.ref r :: st3).map (ix_v base xa) = .int y :: .int i :: .ref (base + r) :: st3.map (ix_v base xa) from congrArg (fun q => Value.int y :: Value.int i :: Value.ref q :: st3.map (ix_v base xa)) (P.own h1).2]
      exact va_iast hx0 hb hK P.1.1 hD P.2.2.1 r 0 (ix_at0 h1) rfl hc hdec (fun H1 locs1 hP _ hS => (hn _ _ _ h3).2 la H1 locs1 cells slots hL (P.row h1 _ hP hS))
  case bastore =>
    simp only [ix_okb, decide_eq_true_eq] at hok
    subst hok
    obtain ⟨y, st1, rfl, hy⟩ := ix_popI_s hx
    obtain ⟨i, st2, rfl, hy⟩ := ix_popI_s hy
    obtain ⟨r, st3, rfl, hy⟩ := ix_popR_s hy
    obtain ⟨n, sl, h1, h3⟩ := ix_own_s hy
    split at h3
    · cases h3
    · rename_i hc
      rw [show (Value.int y :: Value.int i :: Value.ref r :: st3).map (ix_v base xa) = .int y :: .int i :: .ref (base + r) :: st3.map (ix_v base xa) from congrArg (fun q => Value.int y :: Value.int i :: Value.ref q :: st3.map (ix_v base xa)) (P.own h1).2]
      exact va_bast hx0 hb hK P.1.1 hD P.2.2.1 r 1 (ix_at0 h1) rfl hc hdec (fun H1 locs1 hP _ hS => (hn _ _ _ h3).2 la H1 locs1 cells slots hL (P.row h1 _ (by rw [vp_nar_byte] at hP; exact hP) hS))
  case aaload =>
    simp only [ix_okb, decide_eq_true_eq] at hok
    subst hok
    obtain ⟨i, st1, rfl, hy⟩ := ix_popI_s hx
    obtain ⟨r, st2, rfl, hz⟩ := ix_popR_s hy
    rcases hq : ix_n h.1 r with _ | ⟨q, n, sl⟩
    · rw [hq] at hz; cases hz
    · rw [hq] at hz
      obtain ⟨h1, h2⟩ := ix_bif_s hz
      cases ix_beq h1
      split at h2
      · cases h2
      · rename_i hc
        obtain ⟨a2, -, h4, h5⟩ := ix_ch_s _ _ h2
        rw [Nat.sub_zero] at h4
        have hW := (hn _ _ _ h5).2 la H locs cells slots hL P
        have hrf : va_rf (ix_rf base xa sl i.toNatClampNeg) = .ref (ix_ad base xa a2) := by
          unfold ix_rf
          rw [h4]
          rfl
        rw [show (Value.int i :: Value.ref r :: st2).map (ix_v base xa) = .int i :: .ref (base + r) :: st2.map (ix_v base xa) from congrArg (fun q => Value.int i :: Value.ref q :: st2.map (ix_v base xa)) (P.own hq).2]
        refine va_aldq hx0 hb hK P.1.1 r 2 (ix_at0 hq) rfl hc hdec ?_
        rw [hrf]
        exact hW
  case aastore =>
    simp only [ix_okb, decide_eq_true_eq] at hok
    subst hok
    obtain ⟨y, st1, rfl, hy⟩ := ix_popR_s hx
    obtain ⟨i, st2, rfl, hy2⟩ := ix_popI_s hy
    obtain ⟨r, st3, rfl, hz⟩ := ix_popR_s hy2
    rcases hq : ix_n h.1 r with _ | ⟨q, n, sl⟩
    · rw [hq] at hz; cases hz
    · rw [hq] at hz
      obtain ⟨h1, h2⟩ := ix_bif_s hz
      obtain ⟨h3, h4⟩ := Bool.and_eq_true_iff.mp h1
      cases ix_beq h3
      split at h2
      · cases h2
      · rename_i hc
        have hc1 : ¬ (i < 0 ∨ n ≤ i.toNatClampNeg) := fun z => hc (z.elim Or.inl (fun w => Or.inr (Or.inl w)))
        have hc2 : i.toNatClampNeg < sl.length := Nat.not_le.mp fun z => hc (Or.inr (Or.inr z))
        rcases ix_isA_s h4 with ⟨sl2, hsh⟩ | ⟨hz, -⟩
        · rcases ix_sh_s hsh with ⟨g1, g2⟩ | ⟨i0, rfl, g2⟩
          · rw [show (Value.ref y :: Value.int i :: Value.ref r :: st3).map (ix_v base xa) = .ref (base + y) :: .int i :: .ref (base + r) :: st3.map (ix_v base xa) from by
              show (Value.ref (ix_ad base xa y) :: Value.int i :: Value.ref (ix_ad base xa r) :: st3.map (ix_v base xa)) = _
              rw [(P.own hq).2, (P.own g2).2]]
            refine va_astq (D := D) (r := ("VotedBank$River", ix_T6, 14)) hx0 hb hK P.1.1 hD P.2.2.1 r 2 y 6 (ix_at0 hq) rfl (ix_at0 g2) rfl hc1 hdec (fun H1 locs1 hP _ hS => (hn _ _ _ h2).2 la H1 locs1 cells slots hL (P.shape _ hq ?_ hS))
            rw [← (P.own g2).2, ix_rf_set hc2] at hP
            exact hP
          · exact absurd (ix_xs_lo g2) (by decide)
        · cases hz
  case new i =>
    simp only [ix_okb, decide_eq_true_eq] at hok
    obtain ⟨rfl, hok⟩ := hok
    obtain ⟨h1, h2⟩ := ix_new_s (show ix_new h (0, a, ix_fs (ix_kinds a)) (fun r h => nx ls (.ref r :: st) h) = some x from hx)
    have hPp := (hn _ _ _ h2).1
    have e1 : (h.1 ++ [((0, a, ix_fs (ix_kinds a)) : ix_Sh)]).length = h.1.length + 1 := by simp
    have e2 := ix_sz_app h.1 (0, a, ix_fs (ix_kinds a))
    have e2' : ix_sz (h.1 ++ [(0, a, ix_fs (ix_kinds a))]) = ix_sz h.1 + (ix_kinds a).length := e2
    have q1 : (h.1 ++ [((0, a, ix_fs (ix_kinds a)) : ix_Sh)]).length ≤ x.2.1.length := hPp.1
    have q2 : ix_sz (h.1 ++ [(0, a, ix_fs (ix_kinds a))]) ≤ ix_sz x.2.1 := hPp.2
    have a3 := P.2.2.2.2.1
    have a4 := P.2.2.2.2.2
    refine ix_newo hC P h1 hok (fun rc hrc2 => ?_) (by omega) (by omega) hdec (fun H1 locs1 P' => (hn _ _ _ h2).2 la H1 locs1 _ _ hL P')
    refine hneed _ ?_
    unfold ix_need
    dsimp only
    rw [hrc2]
    exact List.mem_cons_self
  case newarray t =>
    simp only [ix_okb, decide_eq_true_eq] at hok
    subst hok
    obtain ⟨n, st1, rfl, hy⟩ := ix_popI_s hx
    split at hy
    · cases hy
    · rename_i hc
      have a3 := P.2.2.2.2.1
      have a4 := P.2.2.2.2.2
      cases t <;> first | (cases hy; done) | skip
      · obtain ⟨h1, h2⟩ := ix_new_s hy
        have hPp := (hn _ _ _ h2).1
        have e1 : (h.1 ++ [((2, n.toNatClampNeg, []) : ix_Sh)]).length = h.1.length + 1 := by simp
        have e2' : ix_sz (h.1 ++ [(2, n.toNatClampNeg, [])]) = ix_sz h.1 + n.toNatClampNeg := ix_sz_app h.1 (2, n.toNatClampNeg, [])
        have q1 : (h.1 ++ [((2, n.toNatClampNeg, []) : ix_Sh)]).length ≤ x.2.1.length := hPp.1
        have q2 : ix_sz (h.1 ++ [(2, n.toNatClampNeg, [])]) ≤ ix_sz x.2.1 := hPp.2
        exact ix_newi hC P h1 hc (Or.inr ⟨rfl, rfl⟩) (by omega) (by omega) hdec (fun H1 locs1 P' => (hn _ _ _ h2).2 la H1 locs1 _ _ hL P')
      · obtain ⟨h1, h2⟩ := ix_new_s hy
        have hPp := (hn _ _ _ h2).1
        have e1 : (h.1 ++ [((1, n.toNatClampNeg, []) : ix_Sh)]).length = h.1.length + 1 := by simp
        have e2' : ix_sz (h.1 ++ [(1, n.toNatClampNeg, [])]) = ix_sz h.1 + n.toNatClampNeg := ix_sz_app h.1 (1, n.toNatClampNeg, [])
        have q1 : (h.1 ++ [((1, n.toNatClampNeg, []) : ix_Sh)]).length ≤ x.2.1.length := hPp.1
        have q2 : ix_sz (h.1 ++ [(1, n.toNatClampNeg, [])]) ≤ ix_sz x.2.1 := hPp.2
        exact ix_newi hC P h1 hc (Or.inl ⟨rfl, rfl⟩) (by omega) (by omega) hdec (fun H1 locs1 P' => (hn _ _ _ h2).2 la H1 locs1 _ _ hL P')
  case anewarray i =>
    simp only [ix_okb, decide_eq_true_eq] at hok
    subst hok
    obtain ⟨n, st1, rfl, hy⟩ := ix_popI_s hx
    split at hy
    · cases hy
    · rename_i hc
      have a3 := P.2.2.2.2.1
      have a4 := P.2.2.2.2.2
      obtain ⟨h1, h2⟩ := ix_new_s hy
      have hPp := (hn _ _ _ h2).1
      have e1 : (h.1 ++ [((3, n.toNatClampNeg, List.replicate n.toNatClampNeg (some none)) : ix_Sh)]).length = h.1.length + 1 := by simp
      have e2' : ix_sz (h.1 ++ [(3, n.toNatClampNeg, List.replicate n.toNatClampNeg (some none))]) = ix_sz h.1 + n.toNatClampNeg := ix_sz_app h.1 (3, n.toNatClampNeg, List.replicate n.toNatClampNeg (some none))
      have q1 : (h.1 ++ [((3, n.toNatClampNeg, List.replicate n.toNatClampNeg (some none)) : ix_Sh)]).length ≤ x.2.1.length := hPp.1
      have q2 : ix_sz (h.1 ++ [(3, n.toNatClampNeg, List.replicate n.toNatClampNeg (some none))]) ≤ ix_sz x.2.1 := hPp.2
      exact ix_newq hC P h1 hc (hneed _ List.mem_cons_self) (by omega) (by omega) hdec (fun H1 locs1 P' => (hn _ _ _ h2).2 la H1 locs1 _ _ hL P')
  case invokestatic i =>
    simp only [ix_okb, Bool.and_eq_true, Bool.or_eq_true, decide_eq_true_eq] at hok
    obtain ⟨rfl, hok⟩ := hok
    unfold ix_ex at hx
    dsimp only at hx
    cases hk2 : Nat.beq k 2 with
    | true =>
      rw [hk2] at hx
      obtain ⟨n, st1, rfl, hy1⟩ := ix_popI_s hx
      obtain ⟨dp, st2, rfl, hy2⟩ := ix_popI_s hy1
      obtain ⟨q1, st3, rfl, hy3⟩ := ix_popR_s hy2
      obtain ⟨sp, st4, rfl, hy4⟩ := ix_popI_s hy3
      obtain ⟨q0, st5, rfl, hy5⟩ := ix_popR_s hy4
      obtain ⟨h8, hy⟩ := ix_bif_s hy5
      refine ix_copy hC P hy (hneed _ ?_) hL.1 (Nat.le_of_ble_eq_true h8) hdec (fun h' H1 locs1 hw P' => (hn _ _ _ hw).2 la H1 locs1 cells slots hL P')
      unfold ix_need
      dsimp only
      rw [hk2]
      exact List.mem_cons_self
    | false =>
      rw [hk2] at hx
      have hkne : ¬ k = 2 := fun z => by rw [z] at hk2; cases hk2
      obtain ⟨as, st', y, h1, h2, h3, h4, h5⟩ := ix_call_s hx
      obtain ⟨mj, rj, g1, g2, g3, g4⟩ := hcl _ _ _ _ h4
      rw [g1] at hok
      have hok' := hok.resolve_left hkne
      simp only [decide_eq_true_eq] at hok'
      obtain ⟨ha0, hst, hbn, hbl, hrt⟩ := hok'
      subst h2
      have hPn := (hn _ _ _ h5).1
      have q1 := hPn.1
      have q2 := hPn.2
      refine ix_invS (v := v) hC P g3 (g4 (by omega)) g2 (by omega) (by omega) (hAll.1 a mj g1) (hAll.2 a mj ha0 g1) hst (by omega) h3 (hneed _ ?_) hL.1 hdec (fun H1 locs1 cells1 slots1 P' => ?_)
      · unfold ix_need
        dsimp only
        rw [hk2, g1]
        exact List.mem_cons_self
      · have hW := (hn _ _ _ h5).2 la H1 locs1 cells1 slots1 hL P'
        cases hmr : mj.2.2.2.1 with
        | none =>
          have hk0 : k = 0 := hrt.mp hmr
          rw [hk0] at hW
          unfold ix_rv
          rw [hmr]
          exact hW
        | some ty =>
          have hk0 : ¬ k = 0 := fun z => by have := hrt.mpr z; rw [hmr] at this; cases this
          have hkb : Nat.beq k 0 = false := by
            cases hz : Nat.beq k 0
            · rfl
            · exact absurd (ix_beq hz) hk0
          rw [hkb] at hW
          unfold ix_rv
          rw [hmr]
          exact hW
  case invokevirtual i =>
    simp only [ix_okb, Bool.and_eq_true, decide_eq_true_eq] at hok
    obtain ⟨⟨rfl, hdd⟩, hok⟩ := hok
    obtain ⟨rr, w1, w2, hx⟩ := ix_recv_s (show ix_recv h b d st (ix_call (ix_D0 cl) nx ls st h a b k) = some x from hx)
    obtain ⟨as, st', y, h1, h2, h3, h4, h5⟩ := ix_call_s hx
    obtain ⟨mj, rj, g1, g2, g3, g4⟩ := hcl _ _ _ _ h4
    rw [g1] at hok
    simp only [decide_eq_true_eq] at hok
    obtain ⟨ha0, hst, hni, hcd, hbn, hbl, hrt⟩ := hok
    obtain ⟨as', rfl⟩ := ix_as_head h1 h2 (by omega) w1
    subst h2
    have hPn := (hn _ _ _ h5).1
    have q1 := hPn.1
    have q2 := hPn.2
    have hl1 : as'.length + 1 = b := h1
    refine ix_invV (v := v) (d := d) hC P g3 (g4 (by show as'.length + 1 ≤ _; omega)) g2 (by omega) (by omega) (hAll.1 a mj g1) (hAll.2 a mj ha0 g1) hst hni hdd hcd w2 (by omega) h3 (hneed _ ?_) hL.1 hdec (fun H1 locs1 cells1 slots1 P' => ?_)
    · unfold ix_need
      dsimp only
      rw [g1]
      exact List.mem_cons_self
    · have hW := (hn _ _ _ h5).2 la H1 locs1 cells1 slots1 hL P'
      cases hmr : mj.2.2.2.1 with
      | none =>
        have hk0 : k = 0 := hrt.mp hmr
        rw [hk0] at hW
        unfold ix_rv
        rw [hmr]
        exact hW
      | some ty =>
        have hk0 : ¬ k = 0 := fun z => by have := hrt.mpr z; rw [hmr] at this; cases this
        have hkb : Nat.beq k 0 = false := by
          cases hz : Nat.beq k 0
          · rfl
          · exact absurd (ix_beq hz) hk0
        rw [hkb] at hW
        unfold ix_rv
        rw [hmr]
        exact hW
  case invokespecial i =>
    simp only [ix_okb, Bool.and_eq_true, Bool.or_eq_true, decide_eq_true_eq] at hok
    obtain ⟨rfl, hok⟩ := hok
    unfold ix_ex at hx
    dsimp only at hx
    cases hk2 : Nat.beq k 2 with
    | true =>
      rw [hk2] at hx
      obtain ⟨q, st1, rfl, hy⟩ := ix_popR_s hx
      obtain ⟨h8, hy⟩ := ix_bif_s hy
      have h8' : st1.length ≤ 8 := Nat.le_of_ble_eq_true h8
      have hlink : Cond.methodLink mm.1.cls i objectInit ∈ ix_tb := by
        refine hneed _ ?_
        unfold ix_need
        dsimp only
        rw [hk2]
        exact List.mem_cons_self
      refine W.objInit hx0 hb hown (hts _ hlink) (hts _ (ix_glob _ (by simp))) (hts _ (ix_glob _ (by simp))) rfl (hL.1.trans hml.symm) rfl hdec (by omega) ?_ ((hn _ _ _ hy).2 la H locs cells slots hL P)
      show 2 * 0 + ((st1.map (ix_v base xa)).map fun v => v.category).sum + 12 ≤ R.locals
      rw [ix_cat_sum]
      omega
    | false =>
      rw [hk2] at hx
      have hkne : ¬ k = 2 := fun z => by rw [z] at hk2; cases hk2
      obtain ⟨rr, w1, w2, hx⟩ := ix_recv_s hx
      obtain ⟨as, st', y, h1, h2, h3, h4, h5⟩ := ix_call_s hx
      obtain ⟨mj, rj, g1, g2, g3, g4⟩ := hcl _ _ _ _ h4
      rw [g1] at hok
      have hok' := hok.resolve_left hkne
      simp only [decide_eq_true_eq] at hok'
      obtain ⟨ha0, hst, hni, hbn, hbl, hrt, hk0⟩ := hok'
      obtain ⟨as', rfl⟩ := ix_as_head h1 h2 (by omega) w1
      subst h2
      have hPn := (hn _ _ _ h5).1
      have q1 := hPn.1
      have q2 := hPn.2
      have hl1 : as'.length + 1 = b := h1
      refine ix_invI (v := v) hC P g3 (g4 (by show as'.length + 1 ≤ _; omega)) g2 (by omega) (by omega) (hAll.1 a mj g1) (hAll.2 a mj ha0 g1) hst hni hrt (by omega) h3 (hneed _ ?_) hL.1 hdec (fun H1 locs1 cells1 slots1 P' => ?_)
      · unfold ix_need
        dsimp only
        rw [hk2, g1]
        exact List.mem_cons_self
      · have hW := (hn _ _ _ h5).2 la H1 locs1 cells1 slots1 hL P'
        rw [hk0] at hW
        unfold ix_rv
        rw [hrt]
        exact hW
  case ireturn =>
    simp only [ix_okb, decide_eq_true_eq] at hok
    obtain ⟨rfl, hok⟩ := hok
    rcases st with _ | ⟨y, _ | ⟨z, st⟩⟩
    · cases hx
    · cases y <;> first | (cases hx; done) | skip
      rename_i y
      obtain ⟨h1, h2⟩ := ix_nar_s (show ix_nar a y (some (.int y, h)) = some x from hx)
      cases h1
      have hty : ∃ ty, mm.2.2.2.1 = some ty ∧ ((a = 0 ∧ ty = .int) ∨ (a = 1 ∧ ty = .boolean) ∨ (a = 2 ∧ ty = .byte) ∨ (a = 3 ∧ ty = .char)) := by
        rcases hok with ⟨g1, g2⟩ | ⟨g1, g2⟩ | ⟨g1, g2⟩ | ⟨g1, g2⟩
        · exact ⟨_, g2, Or.inl ⟨g1, rfl⟩⟩
        · exact ⟨_, g2, Or.inr (Or.inl ⟨g1, rfl⟩)⟩
        · exact ⟨_, g2, Or.inr (Or.inr (Or.inl ⟨g1, rfl⟩))⟩
        · exact ⟨_, g2, Or.inr (Or.inr (Or.inr ⟨g1, rfl⟩))⟩
      obtain ⟨ty, g1, g2⟩ := hty
      exact hret pc _ la H locs cells slots (Or.inl ⟨y, ty, rfl, rfl, hdec, g1, ix_nar_ok h2 g2⟩) P
    · cases hx
  case areturn =>
    simp only [ix_okb, Bool.and_eq_true, decide_eq_true_eq] at hok
    obtain ⟨rfl, hok⟩ := hok
    rcases st with _ | ⟨y, _ | ⟨z, st⟩⟩
    · cases hx
    · cases y <;> first | (cases hx; done) | skip
      rename_i y
      cases hx
      cases hmr : mm.2.2.2.1 with
      | none => rw [hmr] at hok; cases hok
      | some rt =>
        rw [hmr] at hok
        refine hret pc _ la H locs cells slots (Or.inr (Or.inl ⟨y, rt, rfl, rfl, hdec, hmr, ?_⟩)) P
        cases rt <;> first | (cases hok; done) | exact Or.inl ⟨_, rfl⟩ | exact Or.inr ⟨_, rfl⟩
    · cases hx
  case return_ =>
    simp only [ix_okb, decide_eq_true_eq] at hok
    obtain ⟨rfl, hok⟩ := hok
    rcases st with _ | ⟨y, st⟩
    · cases hx
      exact hret pc _ la H locs cells slots (Or.inr (Or.inr ⟨rfl, rfl, hdec, hok⟩)) P
    · cases hx
  all_goals (exfalso; cases hx)
end Mn
end
section
section Sd
variable {base : Nat} {xa : Nat → Nat} {cI cB cR : ClassId} {D : va_G} {L : Nat} {xs : Nat → Int32}
variable {p : Program} {l : Launch} {e : Env} {R : Room} {s : State} {m : MethodId} {args : Array Value} {below : List Frame} {meth : Method} {c : Code} {Q : State → Prop}
theorem ix_go_W (hAll : ix_All) {mm : ix_M} {r0 n0 z0 : Nat} (C : ix_Cx base xa cI cB cR D L xs mm r0 p R s m args meth c) (hGd : ix_Gd mm) {x : Value × ix_H} (hrc : x.2.1.length ≤ n0 + R.cells) (hrs : ix_sz x.2.1 ≤ z0 + R.slots)
    (hret : ∀ pc st la H locs cells slots, ix_Rt base xa mm x.1 pc st → ix_Pt base xa cI cB cR D L xs s n0 z0 x.2 H locs cells slots → W p l e R s m args below meth c H locs cells slots Q (F0 m pc la st))
    {cb : ix_JP} {cl : ix_CL} (hcl : ix_Cl base xa cI cB cR D l L xs r0 cl) (hbP : ∀ t ls st h x, cb t ls st h = some x → ix_P h.1 x.2) (hcP : ∀ a as h x, cl a as h = some x → ix_P h.1 x.2)
    (hcb : ∀ t ls st h, cb t ls st h = some x → ix_Wt base xa cI cB cR D L xs p l e R s m args below meth c Q n0 z0 mm.2.2.1 t ls st h) :
    ∀ (k : Nat) (rest : List ix_E), (∀ e0 ∈ rest, e0 ∈ mm.2.2.2.2.2.2) → ∀ (pc : Nat) (ls : ix_L) (st : List Value) (h : ix_H), ix_go mm.2.2.2.2.2.2 cb (ix_D0 cl) k rest pc ls st h = some x → ix_Wt base xa cI cB cR D L xs p l e R s m args below meth c Q n0 z0 mm.2.2.1 pc ls st h := by
  intro k
  induction k with
  | zero => intro rest _ pc ls st h hx; exact absurd hx (by simp [ix_go])
  | succ k ih =>
    intro rest hin pc ls st h hx
    rcases rest with _ | ⟨e0, rest⟩
    · exact absurd hx (by simp [ix_go])
    · unfold ix_go at hx
      obtain ⟨h1, hx⟩ := ix_bif_s hx
      have hpc := ix_beq h1
      subst hpc
      rcases hr : e0.2.2.2.1 with _ | kp
      · rw [hr] at hx
        exact ix_step hAll C hGd hrc hrs hret hcl e0 (hin e0 List.mem_cons_self) (fun ls st h hx => ⟨ix_go_P _ hbP hcP _ _ _ _ _ _ _ hx, ih rest (fun q hq => hin q (List.mem_cons_of_mem _ hq)) _ ls st h hx⟩) (fun t ls st h hx => ih (ix_fd mm.2.2.2.2.2.2 t) (fun q hq => (List.dropWhile_sublist _).subset hq) t ls st h hx) ls st h hx
      · rw [hr] at hx
        have hW := hcb _ _ _ _ hx
        exact fun la H locs cells slots hL P => hW la H locs cells slots (hL.mask kp) P
theorem ix_at_W (hAll : ix_All) {mm : ix_M} {r0 n0 z0 : Nat} (C : ix_Cx base xa cI cB cR D L xs mm r0 p R s m args meth c) (hGd : ix_Gd mm) {x : Value × ix_H} (hrc : x.2.1.length ≤ n0 + R.cells) (hrs : ix_sz x.2.1 ≤ z0 + R.slots)
    (hret : ∀ pc st la H locs cells slots, ix_Rt base xa mm x.1 pc st → ix_Pt base xa cI cB cR D L xs s n0 z0 x.2 H locs cells slots → W p l e R s m args below meth c H locs cells slots Q (F0 m pc la st))
    {cb : ix_JP} {cl : ix_CL} (hcl : ix_Cl base xa cI cB cR D l L xs r0 cl) (hbP : ∀ t ls st h x, cb t ls st h = some x → ix_P h.1 x.2) (hcP : ∀ a as h x, cl a as h = some x → ix_P h.1 x.2)
    (hcb : ∀ t ls st h, cb t ls st h = some x → ix_Wt base xa cI cB cR D L xs p l e R s m args below meth c Q n0 z0 mm.2.2.1 t ls st h)
    (pc : Nat) (ls : ix_L) (st : List Value) (h : ix_H) (hx : ix_at mm.2.2.2.2.2.2 cb (ix_D0 cl) pc ls st h = some x) : ix_Wt base xa cI cB cR D L xs p l e R s m args below meth c Q n0 z0 mm.2.2.1 pc ls st h := by
  unfold ix_at at hx
  have hsub : ∀ t, ∀ q ∈ ix_fd mm.2.2.2.2.2.2 t, q ∈ mm.2.2.2.2.2.2 := fun t q hq => (List.dropWhile_sublist _).subset hq
  rcases hq : ix_fd mm.2.2.2.2.2.2 pc with _ | ⟨e0, rest⟩
  · rw [hq] at hx; exact absurd hx (by simp)
  · rw [hq] at hx
    have hmem : ∀ q ∈ e0 :: rest, q ∈ mm.2.2.2.2.2.2 := fun q h => hsub pc q (by rw [hq]; exact h)
    have hpc : e0.1 = pc := by
      have h2 : (!Nat.beq e0.1 pc) ≠ true := by
        have := List.head_dropWhile_not (fun e => !Nat.beq e.1 pc) (l := mm.2.2.2.2.2.2) (by
          intro hz
          have : ix_fd mm.2.2.2.2.2.2 pc = [] := hz
          rw [hq] at this
          cases this)
        have h3 : (List.dropWhile (fun e => !Nat.beq e.1 pc) mm.2.2.2.2.2.2) = e0 :: rest := hq
        simp only [h3, List.head_cons] at this
        rw [this]
        decide
      cases hz : Nat.beq e0.1 pc
      · rw [hz] at h2; exact absurd rfl h2
      · exact ix_beq hz
    subst hpc
    have go := ix_go_W hAll C hGd hrc hrs hret hcl hbP hcP hcb
    exact ix_step hAll C hGd hrc hrs hret hcl e0 (hmem e0 List.mem_cons_self) (fun ls st h hx => ⟨ix_go_P _ hbP hcP _ _ _ _ _ _ _ hx, go 3000 rest (fun q hq => hmem q (List.mem_cons_of_mem _ hq)) _ ls st h hx⟩) (fun t ls st h hx => go 3000 (ix_fd mm.2.2.2.2.2.2 t) (hsub t) t ls st h hx) ls st h hx
end Sd
/-- what the interpreter says of a frame of method mi, the machine does -/
def ix_Snd (base : Nat) (xa : Nat → Nat) (cI cB cR : ClassId) (D : va_G) (l : Launch) (L : Nat) (xs : Nat → Int32) (n : Nat) : Prop :=
  ∀ (mi r pc : Nat) (ls : ix_L) (st : List Value) (h : ix_H) (x : Value × ix_H), ix_sem n mi r pc ls st h = some x → ∀ mm, ix_n ix_ms mi = some mm →
    ∀ (p : Program) (e : Env) (R : Room) (s : State) (m : MethodId) (args : Array Value) (below : List Frame) (meth : Method) (c : Code) (Q : State → Prop) (n0 z0 : Nat), ix_Cx base xa cI cB cR D L xs mm r p R s m args meth c → x.2.1.length ≤ n0 + R.cells → ix_sz x.2.1 ≤ z0 + R.slots →
    (∀ pc st la H locs cells slots, ix_Rt base xa mm x.1 pc st → ix_Pt base xa cI cB cR D L xs s n0 z0 x.2 H locs cells slots → W p l e R s m args below meth c H locs cells slots Q (F0 m pc la st)) →
    ix_Wt base xa cI cB cR D L xs p l e R s m args below meth c Q n0 z0 mm.2.2.1 pc ls st h
section Se
variable {base : Nat} {xa : Nat → Nat} {cI cB cR : ClassId} {D : va_G} {l : Launch} {L : Nat} {xs : Nat → Int32}
theorem ix_lv_args (as : List Value) : ∀ (k i : Nat) (v : Value), as[i]? = some v → (k + i, ix_v base xa v) ∈ lv_args k (as.map (ix_v base xa)) := by
  induction as with
  | nil => intro k i v h; simp at h
  | cons a as ih =>
    intro k i v h
    simp only [List.map_cons, lv_args, ix_v_cat]
    cases i with
    | zero =>
      simp only [List.getElem?_cons_zero, Option.some.injEq] at h
      subst h
      exact List.mem_cons_self
    | succ i =>
      simp only [List.getElem?_cons_succ] at h
      have := ih (k + 1) i v h
      rw [show k + (i + 1) = k + 1 + i by omega]
      exact List.mem_cons_of_mem _ this
theorem ix_lg_len (as : List Value) : (lg_sl (as.map (ix_v base xa))).length = as.length := by
  induction as with
  | nil => rfl
  | cons a as ih =>
    simp only [lg_sl, List.map_cons, List.flatMap_cons, ix_v_cat] at ih ⊢
    simp only [List.length_append, ih, List.length_cons]
    simp
    omega
theorem ix_rk_pos {mi : Nat} {mm : ix_M} (h : ix_n ix_ms mi = some mm) (as : List Value) : 1 ≤ ix_rk mi as := by
  have hlen : ix_ms.length = 299 := by decide +kernel
  have h1 : mi < 299 := by
    have := ix_n_lt h
    rw [hlen] at this
    exact this
  have h2 : ∀ k, k < 299 → ∃ q ∈ ix_rks, ix_n ix_rks k = some q ∧ 1 ≤ q.1 := by decide +kernel
  obtain ⟨⟨b, f⟩, -, h3, h4⟩ := h2 mi h1
  unfold ix_rk
  rw [h3]
  have h5 : 1 ≤ b := h4
  cases f with
  | zero => exact h5
  | succ f =>
    dsimp only
    split <;> omega
/-- a method's contract out of what the interpreter says -/
theorem ix_met {n : Nat} (hS : ix_Snd base xa cI cB cR D l L xs n) {mj : Nat} {mm : ix_M} (hm : ix_n ix_ms mj = some mm) (hGd : ix_Gd mm) {as : List Value} {h : ix_H} {y : Value × ix_H} (hx : ix_sem n mj (ix_rk mj as) 0 (ix_in mj as) [] h = some y) (hlen : as.length ≤ mm.2.2.1) : ix_Mt base xa cI cB cR D l L xs mm (ix_rk mj as) as h y := by
  have hPy := ix_sem_P _ _ _ _ _ _ _ _ hx
  have hnb := hGd.2
  simp only [ix_nmb, Bool.and_eq_true] at hnb
  refine Met.ofW (cc := mm.2.1) (maxL := mm.2.2.1) (ret := mm.2.2.2.1) hnb.1 rfl ?_
  intro p e s m args below meth c s₁ B hml hv
  obtain ⟨rfl, hR, hX, hK, hE, hsz, hNw⟩ := hv
  have hts0 := atoms_spec (ws := ix_wd mm) B.pre
  have hl := lv_entry (as.map (ix_v base xa)) (n := mm.2.2.1) (by rw [ix_lg_len]; exact hlen)
  rw [lg_entry_eq]
  generalize (lg_sl (as.map (ix_v base xa)) ++ List.replicate (mm.2.2.1 - (lg_sl (as.map (ix_v base xa))).length) Slot.unset).toArray = la at hl ⊢
  have hin : ix_mL mj = mm.2.2.1 := by unfold ix_mL; rw [hm]
  have hL : ix_Lo base xa mm.2.2.1 (ix_in mj as) la := by
    refine ⟨hl.1, ?_, hl.2.1, fun i v hi => ?_⟩
    · unfold ix_in
      rw [hin, List.length_append, List.length_map, List.length_replicate]
      omega
    · unfold ix_in at hi
      by_cases hi2 : i < as.length
      · rw [List.getElem?_append_left (by rw [List.length_map]; exact hi2), List.getElem?_map] at hi
        obtain ⟨w, h1, h2⟩ := Option.map_eq_some_iff.mp hi
        cases h2
        have := hl.2.2 _ (ix_lv_args (base := base) (xa := xa) as 0 i v h1)
        rw [Nat.zero_add] at this
        exact this
      · rw [List.getElem?_append_right (by rw [List.length_map]; omega), List.getElem?_replicate] at hi
        split at hi <;> cases hi
  have hCx : ix_Cx base xa cI cB cR D L xs mm (ix_rk mj as) p (headSpec (ix_wd mm) (ix_rm (ix_rk mj as) (y.2.1.length - h.1.length) (ix_sz y.2.1 - ix_sz h.1))).room s m (as.map (ix_v base xa)).toArray meth c :=
    ⟨B.exec, B.bytes, B.returns, B.notSynchronized, hml, findClass_of_methodNamed B.named, fun w hw => (by
      obtain ⟨h1, h2⟩ := List.mem_filter.mp hw
      unfold ix_use at h2
      rcases Bool.or_eq_true_iff.mp h2 with h3 | h3
      · exact hts0 w (List.mem_cons_of_mem _ (List.mem_filter.mpr ⟨h1, h3⟩))
      · exact ix_bad_same h3 rfl (hNw w hw h3)), fun hz => (name_of_methodNamed B.named B.method).1.trans hz, hK, hE, Nat.le_refl _, Nat.le_refl _, ix_rk_pos hm as⟩
  have hPt : ix_Pt base xa cI cB cR D L xs s h.1.length (ix_sz h.1) h s.heap [] 0 0 := ⟨hR, hX, va_S.rf, hsz, Nat.zero_add _, Nat.zero_add _⟩
  have a1 := hPy.1
  have a2 := hPy.2
  refine hS mj (ix_rk mj as) 0 (ix_in mj as) [] h y hx mm hm p e _ s m _ below meth c _ h.1.length (ix_sz h.1) hCx (by show _ ≤ _ + (y.2.1.length - h.1.length); omega) (by show _ ≤ _ + (ix_sz y.2.1 - ix_sz h.1); omega) ?_ la s.heap [] 0 0 hL hPt
  intro pc st la H locs cells slots hRt P
  have b1 := P.2.2.2.2.1
  have b2 := P.2.2.2.2.2
  have hc1 : y.2.1.length - h.1.length = cells := by omega
  have hc2 : ix_sz y.2.1 - ix_sz h.1 = slots := by omega
  have hlk : meth.locks = false := B.notSynchronized
  rw [hc1, hc2]
  rcases hRt with ⟨iv, ty, h1, rfl, hd, g1, g2⟩ | ⟨a, rt, h1, rfl, hd, g1, g2⟩ | ⟨h1, rfl, hd, g1⟩
  · refine W.zret B.exec B.bytes (B.returns.trans g1) g2 (fun t ht hW => ⟨?_, by rw [ht]; exact P.1, P.2.1, P.2.2.1.F ht⟩) P.2.2.1.2.2 hd hlk
    unfold ix_rv
    rw [g1, h1]
    rfl
  · refine W.aret B.exec B.bytes (B.returns.trans g1) g2 (Or.inr ⟨_, rfl⟩) (fun t ht hW => ⟨?_, by rw [ht]; exact P.1, P.2.1, P.2.2.1.F ht⟩) P.2.2.1.2.2 hd hlk
    unfold ix_rv
    rw [g1, h1]
    rfl
  · refine W.vret B.exec B.bytes (B.returns.trans g1) (fun t ht hW => ⟨?_, by rw [ht]; exact P.1, P.2.1, P.2.2.1.F ht⟩) P.2.2.1.2.2 hd hlk
    unfold ix_rv
    rw [g1]
theorem ix_sound (hAll : ix_All) : ∀ n, ix_Snd base xa cI cB cR D l L xs n := by
  intro n
  induction n with
  | zero => intro mi r pc ls st h x hx; exact absurd hx (by simp [ix_sem])
  | succ n ih =>
    intro mi r pc ls st h x hx mm hm p e R s m args below meth c Q n0 z0 C hrc hrs hret
    have htab : ix_tab mi = mm.2.2.2.2.2.2 := by unfold ix_tab; rw [hm]
    have hx' : ix_at (ix_tab mi) (ix_sem n mi r) (ix_D0 (ix_clS (ix_sem n) r)) pc ls st h = some x := hx
    rw [htab] at hx'
    refine ix_at_W hAll C (hAll.1 mi mm hm) hrc hrs hret (cl := ix_clS (ix_sem n) r) ?_ (fun t ls st h x hx => ix_sem_P n mi r t ls st h x hx) (ix_clS_P (ix_sem_P n) r) (fun t ls st h hx => ih mi r t ls st h x hx mm hm p e R s m args below meth c Q n0 z0 C hrc hrs hret) pc ls st h hx'
    intro a as h' y hy
    unfold ix_clS at hy
    obtain ⟨h1, hy⟩ := ix_bif_s hy
    have hlt : ix_rk a as < r := Nat.le_of_ble_eq_true h1
    rcases hma : ix_n ix_ms a with _ | mj
    · exfalso
      cases n with
      | zero => exact absurd hy (by simp [ix_sem])
      | succ n =>
        have hy' : ix_at (ix_tab a) (ix_sem n a (ix_rk a as)) (ix_D0 (ix_clS (ix_sem n) (ix_rk a as))) 0 (ix_in a as) [] h' = some y := hy
        have ht : ix_tab a = [] := by unfold ix_tab; rw [hma]
        rw [ht] at hy'
        cases hy'
    · exact ⟨mj, ix_rk a as, rfl, hlt, ix_sem_P _ _ _ _ _ _ _ _ hy, fun hlen => ix_met ih hma (hAll.1 a mj hma) hy hlen⟩
end Se
end
section
/-! the claim out of what the interpreter says of the law -/
/-! THE CLAIM OUT OF ONE WALK OF THE LAW'S BODY. Your part is whole_start (and what it stands on); all else here is the same for every law, but numbers. -/
def R_law : String := "VotedBankLaw"
def lw_P (b : Addr) (xs : List Int32) (args : Array Value) (s : State) : Prop := args = #[.ref b] ∧ s.IntsAt b xs ∧ xs.length ≤ 3072 ∧ (Jvm.Cond.and given_1 narrow_1).before args s = true
def lw_Q (_ : Array Value) (s : State) (o : Outcome) (t : State) : Prop := o = .returned (some (.int 1)) ∧ Framed s o t [] 600000 7302250
def lw_Z (below : List Frame) (a : Array Value) (s : State) : State → Prop := fun t => ∃ o, t.status = .running ∧ Ended t below o ∧ lw_Q a s o t
/-- the law's own end, with 1 on the stack, nothing written that was there before, its room as the claim has it -/
theorem lw_ret {p : Program} {l : Launch} {e : Env} {s : State} {m : MethodId} {below : List Frame} {meth : Method} {c : Code} {b : Nat} (hx : p.tables.exec = Jvm.exec) (hb : c.code = code) (hr : meth.sig.returnType = ret) (hlocks : meth.locks = false) {pc : Nat} {H : Heap} {ls : Array Slot} (hdg : decode code pc = .ok (.ireturn, 1)) : W p l e room_1 s m #[Value.ref b] below meth c H [] 600000 7302250 (lw_Z below #[Value.ref b] s) (F0 m pc ls [.int 1]) := by
  intro T hT X
  obtain ⟨fs, hret, hrun, hended, hW, hframe⟩ := X.leave (v := some (.int 1)) (hlocks := hlocks) (fun h => by rw [hr] at h; cases h)
  have hmeth' : T.vm.method? m = some meth := X.method'
  refine ⟨T.setFrames fs, ?_, .returned (some (.int 1)), hrun, hended, rfl, ⟨_, rfl⟩, hW, hframe⟩
  jvm_step X.here [X.here.top, hx, hb, hdg, hmeth', hr, ret, narrow_b1]
  (try refine ⟨rfl, ?_⟩); (try refine ⟨rfl, ?_⟩)
  first | (intro acts; rw [hret _ acts rfl rfl rfl]) | rw [hret _ _ rfl rfl rfl]
  exact Steps.refl _
/-- what holds at the law's entry: the machine, the code, the tables' words (any of lw_tbl by 'hts w (by decide +kernel)'), the script of L ints xs at the cell b, what the Statement gives of the start (any of its parts by flat_of_before) -/
def lw_At (p : Program) (s : State) (m : MethodId) (meth : Method) (c : Code) (b L : Nat) (xs : Nat → Int32) : Prop :=
  p.tables.exec = Jvm.exec ∧ c.code = code ∧ meth.sig.returnType = ret ∧ c.maxLocals = 4 ∧ s.vm.findClass R_law = some m.cls ∧ (∀ w ∈ lw_tbl, w.before #[Value.ref b] s = true) ∧ va_X b L xs s s.heap ∧ b < s.heap.size ∧ meth.locks = false ∧ (Jvm.Cond.and given_1 narrow_1).before #[Value.ref b] s = true

abbrev ix_fc : List Cond := flatC (Jvm.Cond.and given_1 narrow_1)
theorem ix_mem_f {ws : List Cond} (ps : List Nat) (h : ws = ps.filterMap (fun i => ix_fc[i]?)) : ∀ w ∈ ws, w ∈ ix_fc := by
  intro w hw
  rw [h] at hw
  obtain ⟨i, -, hi⟩ := List.mem_filterMap.mp hw
  exact List.mem_of_getElem? hi
set_option maxRecDepth 100000 in
theorem ix_fr : ∀ w ∈ (List.range 120).map (fun j => Cond.eq (.elem (.static "VotedBank" "RANKS" "[I") (.int (Int32.ofNat j))) (.int (ix_rnk.getD j 0))), w ∈ ix_fc := ix_mem_f [12, 13, 14, 15, 16, 17, 18, 19, 20, 21, 22, 23, 24, 25, 26, 27, 28, 29, 30, 31, 32, 33, 34, 35, 36, 37, 38, 39, 40, 41, 42, 43, 44, 45, 46, 47, 48, 49, 50, 51, 52, 53, 54, 55, 56, 57, 58, 59, 60, 61, 62, 63, 64, 65, 66, 67, 68, 69, 70, 71, 72, 73, 74, 75, 76, 77, 78, 79, 80, 81, 82, 83, 84, 85, 86, 87, 88, 89, 90, 91, 92, 93, 94, 95, 96, 97, 98, 99, 100, 101, 102, 103, 104, 105, 106, 107, 108, 109, 110, 111, 112, 113, 114, 115, 116, 117, 118, 119, 120, 121, 122, 123, 124, 125, 126, 127, 128, 129, 130, 131] (by decide +kernel)
theorem ix_fo : ∀ w ∈ ([.eq (.length (.static "VotedBank" "RANKS" "[I")) (.int (Int32.ofNat 120)), .arrayOf (.static "VotedBank" "RANKS" "[I") .int, .eq (.static "java/lang/String" "COMPACT_STRINGS" "Z") (.int 1)] : List Cond), w ∈ ix_fc := ix_mem_f [11, 10, 4] (by decide +kernel)
def ix_tm : Nat → Term
  | 0 => .string "VotedBank$Parser" 75
  | 1 => .string "VotedBank$Parser" 77
  | 2 => .string "VotedBank$Parser" 79
  | 3 => .string "VotedBank$Parser" 81
  | _ => .string "VotedBank$Tape" 48
theorem ix_fs1 : ∀ w ∈ (List.range 5).flatMap (fun i => ([.exactly (ix_tm i) "java/lang/String", .eq (.field (ix_tm i) "java/lang/String" "coder" "B") (.int 0), .arrayOf (.field (ix_tm i) "java/lang/String" "value" "[B") .byte, .eq (.length (.field (ix_tm i) "java/lang/String" "value" "[B")) (.int (Int32.ofNat (ix_lens.getD i 0)))] : List Cond)), w ∈ ix_fc := ix_mem_f [132, 133, 134, 135, 234, 235, 236, 237, 254, 255, 256, 257, 268, 269, 270, 271, 289, 290, 291, 292] (by decide +kernel)
set_option maxRecDepth 100000 in
theorem ix_fe0 : ∀ w ∈ (List.range (ix_lens.getD 0 0)).map (fun j => Cond.eq (.elem (.field (ix_tm 0) "java/lang/String" "value" "[B") (.int (Int32.ofNat j))) (.int ((ix_byt.getD 0 []).getD j 0))), w ∈ ix_fc := ix_mem_f [136, 137, 138, 139, 140, 141, 142, 143, 144, 145, 146, 147, 148, 149, 150, 151, 152, 153, 154, 155, 156, 157, 158, 159, 160, 161, 162, 163, 164, 165, 166, 167, 168, 169, 170, 171, 172, 173, 174, 175, 176, 177, 178, 179, 180, 181, 182, 183, 184, 185, 186, 187, 188, 189, 190, 191, 192, 193, 194, 195, 196, 197, 198, 199, 200, 201, 202, 203, 204, 205, 206, 207, 208, 209, 210, 211, 212, 213, 214, 215, 216, 217, 218, 219, 220, 221, 222, 223, 224, 225, 226, 227, 228, 229, 230, 231, 232, 233] (by decide +kernel)
set_option maxRecDepth 100000 in
theorem ix_fe1 : ∀ w ∈ (List.range (ix_lens.getD 1 0)).map (fun j => Cond.eq (.elem (.field (ix_tm 1) "java/lang/String" "value" "[B") (.int (Int32.ofNat j))) (.int ((ix_byt.getD 1 []).getD j 0))), w ∈ ix_fc := ix_mem_f [238, 239, 240, 241, 242, 243, 244, 245, 246, 247, 248, 249, 250, 251, 252] (by decide +kernel)
set_option maxRecDepth 100000 in
theorem ix_fe2 : ∀ w ∈ (List.range (ix_lens.getD 2 0)).map (fun j => Cond.eq (.elem (.field (ix_tm 2) "java/lang/String" "value" "[B") (.int (Int32.ofNat j))) (.int ((ix_byt.getD 2 []).getD j 0))), w ∈ ix_fc := ix_mem_f [258, 259, 260, 261, 262, 263, 264, 265] (by decide +kernel)
set_option maxRecDepth 100000 in
theorem ix_fe3 : ∀ w ∈ (List.range (ix_lens.getD 3 0)).map (fun j => Cond.eq (.elem (.field (ix_tm 3) "java/lang/String" "value" "[B") (.int (Int32.ofNat j))) (.int ((ix_byt.getD 3 []).getD j 0))), w ∈ ix_fc := ix_mem_f [272, 273, 274, 275, 276, 277, 278, 279, 280, 281, 282, 283, 284, 285] (by decide +kernel)
set_option maxRecDepth 100000 in
theorem ix_fe4 : ∀ w ∈ (List.range (ix_lens.getD 4 0)).map (fun j => Cond.eq (.elem (.field (ix_tm 4) "java/lang/String" "value" "[B") (.int (Int32.ofNat j))) (.int ((ix_byt.getD 4 []).getD j 0))), w ∈ ix_fc := ix_mem_f [293, 294, 295, 296, 297, 298, 299, 300, 301, 302] (by decide +kernel)
def ix_prs : List (Nat × Nat) := [(0, 1), (0, 2), (1, 2), (0, 3), (1, 3), (2, 3), (0, 4), (1, 4), (2, 4), (3, 4)]
theorem ix_fn : ∀ w ∈ ix_prs.map (fun q => Cond.not (Cond.eq (ix_tm q.1) (ix_tm q.2))), w ∈ ix_fc := ix_mem_f [253, 266, 267, 286, 287, 288, 303, 304, 305, 306] (by decide +kernel)
theorem ix_mem_q {ws : List Cond} (ps : List Nat) (h : ws = ps.filterMap (fun i => lw_tbl[i]?)) : ∀ w ∈ ws, w ∈ lw_tbl := by
  intro w hw
  rw [h] at hw
  obtain ⟨i, -, hi⟩ := List.mem_filterMap.mp hw
  exact List.mem_of_getElem? hi
theorem ix_fx : ∀ w ∈ ix_txt.map (fun t => Cond.stringRef t.1 t.2.1 t.2.2.1), w ∈ lw_tbl := ix_mem_q [792, 793, 794, 795, 873] (by decide +kernel)
theorem ix_fls : ∀ w ∈ ([.laysStatic "java/lang/String" "COMPACT_STRINGS" "Z", .initialized "java/lang/String", .laysStatic "VotedBank" "RANKS" "[I", .initialized "VotedBank"] : List Cond), w ∈ lw_tbl := ix_mem_q [819, 153, 1157, 137] (by decide +kernel)
end
section
/-- the interpreter's numbers at the law's start -/
def ix_s0 (L : Nat) (xs : Nat → Int32) : ix_St := fun k j => if k = 999 then Int32.ofNat L else if k = 1000 then xs j else if k = 1001 then ix_rnk.getD j 0 else if k < 1007 then 0 else (ix_byt.getD (k - 1007) []).getD j 0
theorem ix_s0_Xs {L : Nat} (hL : L ≤ 3072) (xs : Nat → Int32) : ix_Xs L xs (ix_s0 L xs) := by
  refine ⟨hL, rfl, fun j _ => rfl, fun j _ => rfl, fun i hi j hj => ?_⟩
  unfold ix_s0
  rw [if_neg (by omega), if_neg (by omega), if_neg (by omega), if_neg (by omega), Nat.add_sub_cancel_left]
set_option maxHeartbeats 4000000 in
theorem ix_start (hAll : ix_All) {p : Program} {e : Env} {s : State} {m : MethodId} {below : List Frame} {meth : Method} {c : Code} (l : Launch) {b L : Nat} {xs : Nat → Int32} (hL : L ≤ 3072) (C0 : lw_At p s m meth c b L xs) {n : Nat} {h' : ix_H} (hx : ix_sem n 0 (ix_rk 0 [.ref 1000]) 0 (ix_in 0 [.ref 1000]) [] ([], ix_s0 L xs) = some (.int 1, h')) (hc : h'.1.length ≤ 600000) (hz : ix_sz h'.1 ≤ 7302250) :
    W p l e room_1 s m #[Value.ref b] below meth c s.heap [] 0 0 (lw_Z below #[Value.ref b] s) (entryFrame m ([Value.ref b] : List Value).toArray 4) := by
  obtain ⟨hx0, hb, hr, hml, hown, hts, hX, hbl, hlocks, hgv⟩ := C0
  have hA0 : ∀ a : Nat, a < s.heap.size → ¬ (fun q : Nat => s.heap.size ≤ q) a := fun a h1 h2 => absurd h1 (Nat.not_lt.mpr h2)
  have hfl : ∀ w ∈ ix_fc, w.before #[Value.ref b] s = true := flat_of_before _ hgv
  have htb : ∀ w ∈ ix_tb, w.before #[Value.ref b] s = true := fun w hw => hts w (List.mem_filter.mp hw).1
  obtain ⟨tR, hevR, hTR⟩ := va_Tof (args := #[Value.ref b]) (s := s) (tm := .static "VotedBank" "RANKS" "[I") (ty := .int) (N := 120) (f := fun j => .int (ix_rnk.getD j 0)) (A := fun q => s.heap.size ≤ q) (by decide) (hfl _ (ix_fo _ (by simp))) (va_eqt (hfl _ (ix_fo _ (by simp)))) (fun j hj => va_eqt (hfl _ (ix_fr _ (List.mem_map.mpr ⟨j, List.mem_range.mpr hj, rfl⟩)))) hA0
  have hZR : va_Z "VotedBank" "RANKS" "[I" (.ref tR) (fun q => s.heap.size ≤ q) s s.heap := va_Zof (hts _ (ix_fls _ (by simp))) (hts _ (ix_fls _ (by simp))) hevR hA0
  have hZC : va_Z "java/lang/String" "COMPACT_STRINGS" "Z" (.int 1) (fun q => s.heap.size ≤ q) s s.heap := va_Zof (hts _ (ix_fls _ (by simp))) (hts _ (ix_fls _ (by simp))) (va_eqi (hfl _ (ix_fo _ (by simp)))) hA0
  have hel : ∀ i : Nat, i < 5 → ∀ j : Nat, j < ix_lens.getD i 0 → (Cond.eq (.elem (.field (ix_tm i) "java/lang/String" "value" "[B") (.int (Int32.ofNat j))) (.int ((ix_byt.getD i []).getD j 0))).before #[Value.ref b] s = true := by
    intro i hi j hj
    have h5 : i = 0 ∨ i = 1 ∨ i = 2 ∨ i = 3 ∨ i = 4 := by omega
    rcases h5 with rfl | rfl | rfl | rfl | rfl
    · exact hfl _ (ix_fe0 _ (List.mem_map.mpr ⟨j, List.mem_range.mpr hj, rfl⟩))
    · exact hfl _ (ix_fe1 _ (List.mem_map.mpr ⟨j, List.mem_range.mpr hj, rfl⟩))
    · exact hfl _ (ix_fe2 _ (List.mem_map.mpr ⟨j, List.mem_range.mpr hj, rfl⟩))
    · exact hfl _ (ix_fe3 _ (List.mem_map.mpr ⟨j, List.mem_range.mpr hj, rfl⟩))
    · exact hfl _ (ix_fe4 _ (List.mem_map.mpr ⟨j, List.mem_range.mpr hj, rfl⟩))
  have hs1 : ∀ i : Nat, i < 5 → ∀ w ∈ ([.exactly (ix_tm i) "java/lang/String", .eq (.field (ix_tm i) "java/lang/String" "coder" "B") (.int 0), .arrayOf (.field (ix_tm i) "java/lang/String" "value" "[B") .byte, .eq (.length (.field (ix_tm i) "java/lang/String" "value" "[B")) (.int (Int32.ofNat (ix_lens.getD i 0)))] : List Cond), w.before #[Value.ref b] s = true := fun i hi w hw => hfl _ (ix_fs1 _ (List.mem_flatMap.mpr ⟨i, List.mem_range.mpr hi, hw⟩))
  have hne : ∀ i j : Nat, i < 5 → j < 5 → i ≠ j → (Cond.not (Cond.eq (ix_tm i) (ix_tm j))).before #[Value.ref b] s = true ∨ (Cond.not (Cond.eq (ix_tm j) (ix_tm i))).before #[Value.ref b] s = true := by
    intro i j hi hj hij
    have key : ∀ i ∈ List.range 5, ∀ j ∈ List.range 5, i = j ∨ (i, j) ∈ ix_prs ∨ (j, i) ∈ ix_prs := by decide
    rcases (key i (List.mem_range.mpr hi) j (List.mem_range.mpr hj)).resolve_left hij with h | h
    · exact Or.inl (hfl _ (ix_fn _ (List.mem_map.mpr ⟨(i, j), h, rfl⟩)))
    · exact Or.inr (hfl _ (ix_fn _ (List.mem_map.mpr ⟨(j, i), h, rfl⟩)))
  obtain ⟨adK, adV, hvk, hevK⟩ := vk_Sof (args := #[Value.ref b]) (s := s) (N := 5) (tm := ix_tm) (len := ix_lens) (byt := ix_byt) (A := fun q => s.heap.size ≤ q) (by decide) (fun i hi => hs1 i hi _ (by simp)) (fun i hi => hs1 i hi _ (by simp)) (fun i hi => hs1 i hi _ (by simp)) (fun i hi => hs1 i hi _ (by simp)) hel hne hA0
  obtain ⟨xa, hxa0, hxa1, hxaK, hxaV⟩ : ∃ xa : Nat → Nat, xa 0 = b ∧ xa 1 = tR ∧ (∀ i, i < 5 → xa (2 + i) = adK i) ∧ ∀ i, i < 5 → xa (7 + i) = adV i := by
    refine ⟨fun k => if k = 0 then b else if k = 1 then tR else if k < 7 then adK (k - 2) else adV (k - 7), rfl, rfl, fun i hi => ?_, fun i hi => ?_⟩
    · simp only
      rw [if_neg (by omega), if_neg (by omega), if_pos (by omega), Nat.add_sub_cancel_left]
    · simp only
      rw [if_neg (by omega), if_neg (by omega), if_neg (by omega), Nat.add_sub_cancel_left]
  have hTs : va_T .int (xa 0) L (fun j => .int (xs j)) (fun q => s.heap.size ≤ q) s s.heap := by
    obtain ⟨scr, h1, h2, h3, h4, h5⟩ := hX
    rw [hxa0]
    exact ⟨scr, h1, h2, h3, by omega, by rw [h4], h5, hA0 b hbl⟩
  have hvk' : vk_S 5 ix_lens ix_byt (fun i => xa (2 + i)) (fun i => xa (7 + i)) (fun q => s.heap.size ≤ q) s s.heap := by
    refine ⟨fun i hi => ?_, fun i j hi hj hij => ?_⟩
    · have := hvk.1 i hi
      simp only [hxaK i hi, hxaV i hi]
      exact this
    · simp only [hxaK i hi, hxaK j hj] at hij
      exact hvk.2 i j hi hj hij
  have hR5 : ∀ t ∈ ix_txt, vk_R t.1 t.2.1 t.2.2.1 (xa (t.2.2.2 - 1000)) s := by
    have hsr : ∀ t ∈ ix_txt, (Cond.stringRef t.1 t.2.1 t.2.2.1).before #[Value.ref b] s = true := fun t ht => hts _ (ix_fx _ (List.mem_map.mpr ⟨t, ht, rfl⟩))
    have key : ∀ t ∈ ix_txt, ∃ i, i < 5 ∧ t.2.2.2 - 1000 = 2 + i ∧ ix_tm i = .string t.1 t.2.1 := by decide
    intro t ht
    obtain ⟨i, hi, h1, h2⟩ := key t ht
    rw [h1, hxaK i hi]
    have h3 := hevK i hi
    rw [h2] at h3
    exact vk_R.of (hsr t ht) h3
  have hE : ix_Ex xa (fun q => s.heap.size ≤ q) L xs s s.heap := ⟨hTs, by rw [hxa1]; exact hTR, by rw [hxa1]; exact hZR, hZC, hvk', hR5⟩
  have hcl : ∀ ci : Nat, ∃ q : ClassId × (Nat → Nat), ∀ r, ix_cls[ci]? = some r → u_Kn s r.1 r.2.1 r.2.2 q.1 q.2 := by
    intro ci
    cases hq : ix_cls[ci]? with
    | none => exact ⟨(0, fun _ => 0), fun r hr => by cases hr⟩
    | some r =>
      have hO := ix_cls_ok ci r (by rw [ix_n_eq]; exact hq)
      obtain ⟨cC, iS, hk⟩ := u_known htb hO.1 (htb _ (hO.2.1 _ List.mem_cons_self))
      exact ⟨(cC, iS), fun r' hr' => by cases hr'; exact hk⟩
  obtain ⟨dq, hdq⟩ := Classical.axiomOfChoice hcl
  obtain ⟨cI, kI, oI, i1, i2, i3⟩ := Cond.arrayClass_spec (args := #[Value.ref b]) (first := s) (o := none) (s := s) (idx := []) (htb _ (ix_glob (.arrayClass .int) (by simp)))
  obtain ⟨cB, kB, oB, b1, b2, b3⟩ := Cond.arrayClass_spec (args := #[Value.ref b]) (first := s) (o := none) (s := s) (idx := []) (htb _ (ix_glob (.arrayClass .byte) (by simp)))
  obtain ⟨oR, cR, kR, r1, -, r2, r3, r4⟩ := Cond.arrayOver_spec (args := #[Value.ref b]) (first := s) (o := none) (s := s) (idx := []) (n := "VotedBank$River") (htb _ (ix_glob (.arrayOver (.object "VotedBank$River")) (by simp)))
  have hK : va_K (fun ci => (dq ci).1, fun ci => (dq ci).2) ix_cls (ix_tys cI cB cR) s := by
    refine ⟨fun ci r hr => hdq ci r hr, fun k q hk => ?_⟩
    rcases k with _ | _ | _ | k
    · cases hk
      exact ⟨fun N z => ⟨(fun k h => by cases h), kI, i2, oI, i3⟩, i1⟩
    · cases hk
      exact ⟨fun N z => ⟨(fun k h => by cases h), kB, b2, oB, b3⟩, b1⟩
    · cases hk
      exact ⟨fun N z => ⟨(fun k h => by cases h), kR, r2, oR, r3⟩, kR, oR, r2, r3, r1, r4⟩
    · cases hk
  have hm0 : ix_n ix_ms 0 = some ix_m0 := rfl
  have hrk : ix_rk 0 [.ref 1000] = 37 := rfl
  have hCx : ix_Cx s.heap.size xa cI cB cR (fun ci => (dq ci).1, fun ci => (dq ci).2) L xs ix_m0 (ix_rk 0 [.ref 1000]) p room_1 s m #[Value.ref b] meth c :=
    ⟨hx0, hb, hr, hlocks, hml, hown, htb, fun h => absurd h (by decide), hK, hE, by rw [hrk]; decide, by rw [hrk]; decide, by rw [hrk]; decide⟩
  have hl := lv_entry ([Value.ref b]) (n := 4) (Nat.le_of_ble_eq_true rfl)
  rw [lg_entry_eq]
  generalize (lg_sl ([Value.ref b]) ++ List.replicate (4 - (lg_sl ([Value.ref b])).length) Slot.unset).toArray = la at hl ⊢
  have hLo : ix_Lo s.heap.size xa 4 (ix_in 0 [.ref 1000]) la := by
    refine ⟨hl.1, Nat.le_refl _, hl.2.1, fun i v hi => ?_⟩
    rcases i with _ | _ | _ | _ | i
    · cases hi
      have h1 : la[0]? = some (.val (.ref b)) := hl.2.2 (0, .ref b) List.mem_cons_self
      rw [h1]
      show _ = some (Slot.val (Value.ref (ix_ad s.heap.size xa (1000 + 0))))
      rw [ix_ad_x, hxa0]
    all_goals cases hi
  have hPt : ix_Pt s.heap.size xa cI cB cR (fun ci => (dq ci).1, fun ci => (dq ci).2) L xs s 0 0 ([], ix_s0 L xs) s.heap [] 0 0 :=
    ⟨⟨fun k q hk => by simp [ix_ws] at hk, Nat.zero_le _, fun sh hsh => by cases hsh⟩, ix_s0_Xs hL xs, va_S.rf, rfl, rfl, rfl⟩
  refine ix_sound hAll n 0 (ix_rk 0 [.ref 1000]) 0 (ix_in 0 [.ref 1000]) [] ([], ix_s0 L xs) (.int 1, h') hx ix_m0 hm0 p e room_1 s m _ below meth c _ 0 0 hCx (by rw [Nat.zero_add]; exact hc) (by rw [Nat.zero_add]; exact hz) ?_ la s.heap [] 0 0 hLo hPt
  intro pc st la H locs cells slots hRt P
  have p1 : cells + 0 = h'.1.length := P.2.2.2.2.1
  have p2 : slots + 0 = ix_sz h'.1 := P.2.2.2.2.2
  rcases hRt with ⟨iv, ty, h1, rfl, hd, g1, g2⟩ | ⟨a, rt, h1, -⟩ | ⟨h1, -⟩
  · cases h1
    refine va_forget (fun q hq => P.2.2.1.2.2 q hq) ?_
    refine W.widen (k := 600000) (n := 7302250) (by omega) (by omega) ?_
    exact lw_ret hx0 hb hr hlocks hd
  · cases h1
  · cases h1
end
section
/-- methods that leave all references as they are: 1 void, 2 they answer an int, 3 a reference; 0: not one of them -/
def ix_kds : List Nat := [0, 0, 2, 2, 2, 0, 2, 0, 2, 2, 2, 2, 2, 2, 2, 2, 0, 2, 2, 2, 2, 2, 2, 2, 2, 2, 2, 2, 2, 2, 2, 2, 2, 2, 2, 2, 2, 2, 2, 2, 2, 2, 0, 1, 1, 0, 0, 0, 2, 2, 1, 2, 2, 1, 2, 0, 1, 1, 1, 2, 2, 1, 2, 2, 0, 2, 3, 2, 2, 2, 2, 2, 2, 2, 2, 2, 2, 2, 2, 2, 2, 2, 0, 1, 1, 2, 0, 2, 1, 2, 2, 1, 2, 2, 2, 2, 2, 2, 2, 1, 2, 1, 2, 2, 2, 2, 2, 1, 2, 2, 2, 2, 1, 2, 1, 2, 2, 2, 2, 2, 2, 2, 2, 2, 2, 2, 0, 1, 1, 2, 2, 2, 0, 2, 1, 1, 2, 2, 2, 2, 2, 1, 1, 2, 1, 2, 0, 2, 1, 2, 0, 1, 2, 2, 1, 2, 0, 2, 2, 2, 2, 2, 2, 2, 2, 2, 2, 2, 2, 2, 2, 2, 2, 2, 2, 2, 2, 2, 2, 2, 2, 2, 2, 2, 2, 2, 2, 2, 2, 2, 2, 2, 1, 2, 2, 1, 2, 2, 1, 2, 1, 1, 2, 2, 2, 2, 1, 2, 1, 1, 2, 2, 2, 2, 2, 2, 2, 2, 2, 2, 2, 2, 2, 2, 2, 2, 2, 1, 1, 2, 2, 1, 2, 1, 2, 2, 2, 2, 2, 1, 2, 1, 2, 2, 2, 2, 2, 2, 2, 2, 2, 2, 2, 2, 2, 2, 2, 2, 2, 2, 2, 2, 2, 2, 2, 2, 2, 2, 2, 2, 2, 2, 2, 2, 2, 2, 2, 1, 1, 2, 1, 2, 2, 2, 1, 2, 2, 2, 2, 2, 2, 2, 2, 2, 2, 2, 2, 2, 2]
def ix_kd (a : Nat) : Nat := match ix_n ix_kds a with
  | some k => k
  | none => 0
def ix_kb (mi : Nat) (e : ix_E) : Bool := match e with
  | (_, ins, _, _, a, _, c, _, _) => match ins with
    | .new _ => false
    | .newarray _ => false
    | .anewarray _ => false
    | .aastore => false
    | .putfield _ => !Nat.beq c 2
    | .invokestatic _ => Nat.beq c 2 || !Nat.beq (ix_kd a) 0
    | .invokevirtual _ => !Nat.beq (ix_kd a) 0
    | .invokespecial _ => Nat.beq c 2
    | .ireturn => Nat.beq (ix_kd mi) 2
    | .areturn => Nat.beq (ix_kd mi) 3
    | .return_ => Nat.beq (ix_kd mi) 1
    | _ => true
theorem ix_kb_all : (List.range 299).all (fun mi => Nat.beq (ix_kd mi) 0 || (ix_tab mi).all (ix_kb mi)) = true := by decide +kernel
def ix_Vk (k : Nat) (v : Value) : Prop := (k = 1 → v = .null) ∧ (k = 2 → ∃ y, v = .int y)
def ix_Q (S : List ix_Sh) (R : Value → Prop) (F : ix_CL → ix_NX → ix_JP → ix_R) : Prop :=
  (∃ x, (∀ y, x = some y → y.2.1 = S ∧ R y.1) ∧ ∀ cl nx jp, F cl nx jp = x) ∨ (∃ ls st h, h.1 = S ∧ ∀ cl nx jp, F cl nx jp = nx ls st h) ∨ (∃ t ls st h, h.1 = S ∧ ∀ cl nx jp, F cl nx jp = jp t ls st h) ∨
  ∃ (a : Nat) (as : List Value) (h : ix_H) (ls : ix_L) (f : Value × ix_H → List Value), h.1 = S ∧ ix_kd a ≠ 0 ∧ ∀ cl nx jp, F cl nx jp = (cl a as h).bind (fun x => nx ls (f x) x.2)
section Q
variable {S : List ix_Sh} {R : Value → Prop}
theorem ix_Q_0 : ix_Q S R (fun _ _ _ => none) := Or.inl ⟨none, (fun _ h => by cases h), fun _ _ _ => rfl⟩
theorem ix_Q_c {v : Value} {h : ix_H} (hp : h.1 = S) (hr : R v) : ix_Q S R (fun _ _ _ => some (v, h)) := Or.inl ⟨some (v, h), (fun _ e => by cases e; exact ⟨hp, hr⟩), fun _ _ _ => rfl⟩
theorem ix_Q_n {h : ix_H} (hp : h.1 = S) (ls st) : ix_Q S R (fun _ nx _ => nx ls st h) := Or.inr (Or.inl ⟨ls, st, h, hp, fun _ _ _ => rfl⟩)
theorem ix_Q_m {h : ix_H} (hp : h.1 = S) (σ' : ix_St) (ls st) : ix_Q S R (fun _ nx _ => nx ls st (h.1, σ')) := Or.inr (Or.inl ⟨ls, st, (h.1, σ'), hp, fun _ _ _ => rfl⟩)
theorem ix_Q_j {h : ix_H} (hp : h.1 = S) (t ls st) : ix_Q S R (fun _ _ jp => jp t ls st h) := Or.inr (Or.inr (Or.inl ⟨t, ls, st, h, hp, fun _ _ _ => rfl⟩))
theorem ix_Q_if {c : Prop} [Decidable c] {F G : ix_CL → ix_NX → ix_JP → ix_R} (hF : ix_Q S R F) (hG : ix_Q S R G) : ix_Q S R (fun cl nx jp => if c then F cl nx jp else G cl nx jp) := by
  by_cases h : c
  · simp only [if_pos h]; exact hF
  · simp only [if_neg h]; exact hG
theorem ix_Q_bif {c : Bool} {F G : ix_CL → ix_NX → ix_JP → ix_R} (hF : ix_Q S R F) (hG : ix_Q S R G) : ix_Q S R (fun cl nx jp => bif c then F cl nx jp else G cl nx jp) := by
  cases c
  · exact hG
  · exact hF
theorem ix_Q_popI {st : List Value} {k : ix_CL → ix_NX → ix_JP → Int32 → List Value → ix_R} (H : ∀ x r, ix_Q S R (fun cl nx jp => k cl nx jp x r)) : ix_Q S R (fun cl nx jp => ix_popI st (k cl nx jp)) := by
  rcases st with _ | ⟨v, r⟩
  · exact ix_Q_0
  · cases v <;> first | exact H _ _ | exact ix_Q_0
theorem ix_Q_popR {st : List Value} {k : ix_CL → ix_NX → ix_JP → Nat → List Value → ix_R} (H : ∀ x r, ix_Q S R (fun cl nx jp => k cl nx jp x r)) : ix_Q S R (fun cl nx jp => ix_popR st (k cl nx jp)) := by
  rcases st with _ | ⟨v, r⟩
  · exact ix_Q_0
  · cases v <;> first | exact H _ _ | exact ix_Q_0
theorem ix_Q_arr {h : ix_H} {r q : Nat} {k : ix_CL → ix_NX → ix_JP → Nat → ix_R} (H : ∀ n, ix_Q S R (fun cl nx jp => k cl nx jp n)) : ix_Q S R (fun cl nx jp => ix_arr h r q (k cl nx jp)) := by
  unfold ix_arr
  rcases ix_sh h r with _ | ⟨q, n, sl⟩
  · exact ix_Q_0
  · exact ix_Q_bif (H _) ix_Q_0
theorem ix_Q_own {h : ix_H} {r q : Nat} {k : ix_CL → ix_NX → ix_JP → Nat → ix_R} (H : ∀ n, ix_Q S R (fun cl nx jp => k cl nx jp n)) : ix_Q S R (fun cl nx jp => ix_own h r q (k cl nx jp)) := by
  unfold ix_own
  rcases ix_n h.1 r with _ | ⟨q, n, sl⟩
  · exact ix_Q_0
  · exact ix_Q_bif (H _) ix_Q_0
theorem ix_Q_get {h : ix_H} {r ci q : Nat} {k : ix_CL → ix_NX → ix_JP → Value → ix_R} (H : ∀ n, ix_Q S R (fun cl nx jp => k cl nx jp n)) : ix_Q S R (fun cl nx jp => ix_get h r ci q (k cl nx jp)) := by
  unfold ix_get
  rcases ix_sh h r with _ | ⟨q', n, sl⟩
  · exact ix_Q_0
  · refine ix_Q_bif ?_ (ix_Q_bif ?_ ix_Q_0)
    · rcases ix_n sl q with _ | _ | _ | a
      · exact ix_Q_0
      · exact H _
      · exact ix_Q_0
      · exact H _
    · rcases q with _ | q
      · exact H _
      · exact H _
theorem ix_Q_put {h : ix_H} (hp : h.1 = S) {r ci q b : Nat} (hb : Nat.beq b 2 = false) {v : Value} {k : ix_CL → ix_NX → ix_JP → ix_H → ix_R} (H : ∀ σ', ix_Q S R (fun cl nx jp => k cl nx jp (h.1, σ'))) : ix_Q S R (fun cl nx jp => ix_put h r ci q b v (k cl nx jp)) := by
  unfold ix_put
  rcases hq : ix_n h.1 r with _ | ⟨q', n, sl⟩
  · exact ix_Q_0
  · refine ix_Q_bif ?_ ix_Q_0
    rcases ix_n sl q with _ | _ | _ <;> rcases b with _ | _ | _ | b <;> cases v <;> first | (cases hb; done) | exact H _ | exact ix_Q_0 | exact ix_Q_if (H _) ix_Q_0
theorem ix_Q_ch {k : ix_CL → ix_NX → ix_JP → Nat → ix_R} (H : ∀ n, ix_Q S R (fun cl nx jp => k cl nx jp n)) (i : Nat) : ∀ (sl : List (Option (Option Nat))) (j : Nat), ix_Q S R (fun cl nx jp => ix_ch sl j i (k cl nx jp))
  | [], _ => ix_Q_0
  | none :: _, _ => ix_Q_0
  | some none :: _, _ => ix_Q_0
  | some (some a) :: l, j => by
    unfold ix_ch
    exact ix_Q_if (H a) (ix_Q_ch H i l (j + 1))
theorem ix_Q_sw {k : ix_CL → ix_NX → ix_JP → Int → ix_R} (H : ∀ n, ix_Q S R (fun cl nx jp => k cl nx jp n)) (d x : Int) : ∀ (sl : List Int) (j : Int), ix_Q S R (fun cl nx jp => ix_sw sl j d x (k cl nx jp))
  | [], _ => H d
  | o :: l, j => by
    unfold ix_sw
    exact ix_Q_if (H o) (ix_Q_sw H d x l (j + 1))
theorem ix_Q_lk {k : ix_CL → ix_NX → ix_JP → Int → ix_R} (H : ∀ n, ix_Q S R (fun cl nx jp => k cl nx jp n)) (d x : Int) : ∀ (sl : List (Int × Int)), ix_Q S R (fun cl nx jp => ix_lk sl d x (k cl nx jp))
  | [] => H d
  | o :: l => by
    unfold ix_lk
    exact ix_Q_if (H o.2) (ix_Q_lk H d x l)
theorem ix_Q_cpy {h : ix_H} {n dp : Int32} {q : Nat} {sp : Int32} {p : Nat} {k : ix_CL → ix_NX → ix_JP → ix_H → ix_R} (H : ∀ σ', ix_Q S R (fun cl nx jp => k cl nx jp (h.1, σ'))) : ix_Q S R (fun cl nx jp => ix_cpy h n dp q sp p (k cl nx jp)) := by
  unfold ix_cpy
  exact ix_Q_own fun _ => ix_Q_own fun _ => ix_Q_if ix_Q_0 (H _)
theorem ix_Q_call {h : ix_H} (hp : h.1 = S) {ls : ix_L} {st : List Value} {a b c : Nat} (ha : ix_kd a ≠ 0) : ix_Q S R (fun cl nx _ => ix_call (ix_D0 cl) nx ls st h a b c) := by
  unfold ix_call
  rcases ix_popN b [] st with _ | ⟨as, st'⟩
  · exact ix_Q_0
  · refine ix_Q_bif ?_ ix_Q_0
    exact Or.inr (Or.inr (Or.inr ⟨a, as, h, ls, fun x => bif Nat.beq c 0 then st' else x.1 :: st', hp, ha, fun _ _ _ => rfl⟩))
theorem ix_Q_recv {h : ix_H} {b d : Nat} {st : List Value} {F : ix_CL → ix_NX → ix_JP → ix_R} (H : ix_Q S R F) : ix_Q S R (fun cl nx jp => ix_recv h b d st (F cl nx jp)) := by
  unfold ix_recv
  rcases ix_n st (b - 1) with _ | v
  · exact ix_Q_0
  · cases v <;> first | exact ix_Q_0 | exact ix_Q_bif H ix_Q_0
theorem ix_Q_nar {h : ix_H} (hp : h.1 = S) {t : Nat} {x : Int32} {v : Value} (hr : R v) : ix_Q S R (fun _ _ _ => ix_nar t x (some (v, h))) := by
  rcases t with _ | _ | _ | t
  · exact ix_Q_c hp hr
  · exact ix_Q_if (ix_Q_c hp hr) ix_Q_0
  · exact ix_Q_if (ix_Q_c hp hr) ix_Q_0
  · exact ix_Q_if (ix_Q_c hp hr) ix_Q_0
end Q
theorem ix_nb {a b : Nat} (h : (!Nat.beq a b) = true) : a ≠ b := by
  intro hz
  subst hz
  have : Nat.beq a a = true := Nat.beq_refl a
  rw [this] at h
  cases h
theorem ix_ex_Q (mi : Nat) (e : ix_E) (hk : ix_kb mi e = true) (ls : ix_L) (st : List Value) (h : ix_H) : ix_Q h.1 (ix_Vk (ix_kd mi)) (fun cl nx jp => ix_ex (ix_D0 cl) nx jp e ls st h) := by
  have hp : h.1 = h.1 := rfl
  obtain ⟨pc, ins, len, ct, a, b, c, d, v⟩ := e
  cases ins
  case new => cases hk
  case newarray => cases hk
  case anewarray => cases hk
  case aastore => cases hk
  case ireturn =>
    have h2 : ix_kd mi = 2 := ix_beq hk
    unfold ix_ex
    dsimp only
    rcases st with _ | ⟨x, _ | ⟨y, st⟩⟩
    · exact ix_Q_0
    · cases x <;> first | exact ix_Q_0 | exact ix_Q_nar hp ⟨fun h => by omega, fun _ => ⟨_, rfl⟩⟩
    · exact ix_Q_0
  case areturn =>
    have h2 : ix_kd mi = 3 := ix_beq hk
    unfold ix_ex
    dsimp only
    rcases st with _ | ⟨x, _ | ⟨y, st⟩⟩
    · exact ix_Q_0
    · cases x <;> first | exact ix_Q_0 | exact ix_Q_c hp ⟨fun h => by omega, fun h => by omega⟩
    · exact ix_Q_0
  case return_ =>
    have h2 : ix_kd mi = 1 := ix_beq hk
    unfold ix_ex
    dsimp only
    rcases st with _ | ⟨x, st⟩
    · exact ix_Q_c hp ⟨fun _ => rfl, fun h => by omega⟩
    · exact ix_Q_0
  case putfield i =>
    unfold ix_ex
    dsimp only
    have hb : Nat.beq c 2 = false := by
      have h1 : (!Nat.beq c 2) = true := hk
      cases hz : Nat.beq c 2
      · rfl
      · rw [hz] at h1; cases h1
    rcases st with _ | ⟨x, st⟩
    · exact ix_Q_0
    · exact ix_Q_popR fun _ _ => ix_Q_put hp hb fun _ => ix_Q_m hp _ _ _
  case invokestatic i =>
    unfold ix_ex
    dsimp only
    have h1 : (Nat.beq c 2 || !Nat.beq (ix_kd a) 0) = true := hk
    cases hz : Nat.beq c 2
    · rw [hz] at h1
      exact ix_Q_call hp (ix_nb h1)
    · exact ix_Q_popI fun _ _ => ix_Q_popI fun _ _ => ix_Q_popR fun _ _ => ix_Q_popI fun _ _ => ix_Q_popR fun _ _ => ix_Q_bif (ix_Q_cpy fun _ => ix_Q_m hp _ _ _) ix_Q_0
  case invokevirtual i =>
    unfold ix_ex
    dsimp only
    exact ix_Q_recv (ix_Q_call hp (ix_nb hk))
  case invokespecial i =>
    unfold ix_ex
    dsimp only
    have h1 : Nat.beq c 2 = true := hk
    rw [h1]
    exact ix_Q_popR fun _ _ => ix_Q_bif (ix_Q_n hp _ _) ix_Q_0
  all_goals (unfold ix_ex; dsimp only)
  all_goals try exact ix_Q_0
  all_goals first
    | exact ix_Q_n hp _ _
    | exact ix_Q_j hp _ _ _
    | exact ix_Q_popI fun _ _ => ix_Q_n hp _ _
    | exact ix_Q_popI fun _ _ => ix_Q_popI fun _ _ => ix_Q_n hp _ _
    | exact ix_Q_popI fun _ _ => ix_Q_popI fun _ _ => ix_Q_if ix_Q_0 (ix_Q_n hp _ _)
    | exact ix_Q_bif (ix_Q_n hp _ _) (ix_Q_n hp _ _)
    | exact ix_Q_popI fun _ _ => ix_Q_bif (ix_Q_n hp _ _) ix_Q_0
    | exact ix_Q_popR fun _ _ => ix_Q_bif (ix_Q_n hp _ _) ix_Q_0
    | exact ix_Q_popR fun _ _ => ix_Q_get fun _ => ix_Q_n hp _ _
    | exact ix_Q_popI fun _ _ => ix_Q_popR fun _ _ => ix_Q_arr fun _ => ix_Q_if ix_Q_0 (ix_Q_n hp _ _)
    | exact ix_Q_popI fun _ _ => ix_Q_popI fun _ _ => ix_Q_popR fun _ _ => ix_Q_own fun _ => ix_Q_if ix_Q_0 (ix_Q_m hp _ _ _)
    | exact ix_Q_popI fun _ _ => ix_Q_sw (fun _ => ix_Q_j hp _ _ _) _ _ _ _
    | exact ix_Q_popI fun _ _ => ix_Q_lk (fun _ => ix_Q_j hp _ _ _) _ _ _
    | skip
  all_goals first
    | (rcases ix_n ls a with _ | _ | x
       · exact ix_Q_0
       · exact ix_Q_0
       · cases x <;> first | exact ix_Q_0 | exact ix_Q_n hp _ _)
    | (rcases st with _ | ⟨x, st⟩ <;> first | exact ix_Q_0 | exact ix_Q_n hp _ _)
    | (rcases st with _ | ⟨x, _ | ⟨y, st⟩⟩ <;> first | exact ix_Q_0 | exact ix_Q_n hp _ _)
    | skip
  all_goals first
    | (rename_i cd off
       cases cd <;> dsimp only <;> first
         | exact ix_Q_popI fun _ _ => ix_Q_if (ix_Q_j hp _ _ _) (ix_Q_n hp _ _)
         | exact ix_Q_popI fun _ _ => ix_Q_if (ix_Q_n hp _ _) (ix_Q_j hp _ _ _)
         | exact ix_Q_popI fun _ _ => ix_Q_popI fun _ _ => ix_Q_if (ix_Q_j hp _ _ _) (ix_Q_n hp _ _)
         | exact ix_Q_popI fun _ _ => ix_Q_popI fun _ _ => ix_Q_if (ix_Q_n hp _ _) (ix_Q_j hp _ _ _))
    | (refine ix_Q_popR fun r st => ?_
       rcases ix_sh h r with _ | ⟨q, n, sl⟩
       · exact ix_Q_0
       · exact ix_Q_bif (ix_Q_n hp _ _) ix_Q_0)
    | (refine ix_Q_popI fun i st => ix_Q_popR fun r st => ?_
       rcases ix_n h.1 r with _ | ⟨q, n, sl⟩
       · exact ix_Q_0
       · exact ix_Q_bif (ix_Q_if ix_Q_0 (ix_Q_ch (fun _ => ix_Q_n hp _ _) _ _ _)) ix_Q_0)
theorem ix_ex_pr {mi : Nat} {cl : ix_CL} {nx : ix_NX} {jp : ix_JP} (hc : ∀ a as h x, ix_kd a ≠ 0 → cl a as h = some x → x.2.1 = h.1) (hn : ∀ ls st h x, nx ls st h = some x → x.2.1 = h.1 ∧ ix_Vk (ix_kd mi) x.1) (hj : ∀ t ls st h x, jp t ls st h = some x → x.2.1 = h.1 ∧ ix_Vk (ix_kd mi) x.1) (e : ix_E) (hk : ix_kb mi e = true) (ls : ix_L) (st : List Value) (h : ix_H) (x : Value × ix_H) (hx : ix_ex (ix_D0 cl) nx jp e ls st h = some x) : x.2.1 = h.1 ∧ ix_Vk (ix_kd mi) x.1 := by
  rcases ix_ex_Q mi e hk ls st h with ⟨y, hp, hy⟩ | ⟨l2, s2, h2, hp, hy⟩ | ⟨t, l2, s2, h2, hp, hy⟩ | ⟨a, as, h2, l2, f, hp, ha, hy⟩
  · exact hp x ((hy cl nx jp).symm.trans hx)
  · rw [← hp]; exact hn _ _ _ _ ((hy cl nx jp).symm.trans hx)
  · rw [← hp]; exact hj _ _ _ _ _ ((hy cl nx jp).symm.trans hx)
  · obtain ⟨y, h1, h3⟩ := Option.bind_eq_some_iff.mp ((hy cl nx jp).symm.trans hx)
    have h4 := hn _ _ _ _ h3
    exact ⟨h4.1.trans ((hc _ _ _ _ ha h1).trans hp), h4.2⟩
theorem ix_go_pr {mi : Nat} (tab : List ix_E) (ht : ∀ e ∈ tab, ix_kb mi e = true) {cb : ix_JP} {cl : ix_CL} (hb : ∀ t ls st h x, cb t ls st h = some x → x.2.1 = h.1 ∧ ix_Vk (ix_kd mi) x.1) (hc : ∀ a as h x, ix_kd a ≠ 0 → cl a as h = some x → x.2.1 = h.1) : ∀ (k : Nat) (rest : List ix_E), (∀ e ∈ rest, e ∈ tab) → ∀ (pc : Nat) (ls : ix_L) (st : List Value) (h : ix_H) (x : Value × ix_H), ix_go tab cb (ix_D0 cl) k rest pc ls st h = some x → x.2.1 = h.1 ∧ ix_Vk (ix_kd mi) x.1 := by
  intro k
  induction k with
  | zero => intro rest _ pc ls st h x hx; exact absurd hx (by simp [ix_go])
  | succ k ih =>
    intro rest hin pc ls st h x hx
    rcases rest with _ | ⟨e, rest⟩
    · exact absurd hx (by simp [ix_go])
    · unfold ix_go at hx
      obtain ⟨h1, hx⟩ := ix_bif_s hx
      rcases hr : e.2.2.2.1 with _ | kp
      · rw [hr] at hx
        exact ix_ex_pr (nx := ix_go tab cb (ix_D0 cl) k rest (pc + e.2.2.1)) (jp := fun t => ix_go tab cb (ix_D0 cl) k (ix_fd tab t) t) hc (fun ls st h x => ih _ (fun q hq => hin q (List.mem_cons_of_mem _ hq)) _ ls st h x) (fun t ls st h x => ih _ (fun q hq => (List.dropWhile_sublist _).subset hq) _ ls st h x) e (ht e (hin e List.mem_cons_self)) ls st h x hx
      · rw [hr] at hx
        exact hb _ _ _ _ _ hx
theorem ix_at_pr {mi : Nat} (tab : List ix_E) (ht : ∀ e ∈ tab, ix_kb mi e = true) {cb : ix_JP} {cl : ix_CL} (hb : ∀ t ls st h x, cb t ls st h = some x → x.2.1 = h.1 ∧ ix_Vk (ix_kd mi) x.1) (hc : ∀ a as h x, ix_kd a ≠ 0 → cl a as h = some x → x.2.1 = h.1) (pc : Nat) (ls : ix_L) (st : List Value) (h : ix_H) (x : Value × ix_H) (hx : ix_at tab cb (ix_D0 cl) pc ls st h = some x) : x.2.1 = h.1 ∧ ix_Vk (ix_kd mi) x.1 := by
  unfold ix_at at hx
  have hsub : ∀ t, ∀ q ∈ ix_fd tab t, q ∈ tab := fun t q hq => (List.dropWhile_sublist _).subset hq
  rcases hq : ix_fd tab pc with _ | ⟨e, rest⟩
  · rw [hq] at hx; exact absurd hx (by simp)
  · rw [hq] at hx
    have hmem : ∀ q ∈ e :: rest, q ∈ tab := fun q h => hsub pc q (by rw [hq]; exact h)
    exact ix_ex_pr (nx := ix_go tab cb (ix_D0 cl) 3000 rest (pc + e.2.2.1)) (jp := fun t => ix_go tab cb (ix_D0 cl) 3000 (ix_fd tab t) t) hc (fun ls st h x => ix_go_pr tab ht hb hc _ _ (fun q hq => hmem q (List.mem_cons_of_mem _ hq)) _ ls st h x) (fun t ls st h x => ix_go_pr tab ht hb hc _ _ (hsub t) _ ls st h x) e (ht e (hmem e List.mem_cons_self)) ls st h x hx
theorem ix_kb_tab {mi : Nat} (h : ix_kd mi ≠ 0) : ∀ e ∈ ix_tab mi, ix_kb mi e = true := by
  have hlt : mi < 299 := by
    have hl : ix_kds.length = 299 := by decide +kernel
    unfold ix_kd at h
    rcases hq : ix_n ix_kds mi with _ | k
    · rw [hq] at h; exact absurd rfl h
    · have := ix_n_lt hq
      rw [hl] at this
      exact this
  have h1 := List.all_eq_true.mp ix_kb_all mi (List.mem_range.mpr hlt)
  rcases Bool.or_eq_true_iff.mp h1 with h2 | h2
  · exact absurd (ix_beq h2) h
  · exact List.all_eq_true.mp h2
theorem ix_sem_pr : ∀ (n mi r pc : Nat) (ls : ix_L) (st : List Value) (h : ix_H) (x : Value × ix_H), ix_kd mi ≠ 0 → ix_sem n mi r pc ls st h = some x → x.2.1 = h.1 ∧ ix_Vk (ix_kd mi) x.1 := by
  intro n
  induction n with
  | zero => intro mi r pc ls st h x _ hx; exact absurd hx (by simp [ix_sem])
  | succ n ih =>
    intro mi r pc ls st h x hk hx
    refine ix_at_pr (ix_tab mi) (ix_kb_tab hk) (fun t ls st h x hx => ih mi r t ls st h x hk hx) (fun a as h x ha hx => ?_) pc ls st h x hx
    unfold ix_clS at hx
    obtain ⟨-, hx⟩ := ix_bif_s hx
    exact (ih _ _ _ _ _ _ _ ha hx).1
def ix_toI (v : Value) : Int32 := match v with
  | .int y => y
  | _ => 0
/-- a call's answer and heap, as a caller goes on with them -/
def ix_K0 (kd : Nat) (o : ix_R) (S : List ix_Sh) (k : Value → ix_H → ix_R) : ix_R := o.bind fun x => match kd with
  | 0 => k x.1 x.2
  | 1 => k .null (S, x.2.2)
  | 2 => k (.int (ix_toI x.1)) (S, x.2.2)
  | _ => k x.1 (S, x.2.2)
noncomputable def ix_K (r : Nat) : ix_KL := fun a as h k => ix_K0 (ix_kd a) (ix_clS ix_S r a as h) h.1 k
theorem ix_K_eq (r : Nat) : ix_D0 (ix_clS ix_S r) = ix_K r := by
  funext a as h k
  unfold ix_D0 ix_K ix_K0
  cases hq : ix_clS ix_S r a as h with
  | none => rfl
  | some x =>
    show k x.1 x.2 = _
    by_cases h0 : ix_kd a = 0
    · rw [h0]; rfl
    · have hx := hq
      unfold ix_clS at hx
      obtain ⟨-, hx⟩ := ix_bif_s hx
      obtain ⟨n, hn⟩ := ix_S_iff.mp hx
      obtain ⟨h1, h2, h3⟩ := ix_sem_pr n _ _ _ _ _ _ _ h0 hn
      obtain ⟨xv, xS, xs⟩ := x
      dsimp only at h1 h2 h3
      subst h1
      show k xv (h.1, xs) = (match ix_kd a with
        | 0 => k xv (h.1, xs)
        | 1 => k .null (h.1, xs)
        | 2 => k (.int (ix_toI xv)) (h.1, xs)
        | _ => k xv (h.1, xs))
      rcases hk : ix_kd a with _ | _ | _ | z
      · rfl
      · rw [h2 hk]
        rfl
      · obtain ⟨y, hy⟩ := h3 hk
        rw [hy]
        rfl
      · rfl
/-- what a method does, called -/
noncomputable def ix_F (a : Nat) (as : List Value) (h : ix_H) : ix_R := ix_S a (ix_rk a as) 0 (ix_in a as) [] h
theorem ix_eq (mi r pc : Nat) (ls : ix_L) (st : List Value) (h : ix_H) : ix_S mi r pc ls st h = ix_at (ix_tab mi) (ix_S mi r) (ix_K r) pc ls st h := by
  rw [ix_fix, ix_K_eq]
end
section
/-- the cells once the two objects stand; b: whether the crossing is one in thought -/
def ix_S0 (b : Bool) : List ix_Sh := [(0, 10, [some (some 1), some (some 28), some (some 55), some (some 100), some (some 105), some (some 121), some (some 130), none]),
  (0, 9, [some (some 2), some (some 9), some (some 11), some (some 26), some (some 27), none]),
  (0, 6, [none, none, none, none, none, none, none, none, some (some 3), some (some 4), some (some 5), some (some 6), some (some 7), some (some 8)]),
  (1, 12, []),
  (1, 12, []),
  (1, 12, []),
  (1, 12, []),
  (1, 12, []),
  (1, 12, []),
  (0, 0, [some (some 10), none]),
  (1, 600, []),
  (0, 8, [some (some 12), some (some 20), some (some 21), some (some 22), some (some 23), some (some 24), some (some 25)]),
  (0, 2, [some (some 13), some (some 14), some (some 15), some (some 16), some (some 17), some (some 18), some (some 19), none, none]),
  (1, 400, []),
  (1, 16, []),
  (1, 16, []),
  (1, 16, []),
  (1, 16, []),
  (1, 32, []),
  (1, 18, []),
  (1, 12, []),
  (1, 16, []),
  (1, 16, []),
  (1, 6, []),
  (1, 6, []),
  (1, 4, []),
  (1, 12, []),
  (1, 20, []),
  (0, 9, [some (some 29), some (some 36), some (some 38), some (some 53), some (some 54), none]),
  (0, 6, [none, none, none, none, none, none, none, none, some (some 30), some (some 31), some (some 32), some (some 33), some (some 34), some (some 35)]),
  (1, 12, []),
  (1, 12, []),
  (1, 12, []),
  (1, 12, []),
  (1, 12, []),
  (1, 12, []),
  (0, 0, [some (some 37), none]),
  (1, 600, []),
  (0, 8, [some (some 39), some (some 47), some (some 48), some (some 49), some (some 50), some (some 51), some (some 52)]),
  (0, 2, [some (some 40), some (some 41), some (some 42), some (some 43), some (some 44), some (some 45), some (some 46), none, none]),
  (1, 400, []),
  (1, 16, []),
  (1, 16, []),
  (1, 16, []),
  (1, 16, []),
  (1, 32, []),
  (1, 18, []),
  (1, 12, []),
  (1, 16, []),
  (1, 16, []),
  (1, 6, []),
  (1, 6, []),
  (1, 4, []),
  (1, 12, []),
  (1, 20, []),
  (0, 4, [some (some 56), some (some 57), none, none]),
  (3, 6, [some (some 58), some (some 65), some (some 72), some (some 79), some (some 86), some (some 93)]),
  (1, 6, []),
  (0, 6, [none, none, none, none, none, none, none, none, some (some 59), some (some 60), some (some 61), some (some 62), some (some 63), some (some 64)]),
  (1, 12, []),
  (1, 12, []),
  (1, 12, []),
  (1, 12, []),
  (1, 12, []),
  (1, 12, []),
  (0, 6, [none, none, none, none, none, none, none, none, some (some 66), some (some 67), some (some 68), some (some 69), some (some 70), some (some 71)]),
  (1, 12, []),
  (1, 12, []),
  (1, 12, []),
  (1, 12, []),
  (1, 12, []),
  (1, 12, []),
  (0, 6, [none, none, none, none, none, none, none, none, some (some 73), some (some 74), some (some 75), some (some 76), some (some 77), some (some 78)]),
  (1, 12, []),
  (1, 12, []),
  (1, 12, []),
  (1, 12, []),
  (1, 12, []),
  (1, 12, []),
  (0, 6, [none, none, none, none, none, none, none, none, some (some 80), some (some 81), some (some 82), some (some 83), some (some 84), some (some 85)]),
  (1, 12, []),
  (1, 12, []),
  (1, 12, []),
  (1, 12, []),
  (1, 12, []),
  (1, 12, []),
  (0, 6, [none, none, none, none, none, none, none, none, some (some 87), some (some 88), some (some 89), some (some 90), some (some 91), some (some 92)]),
  (1, 12, []),
  (1, 12, []),
  (1, 12, []),
  (1, 12, []),
  (1, 12, []),
  (1, 12, []),
  (0, 6, [none, none, none, none, none, none, none, none, some (some 94), some (some 95), some (some 96), some (some 97), some (some 98), some (some 99)]),
  (1, 12, []),
  (1, 12, []),
  (1, 12, []),
  (1, 12, []),
  (1, 12, []),
  (1, 12, []),
  (0, 7, [some (some 101), none, some (some 102), some (some 103), some (some 104), none, none, none, none, none]),
  (2, 400, []),
  (1, 401, []),
  (1, 401, []),
  (1, 401, []),
  (0, 3, [some (some 106), none, none, some (some 100), none]),
  (0, 8, [some (some 107), some (some 115), some (some 116), some (some 117), some (some 118), some (some 119), some (some 120)]),
  (0, 2, [some (some 108), some (some 109), some (some 110), some (some 111), some (some 112), some (some 113), some (some 114), none, none]),
  (1, 400, []),
  (1, 16, []),
  (1, 16, []),
  (1, 16, []),
  (1, 16, []),
  (1, 32, []),
  (1, 18, []),
  (1, 12, []),
  (1, 16, []),
  (1, 16, []),
  (1, 6, []),
  (1, 6, []),
  (1, 4, []),
  (0, 1, [some (some 122), none, some (some 1), some (some 12), some (some 123), some (some (bif b then 123 else 2)), none, none]),
  (1, 6, []),
  (0, 6, [none, none, none, none, none, none, none, none, some (some 124), some (some 125), some (some 126), some (some 127), some (some 128), some (some 129)]),
  (1, 12, []),
  (1, 12, []),
  (1, 12, []),
  (1, 12, []),
  (1, 12, []),
  (1, 12, []),
  (0, 5, [some (some 1), some (some 131), some (some 132), some (some 133), some (some 134), none, none]),
  (1, 12, []),
  (1, 6, []),
  (1, 12, []),
  (1, 36, []),
  (0, 11, [none, some (some 136), some (some 137), none, some (some 138), none, none, none, some (some 139), some (some 140), some (some 141), some (some 142), some (some 143), none, none, none, none, none, some (some 144), some (some 145), some (some 146), some (some 147), some (some 148), some (some 149), some (some 150), some (some 151), none, none, none, some (some 152), none, none, none, none, none, none, some (some 153), none, some (some 154), none, some (some 155), some (some 156), some (some 157), none, some (some 158), some (some 159), some (some 160), none, some (some 161), some (some 162), none, none, none, some (some 163)]),
  (1, 54, []),
  (1, 324, []),
  (1, 54, []),
  (1, 12, []),
  (1, 12, []),
  (1, 12, []),
  (1, 600, []),
  (1, 400, []),
  (1, 135, []),
  (1, 2, []),
  (1, 48, []),
  (1, 48, []),
  (1, 48, []),
  (1, 48, []),
  (1, 1200, []),
  (1, 1200, []),
  (1, 40, []),
  (1, 24, []),
  (1, 64, []),
  (1, 96, []),
  (1, 11, []),
  (1, 420, []),
  (1, 6, []),
  (1, 12, []),
  (1, 36, []),
  (1, 20, []),
  (1, 12, []),
  (1, 2100, [])]
def ix_cp (σ : ix_St) (p q sp dp n : Nat) : ix_St := ix_row σ q (va_cpy (σ p) (σ q) sp dp n)
end
section
set_option maxRecDepth 100000 in
theorem q_Math_min_0 (b : Bool) (v0 v1 : Int32) (σ : ix_St) : ix_F 285 [.int v0, .int v1] (ix_S0 b, σ) = (if v1 < v0 then some (.int v1, (ix_S0 b, σ)) else some (.int v0, (ix_S0 b, σ))) := (ix_eq 285 (ix_rk 285 [.int v0, .int v1]) 0 (ix_in 285 [.int v0, .int v1]) [] _).trans rfl
set_option maxRecDepth 100000 in
theorem q_Math_max_0 (b : Bool) (v0 v1 : Int32) (σ : ix_St) : ix_F 289 [.int v0, .int v1] (ix_S0 b, σ) = (if v0 < v1 then some (.int v1, (ix_S0 b, σ)) else some (.int v0, (ix_S0 b, σ))) := (ix_eq 289 (ix_rk 289 [.int v0, .int v1]) 0 (ix_in 289 [.int v0, .int v1]) [] _).trans rfl
set_option maxRecDepth 100000 in
theorem q_Integer_bitCount_0 (b : Bool) (v0 : Int32) (σ : ix_St) : ix_F 286 [.int v0] (ix_S0 b, σ) = some (.int ((((((((v0 - ((Int32.toUInt32 v0 >>> (Int32.toUInt32 (1 : Int32) &&& Int32.toUInt32 31)).toInt32 &&& (1431655765 : Int32))) &&& (858993459 : Int32)) + ((Int32.toUInt32 (v0 - ((Int32.toUInt32 v0 >>> (Int32.toUInt32 (1 : Int32) &&& Int32.toUInt32 31)).toInt32 &&& (1431655765 : Int32))) >>> (Int32.toUInt32 (2 : Int32) &&& Int32.toUInt32 31)).toInt32 &&& (858993459 : Int32))) + (Int32.toUInt32 (((v0 - ((Int32.toUInt32 v0 >>> (Int32.toUInt32 (1 : Int32) &&& Int32.toUInt32 31)).toInt32 &&& (1431655765 : Int32))) &&& (858993459 : Int32)) + ((Int32.toUInt32 (v0 - ((Int32.toUInt32 v0 >>> (Int32.toUInt32 (1 : Int32) &&& Int32.toUInt32 31)).toInt32 &&& (1431655765 : Int32))) >>> (Int32.toUInt32 (2 : Int32) &&& Int32.toUInt32 31)).toInt32 &&& (858993459 : Int32))) >>> (Int32.toUInt32 (4 : Int32) &&& Int32.toUInt32 31)).toInt32) &&& (252645135 : Int32)) + (Int32.toUInt32 (((((v0 - ((Int32.toUInt32 v0 >>> (Int32.toUInt32 (1 : Int32) &&& Int32.toUInt32 31)).toInt32 &&& (1431655765 : Int32))) &&& (858993459 : Int32)) + ((Int32.toUInt32 (v0 - ((Int32.toUInt32 v0 >>> (Int32.toUInt32 (1 : Int32) &&& Int32.toUInt32 31)).toInt32 &&& (1431655765 : Int32))) >>> (Int32.toUInt32 (2 : Int32) &&& Int32.toUInt32 31)).toInt32 &&& (858993459 : Int32))) + (Int32.toUInt32 (((v0 - ((Int32.toUInt32 v0 >>> (Int32.toUInt32 (1 : Int32) &&& Int32.toUInt32 31)).toInt32 &&& (1431655765 : Int32))) &&& (858993459 : Int32)) + ((Int32.toUInt32 (v0 - ((Int32.toUInt32 v0 >>> (Int32.toUInt32 (1 : Int32) &&& Int32.toUInt32 31)).toInt32 &&& (1431655765 : Int32))) >>> (Int32.toUInt32 (2 : Int32) &&& Int32.toUInt32 31)).toInt32 &&& (858993459 : Int32))) >>> (Int32.toUInt32 (4 : Int32) &&& Int32.toUInt32 31)).toInt32) &&& (252645135 : Int32)) >>> (Int32.toUInt32 (8 : Int32) &&& Int32.toUInt32 31)).toInt32) + (Int32.toUInt32 ((((((v0 - ((Int32.toUInt32 v0 >>> (Int32.toUInt32 (1 : Int32) &&& Int32.toUInt32 31)).toInt32 &&& (1431655765 : Int32))) &&& (858993459 : Int32)) + ((Int32.toUInt32 (v0 - ((Int32.toUInt32 v0 >>> (Int32.toUInt32 (1 : Int32) &&& Int32.toUInt32 31)).toInt32 &&& (1431655765 : Int32))) >>> (Int32.toUInt32 (2 : Int32) &&& Int32.toUInt32 31)).toInt32 &&& (858993459 : Int32))) + (Int32.toUInt32 (((v0 - ((Int32.toUInt32 v0 >>> (Int32.toUInt32 (1 : Int32) &&& Int32.toUInt32 31)).toInt32 &&& (1431655765 : Int32))) &&& (858993459 : Int32)) + ((Int32.toUInt32 (v0 - ((Int32.toUInt32 v0 >>> (Int32.toUInt32 (1 : Int32) &&& Int32.toUInt32 31)).toInt32 &&& (1431655765 : Int32))) >>> (Int32.toUInt32 (2 : Int32) &&& Int32.toUInt32 31)).toInt32 &&& (858993459 : Int32))) >>> (Int32.toUInt32 (4 : Int32) &&& Int32.toUInt32 31)).toInt32) &&& (252645135 : Int32)) + (Int32.toUInt32 (((((v0 - ((Int32.toUInt32 v0 >>> (Int32.toUInt32 (1 : Int32) &&& Int32.toUInt32 31)).toInt32 &&& (1431655765 : Int32))) &&& (858993459 : Int32)) + ((Int32.toUInt32 (v0 - ((Int32.toUInt32 v0 >>> (Int32.toUInt32 (1 : Int32) &&& Int32.toUInt32 31)).toInt32 &&& (1431655765 : Int32))) >>> (Int32.toUInt32 (2 : Int32) &&& Int32.toUInt32 31)).toInt32 &&& (858993459 : Int32))) + (Int32.toUInt32 (((v0 - ((Int32.toUInt32 v0 >>> (Int32.toUInt32 (1 : Int32) &&& Int32.toUInt32 31)).toInt32 &&& (1431655765 : Int32))) &&& (858993459 : Int32)) + ((Int32.toUInt32 (v0 - ((Int32.toUInt32 v0 >>> (Int32.toUInt32 (1 : Int32) &&& Int32.toUInt32 31)).toInt32 &&& (1431655765 : Int32))) >>> (Int32.toUInt32 (2 : Int32) &&& Int32.toUInt32 31)).toInt32 &&& (858993459 : Int32))) >>> (Int32.toUInt32 (4 : Int32) &&& Int32.toUInt32 31)).toInt32) &&& (252645135 : Int32)) >>> (Int32.toUInt32 (8 : Int32) &&& Int32.toUInt32 31)).toInt32) >>> (Int32.toUInt32 (16 : Int32) &&& Int32.toUInt32 31)).toInt32) &&& (63 : Int32)), (ix_S0 b, σ)) := (ix_eq 286 (ix_rk 286 [.int v0]) 0 (ix_in 286 [.int v0]) [] _).trans rfl
set_option maxRecDepth 100000 in
theorem q_Integer_numberOfTrailingZeros_0 (b : Bool) (v0 : Int32) (σ : ix_St) : ix_F 287 [.int v0] (ix_S0 b, σ) = (if 0 < ((v0 ^^^ (-1 : Int32)) &&& (v0 - (1 : Int32))) then (if ((v0 ^^^ (-1 : Int32)) &&& (v0 - (1 : Int32))) ≤ (65536 : Int32) then (if ((v0 ^^^ (-1 : Int32)) &&& (v0 - (1 : Int32))) ≤ (256 : Int32) then (if ((v0 ^^^ (-1 : Int32)) &&& (v0 - (1 : Int32))) ≤ (16 : Int32) then (if ((v0 ^^^ (-1 : Int32)) &&& (v0 - (1 : Int32))) ≤ (4 : Int32) then some (.int ((1 : Int32) + (Int32.toUInt32 ((v0 ^^^ (-1 : Int32)) &&& (v0 - (1 : Int32))) >>> (Int32.toUInt32 (1 : Int32) &&& Int32.toUInt32 31)).toInt32), (ix_S0 b, σ)) else some (.int (((1 : Int32) + (2 : Int32)) + (Int32.toUInt32 (Int32.toUInt32 ((v0 ^^^ (-1 : Int32)) &&& (v0 - (1 : Int32))) >>> (Int32.toUInt32 (2 : Int32) &&& Int32.toUInt32 31)).toInt32 >>> (Int32.toUInt32 (1 : Int32) &&& Int32.toUInt32 31)).toInt32), (ix_S0 b, σ))) else (if (Int32.toUInt32 ((v0 ^^^ (-1 : Int32)) &&& (v0 - (1 : Int32))) >>> (Int32.toUInt32 (4 : Int32) &&& Int32.toUInt32 31)).toInt32 ≤ (4 : Int32) then some (.int (((1 : Int32) + (4 : Int32)) + (Int32.toUInt32 (Int32.toUInt32 ((v0 ^^^ (-1 : Int32)) &&& (v0 - (1 : Int32))) >>> (Int32.toUInt32 (4 : Int32) &&& Int32.toUInt32 31)).toInt32 >>> (Int32.toUInt32 (1 : Int32) &&& Int32.toUInt32 31)).toInt32), (ix_S0 b, σ)) else some (.int ((((1 : Int32) + (4 : Int32)) + (2 : Int32)) + (Int32.toUInt32 (Int32.toUInt32 (Int32.toUInt32 ((v0 ^^^ (-1 : Int32)) &&& (v0 - (1 : Int32))) >>> (Int32.toUInt32 (4 : Int32) &&& Int32.toUInt32 31)).toInt32 >>> (Int32.toUInt32 (2 : Int32) &&& Int32.toUInt32 31)).toInt32 >>> (Int32.toUInt32 (1 : Int32) &&& Int32.toUInt32 31)).toInt32), (ix_S0 b, σ)))) else (if (Int32.toUInt32 ((v0 ^^^ (-1 : Int32)) &&& (v0 - (1 : Int32))) >>> (Int32.toUInt32 (8 : Int32) &&& Int32.toUInt32 31)).toInt32 ≤ (16 : Int32) then (if (Int32.toUInt32 ((v0 ^^^ (-1 : Int32)) &&& (v0 - (1 : Int32))) >>> (Int32.toUInt32 (8 : Int32) &&& Int32.toUInt32 31)).toInt32 ≤ (4 : Int32) then some (.int (((1 : Int32) + (8 : Int32)) + (Int32.toUInt32 (Int32.toUInt32 ((v0 ^^^ (-1 : Int32)) &&& (v0 - (1 : Int32))) >>> (Int32.toUInt32 (8 : Int32) &&& Int32.toUInt32 31)).toInt32 >>> (Int32.toUInt32 (1 : Int32) &&& Int32.toUInt32 31)).toInt32), (ix_S0 b, σ)) else some (.int ((((1 : Int32) + (8 : Int32)) + (2 : Int32)) + (Int32.toUInt32 (Int32.toUInt32 (Int32.toUInt32 ((v0 ^^^ (-1 : Int32)) &&& (v0 - (1 : Int32))) >>> (Int32.toUInt32 (8 : Int32) &&& Int32.toUInt32 31)).toInt32 >>> (Int32.toUInt32 (2 : Int32) &&& Int32.toUInt32 31)).toInt32 >>> (Int32.toUInt32 (1 : Int32) &&& Int32.toUInt32 31)).toInt32), (ix_S0 b, σ))) else (if (Int32.toUInt32 (Int32.toUInt32 ((v0 ^^^ (-1 : Int32)) &&& (v0 - (1 : Int32))) >>> (Int32.toUInt32 (8 : Int32) &&& Int32.toUInt32 31)).toInt32 >>> (Int32.toUInt32 (4 : Int32) &&& Int32.toUInt32 31)).toInt32 ≤ (4 : Int32) then some (.int ((((1 : Int32) + (8 : Int32)) + (4 : Int32)) + (Int32.toUInt32 (Int32.toUInt32 (Int32.toUInt32 ((v0 ^^^ (-1 : Int32)) &&& (v0 - (1 : Int32))) >>> (Int32.toUInt32 (8 : Int32) &&& Int32.toUInt32 31)).toInt32 >>> (Int32.toUInt32 (4 : Int32) &&& Int32.toUInt32 31)).toInt32 >>> (Int32.toUInt32 (1 : Int32) &&& Int32.toUInt32 31)).toInt32), (ix_S0 b, σ)) else some (.int (((((1 : Int32) + (8 : Int32)) + (4 : Int32)) + (2 : Int32)) + (Int32.toUInt32 (Int32.toUInt32 (Int32.toUInt32 (Int32.toUInt32 ((v0 ^^^ (-1 : Int32)) &&& (v0 - (1 : Int32))) >>> (Int32.toUInt32 (8 : Int32) &&& Int32.toUInt32 31)).toInt32 >>> (Int32.toUInt32 (4 : Int32) &&& Int32.toUInt32 31)).toInt32 >>> (Int32.toUInt32 (2 : Int32) &&& Int32.toUInt32 31)).toInt32 >>> (Int32.toUInt32 (1 : Int32) &&& Int32.toUInt32 31)).toInt32), (ix_S0 b, σ))))) else (if (Int32.toUInt32 ((v0 ^^^ (-1 : Int32)) &&& (v0 - (1 : Int32))) >>> (Int32.toUInt32 (16 : Int32) &&& Int32.toUInt32 31)).toInt32 ≤ (256 : Int32) then (if (Int32.toUInt32 ((v0 ^^^ (-1 : Int32)) &&& (v0 - (1 : Int32))) >>> (Int32.toUInt32 (16 : Int32) &&& Int32.toUInt32 31)).toInt32 ≤ (16 : Int32) then (if (Int32.toUInt32 ((v0 ^^^ (-1 : Int32)) &&& (v0 - (1 : Int32))) >>> (Int32.toUInt32 (16 : Int32) &&& Int32.toUInt32 31)).toInt32 ≤ (4 : Int32) then some (.int (((1 : Int32) + (16 : Int32)) + (Int32.toUInt32 (Int32.toUInt32 ((v0 ^^^ (-1 : Int32)) &&& (v0 - (1 : Int32))) >>> (Int32.toUInt32 (16 : Int32) &&& Int32.toUInt32 31)).toInt32 >>> (Int32.toUInt32 (1 : Int32) &&& Int32.toUInt32 31)).toInt32), (ix_S0 b, σ)) else some (.int ((((1 : Int32) + (16 : Int32)) + (2 : Int32)) + (Int32.toUInt32 (Int32.toUInt32 (Int32.toUInt32 ((v0 ^^^ (-1 : Int32)) &&& (v0 - (1 : Int32))) >>> (Int32.toUInt32 (16 : Int32) &&& Int32.toUInt32 31)).toInt32 >>> (Int32.toUInt32 (2 : Int32) &&& Int32.toUInt32 31)).toInt32 >>> (Int32.toUInt32 (1 : Int32) &&& Int32.toUInt32 31)).toInt32), (ix_S0 b, σ))) else (if (Int32.toUInt32 (Int32.toUInt32 ((v0 ^^^ (-1 : Int32)) &&& (v0 - (1 : Int32))) >>> (Int32.toUInt32 (16 : Int32) &&& Int32.toUInt32 31)).toInt32 >>> (Int32.toUInt32 (4 : Int32) &&& Int32.toUInt32 31)).toInt32 ≤ (4 : Int32) then some (.int ((((1 : Int32) + (16 : Int32)) + (4 : Int32)) + (Int32.toUInt32 (Int32.toUInt32 (Int32.toUInt32 ((v0 ^^^ (-1 : Int32)) &&& (v0 - (1 : Int32))) >>> (Int32.toUInt32 (16 : Int32) &&& Int32.toUInt32 31)).toInt32 >>> (Int32.toUInt32 (4 : Int32) &&& Int32.toUInt32 31)).toInt32 >>> (Int32.toUInt32 (1 : Int32) &&& Int32.toUInt32 31)).toInt32), (ix_S0 b, σ)) else some (.int (((((1 : Int32) + (16 : Int32)) + (4 : Int32)) + (2 : Int32)) + (Int32.toUInt32 (Int32.toUInt32 (Int32.toUInt32 (Int32.toUInt32 ((v0 ^^^ (-1 : Int32)) &&& (v0 - (1 : Int32))) >>> (Int32.toUInt32 (16 : Int32) &&& Int32.toUInt32 31)).toInt32 >>> (Int32.toUInt32 (4 : Int32) &&& Int32.toUInt32 31)).toInt32 >>> (Int32.toUInt32 (2 : Int32) &&& Int32.toUInt32 31)).toInt32 >>> (Int32.toUInt32 (1 : Int32) &&& Int32.toUInt32 31)).toInt32), (ix_S0 b, σ)))) else (if (Int32.toUInt32 (Int32.toUInt32 ((v0 ^^^ (-1 : Int32)) &&& (v0 - (1 : Int32))) >>> (Int32.toUInt32 (16 : Int32) &&& Int32.toUInt32 31)).toInt32 >>> (Int32.toUInt32 (8 : Int32) &&& Int32.toUInt32 31)).toInt32 ≤ (16 : Int32) then (if (Int32.toUInt32 (Int32.toUInt32 ((v0 ^^^ (-1 : Int32)) &&& (v0 - (1 : Int32))) >>> (Int32.toUInt32 (16 : Int32) &&& Int32.toUInt32 31)).toInt32 >>> (Int32.toUInt32 (8 : Int32) &&& Int32.toUInt32 31)).toInt32 ≤ (4 : Int32) then some (.int ((((1 : Int32) + (16 : Int32)) + (8 : Int32)) + (Int32.toUInt32 (Int32.toUInt32 (Int32.toUInt32 ((v0 ^^^ (-1 : Int32)) &&& (v0 - (1 : Int32))) >>> (Int32.toUInt32 (16 : Int32) &&& Int32.toUInt32 31)).toInt32 >>> (Int32.toUInt32 (8 : Int32) &&& Int32.toUInt32 31)).toInt32 >>> (Int32.toUInt32 (1 : Int32) &&& Int32.toUInt32 31)).toInt32), (ix_S0 b, σ)) else some (.int (((((1 : Int32) + (16 : Int32)) + (8 : Int32)) + (2 : Int32)) + (Int32.toUInt32 (Int32.toUInt32 (Int32.toUInt32 (Int32.toUInt32 ((v0 ^^^ (-1 : Int32)) &&& (v0 - (1 : Int32))) >>> (Int32.toUInt32 (16 : Int32) &&& Int32.toUInt32 31)).toInt32 >>> (Int32.toUInt32 (8 : Int32) &&& Int32.toUInt32 31)).toInt32 >>> (Int32.toUInt32 (2 : Int32) &&& Int32.toUInt32 31)).toInt32 >>> (Int32.toUInt32 (1 : Int32) &&& Int32.toUInt32 31)).toInt32), (ix_S0 b, σ))) else (if (Int32.toUInt32 (Int32.toUInt32 (Int32.toUInt32 ((v0 ^^^ (-1 : Int32)) &&& (v0 - (1 : Int32))) >>> (Int32.toUInt32 (16 : Int32) &&& Int32.toUInt32 31)).toInt32 >>> (Int32.toUInt32 (8 : Int32) &&& Int32.toUInt32 31)).toInt32 >>> (Int32.toUInt32 (4 : Int32) &&& Int32.toUInt32 31)).toInt32 ≤ (4 : Int32) then some (.int (((((1 : Int32) + (16 : Int32)) + (8 : Int32)) + (4 : Int32)) + (Int32.toUInt32 (Int32.toUInt32 (Int32.toUInt32 (Int32.toUInt32 ((v0 ^^^ (-1 : Int32)) &&& (v0 - (1 : Int32))) >>> (Int32.toUInt32 (16 : Int32) &&& Int32.toUInt32 31)).toInt32 >>> (Int32.toUInt32 (8 : Int32) &&& Int32.toUInt32 31)).toInt32 >>> (Int32.toUInt32 (4 : Int32) &&& Int32.toUInt32 31)).toInt32 >>> (Int32.toUInt32 (1 : Int32) &&& Int32.toUInt32 31)).toInt32), (ix_S0 b, σ)) else some (.int ((((((1 : Int32) + (16 : Int32)) + (8 : Int32)) + (4 : Int32)) + (2 : Int32)) + (Int32.toUInt32 (Int32.toUInt32 (Int32.toUInt32 (Int32.toUInt32 (Int32.toUInt32 ((v0 ^^^ (-1 : Int32)) &&& (v0 - (1 : Int32))) >>> (Int32.toUInt32 (16 : Int32) &&& Int32.toUInt32 31)).toInt32 >>> (Int32.toUInt32 (8 : Int32) &&& Int32.toUInt32 31)).toInt32 >>> (Int32.toUInt32 (4 : Int32) &&& Int32.toUInt32 31)).toInt32 >>> (Int32.toUInt32 (2 : Int32) &&& Int32.toUInt32 31)).toInt32 >>> (Int32.toUInt32 (1 : Int32) &&& Int32.toUInt32 31)).toInt32), (ix_S0 b, σ)))))) else some (.int (((v0 ^^^ (-1 : Int32)) &&& (v0 - (1 : Int32))) &&& (32 : Int32)), (ix_S0 b, σ))) := (ix_eq 287 (ix_rk 287 [.int v0]) 0 (ix_in 287 [.int v0]) [] _).trans rfl
set_option maxRecDepth 100000 in
theorem q_Arrays_fill_0 (b : Bool) (v1 : Int32) (σ : ix_St) : ix_F 284 [.ref 132, .int v1] (ix_S0 b, σ) = ix_S 284 1 5 [some (.ref 132), some (.int v1), some (.int (0 : Int32)), some (.int (Int32.ofNat 6))] [] (ix_S0 b, σ) := (ix_eq 284 (ix_rk 284 [.ref 132, .int v1]) 0 (ix_in 284 [.ref 132, .int v1]) [] _).trans rfl
set_option maxRecDepth 100000 in
theorem q_Arrays_fill_0_1 (b : Bool) (v1 : Int32) (σ : ix_St) : ix_F 284 [.ref 115, .int v1] (ix_S0 b, σ) = ix_S 284 1 5 [some (.ref 115), some (.int v1), some (.int (0 : Int32)), some (.int (Int32.ofNat 12))] [] (ix_S0 b, σ) := (ix_eq 284 (ix_rk 284 [.ref 115, .int v1]) 0 (ix_in 284 [.ref 115, .int v1]) [] _).trans rfl
set_option maxRecDepth 100000 in
theorem q_Arrays_fill_0_2 (b : Bool) (v1 : Int32) (σ : ix_St) : ix_F 284 [.ref 118, .int v1] (ix_S0 b, σ) = ix_S 284 1 5 [some (.ref 118), some (.int v1), some (.int (0 : Int32)), some (.int (Int32.ofNat 6))] [] (ix_S0 b, σ) := (ix_eq 284 (ix_rk 284 [.ref 118, .int v1]) 0 (ix_in 284 [.ref 118, .int v1]) [] _).trans rfl
set_option maxRecDepth 100000 in
theorem q_Arrays_fill_5 (b : Bool) (v1 v2 v3 : Int32) (σ : ix_St) : ix_S 284 1 5 [some (.ref 132), some (.int v1), some (.int v2), some (.int v3)] [] (ix_S0 b, σ) = (if v3 ≤ v2 then some (.null, (ix_S0 b, σ)) else (if v2 < 0 ∨ 6 ≤ (v2).toNatClampNeg then none else ix_S 284 1 5 [some (.ref 132), some (.int v1), some (.int (v2 + (1 : Int32))), some (.int v3)] [] (ix_S0 b, (ix_up σ 132 (v2).toNatClampNeg v1)))) := (ix_eq _ _ _ _ _ _).trans rfl
set_option maxRecDepth 100000 in
theorem q_Arrays_fill_0_3 (b : Bool) (v1 : Int32) (σ : ix_St) : ix_F 284 [.ref 134, .int v1] (ix_S0 b, σ) = ix_S 284 1 5 [some (.ref 134), some (.int v1), some (.int (0 : Int32)), some (.int (Int32.ofNat 36))] [] (ix_S0 b, σ) := (ix_eq 284 (ix_rk 284 [.ref 134, .int v1]) 0 (ix_in 284 [.ref 134, .int v1]) [] _).trans rfl
set_option maxRecDepth 100000 in
theorem q_Arrays_fill_5_1 (b : Bool) (v1 v2 v3 : Int32) (σ : ix_St) : ix_S 284 1 5 [some (.ref 115), some (.int v1), some (.int v2), some (.int v3)] [] (ix_S0 b, σ) = (if v3 ≤ v2 then some (.null, (ix_S0 b, σ)) else (if v2 < 0 ∨ 12 ≤ (v2).toNatClampNeg then none else ix_S 284 1 5 [some (.ref 115), some (.int v1), some (.int (v2 + (1 : Int32))), some (.int v3)] [] (ix_S0 b, (ix_up σ 115 (v2).toNatClampNeg v1)))) := (ix_eq _ _ _ _ _ _).trans rfl
set_option maxRecDepth 100000 in
theorem q_Arrays_fill_5_2 (b : Bool) (v1 v2 v3 : Int32) (σ : ix_St) : ix_S 284 1 5 [some (.ref 118), some (.int v1), some (.int v2), some (.int v3)] [] (ix_S0 b, σ) = (if v3 ≤ v2 then some (.null, (ix_S0 b, σ)) else (if v2 < 0 ∨ 6 ≤ (v2).toNatClampNeg then none else ix_S 284 1 5 [some (.ref 118), some (.int v1), some (.int (v2 + (1 : Int32))), some (.int v3)] [] (ix_S0 b, (ix_up σ 118 (v2).toNatClampNeg v1)))) := (ix_eq _ _ _ _ _ _).trans rfl
set_option maxRecDepth 100000 in
theorem q_Arrays_fill_5_3 (b : Bool) (v1 v2 v3 : Int32) (σ : ix_St) : ix_S 284 1 5 [some (.ref 134), some (.int v1), some (.int v2), some (.int v3)] [] (ix_S0 b, σ) = (if v3 ≤ v2 then some (.null, (ix_S0 b, σ)) else (if v2 < 0 ∨ 36 ≤ (v2).toNatClampNeg then none else ix_S 284 1 5 [some (.ref 134), some (.int v1), some (.int (v2 + (1 : Int32))), some (.int v3)] [] (ix_S0 b, (ix_up σ 134 (v2).toNatClampNeg v1)))) := (ix_eq _ _ _ _ _ _).trans rfl
set_option maxRecDepth 100000 in
theorem q_Arrays_fill_0_4 (b : Bool) (v1 : Int32) (σ : ix_St) : ix_F 284 [.ref 122, .int v1] (ix_S0 b, σ) = ix_S 284 1 5 [some (.ref 122), some (.int v1), some (.int (0 : Int32)), some (.int (Int32.ofNat 6))] [] (ix_S0 b, σ) := (ix_eq 284 (ix_rk 284 [.ref 122, .int v1]) 0 (ix_in 284 [.ref 122, .int v1]) [] _).trans rfl
set_option maxRecDepth 100000 in
theorem q_Arrays_fill_5_4 (b : Bool) (v1 v2 v3 : Int32) (σ : ix_St) : ix_S 284 1 5 [some (.ref 122), some (.int v1), some (.int v2), some (.int v3)] [] (ix_S0 b, σ) = (if v3 ≤ v2 then some (.null, (ix_S0 b, σ)) else (if v2 < 0 ∨ 6 ≤ (v2).toNatClampNeg then none else ix_S 284 1 5 [some (.ref 122), some (.int v1), some (.int (v2 + (1 : Int32))), some (.int v3)] [] (ix_S0 b, (ix_up σ 122 (v2).toNatClampNeg v1)))) := (ix_eq _ _ _ _ _ _).trans rfl
set_option maxRecDepth 100000 in
theorem q_String_indexOf_0 (b : Bool) (v1 : Int32) (σ : ix_St) : ix_F 288 [.ref 1006, .int v1] (ix_S0 b, σ) = ((ix_F 292 [.ref 1006, .int v1, .int (0 : Int32)] (ix_S0 b, σ)).bind fun x1 => some (.int (ix_toI x1.1), (ix_S0 b, x1.2.2))) := (ix_eq 288 (ix_rk 288 [.ref 1006, .int v1]) 0 (ix_in 288 [.ref 1006, .int v1]) [] _).trans rfl
set_option maxRecDepth 100000 in
theorem q_String_indexOf2_0 (b : Bool) (v1 v2 : Int32) (σ : ix_St) : ix_F 292 [.ref 1006, .int v1, .int v2] (ix_S0 b, σ) = ((ix_F 294 [.ref 1006] (ix_S0 b, σ)).bind fun x1 => (if (ix_toI x1.1) = 0 then ((ix_F 290 [.ref 1006] (ix_S0 b, x1.2.2)).bind fun x2 => none) else ((ix_F 290 [.ref 1006] (ix_S0 b, x1.2.2)).bind fun x3 => ((ix_F 296 [.ref 1011, .int v1, .int v2, .int (ix_toI x3.1)] (ix_S0 b, x3.2.2)).bind fun x4 => some (.int (ix_toI x4.1), (ix_S0 b, x4.2.2)))))) := (ix_eq 292 (ix_rk 292 [.ref 1006, .int v1, .int v2]) 0 (ix_in 292 [.ref 1006, .int v1, .int v2]) [] _).trans rfl
set_option maxRecDepth 100000 in
theorem q_String_isLatin1_0 (b : Bool) (σ : ix_St) : ix_F 294 [.ref 1006] (ix_S0 b, σ) = (if (1 : Int32) = 0 then some (.int (0 : Int32), (ix_S0 b, σ)) else (if (0 : Int32) = 0 then some (.int (1 : Int32), (ix_S0 b, σ)) else some (.int (0 : Int32), (ix_S0 b, σ)))) := (ix_eq 294 (ix_rk 294 [.ref 1006]) 0 (ix_in 294 [.ref 1006]) [] _).trans rfl
set_option maxRecDepth 100000 in
theorem q_String_length_0 (b : Bool) (σ : ix_St) : ix_F 290 [.ref 1006] (ix_S0 b, σ) = ((ix_F 293 [.ref 1006] (ix_S0 b, σ)).bind fun x1 => some (.int ((Int32.ofNat 10) >>> ((ix_toI x1.1) &&& 31)), (ix_S0 b, x1.2.2))) := (ix_eq 290 (ix_rk 290 [.ref 1006]) 0 (ix_in 290 [.ref 1006]) [] _).trans rfl
set_option maxRecDepth 100000 in
theorem q_String_coder_0 (b : Bool) (σ : ix_St) : ix_F 293 [.ref 1006] (ix_S0 b, σ) = (if (1 : Int32) = 0 then some (.int (1 : Int32), (ix_S0 b, σ)) else some (.int (0 : Int32), (ix_S0 b, σ))) := (ix_eq 293 (ix_rk 293 [.ref 1006]) 0 (ix_in 293 [.ref 1006]) [] _).trans rfl
set_option maxRecDepth 100000 in
theorem q_String_length_0_1 (b : Bool) (σ : ix_St) : ix_F 290 [.ref 1002] (ix_S0 b, σ) = ((ix_F 293 [.ref 1002] (ix_S0 b, σ)).bind fun x1 => some (.int ((Int32.ofNat 98) >>> ((ix_toI x1.1) &&& 31)), (ix_S0 b, x1.2.2))) := (ix_eq 290 (ix_rk 290 [.ref 1002]) 0 (ix_in 290 [.ref 1002]) [] _).trans rfl
set_option maxRecDepth 100000 in
theorem q_String_charAt_0 (b : Bool) (v1 : Int32) (σ : ix_St) : ix_F 291 [.ref 1002, .int v1] (ix_S0 b, σ) = ((ix_F 294 [.ref 1002] (ix_S0 b, σ)).bind fun x1 => (if (ix_toI x1.1) = 0 then none else ((ix_F 295 [.ref 1007, .int v1] (ix_S0 b, x1.2.2)).bind fun x2 => (if (Int32.toUInt32 (ix_toI x2.1) % 65536).toInt32 = (ix_toI x2.1) then some (.int (ix_toI x2.1), (ix_S0 b, x2.2.2)) else none)))) := (ix_eq 291 (ix_rk 291 [.ref 1002, .int v1]) 0 (ix_in 291 [.ref 1002, .int v1]) [] _).trans rfl
set_option maxRecDepth 100000 in
theorem q_String_length_0_2 (b : Bool) (σ : ix_St) : ix_F 290 [.ref 1003] (ix_S0 b, σ) = ((ix_F 293 [.ref 1003] (ix_S0 b, σ)).bind fun x1 => some (.int ((Int32.ofNat 15) >>> ((ix_toI x1.1) &&& 31)), (ix_S0 b, x1.2.2))) := (ix_eq 290 (ix_rk 290 [.ref 1003]) 0 (ix_in 290 [.ref 1003]) [] _).trans rfl
set_option maxRecDepth 100000 in
theorem q_String_charAt_0_1 (b : Bool) (v1 : Int32) (σ : ix_St) : ix_F 291 [.ref 1003, .int v1] (ix_S0 b, σ) = ((ix_F 294 [.ref 1003] (ix_S0 b, σ)).bind fun x1 => (if (ix_toI x1.1) = 0 then none else ((ix_F 295 [.ref 1008, .int v1] (ix_S0 b, x1.2.2)).bind fun x2 => (if (Int32.toUInt32 (ix_toI x2.1) % 65536).toInt32 = (ix_toI x2.1) then some (.int (ix_toI x2.1), (ix_S0 b, x2.2.2)) else none)))) := (ix_eq 291 (ix_rk 291 [.ref 1003, .int v1]) 0 (ix_in 291 [.ref 1003, .int v1]) [] _).trans rfl
set_option maxRecDepth 100000 in
theorem q_String_length_0_3 (b : Bool) (σ : ix_St) : ix_F 290 [.ref 1004] (ix_S0 b, σ) = ((ix_F 293 [.ref 1004] (ix_S0 b, σ)).bind fun x1 => some (.int ((Int32.ofNat 8) >>> ((ix_toI x1.1) &&& 31)), (ix_S0 b, x1.2.2))) := (ix_eq 290 (ix_rk 290 [.ref 1004]) 0 (ix_in 290 [.ref 1004]) [] _).trans rfl
set_option maxRecDepth 100000 in
theorem q_String_charAt_0_2 (b : Bool) (v1 : Int32) (σ : ix_St) : ix_F 291 [.ref 1004, .int v1] (ix_S0 b, σ) = ((ix_F 294 [.ref 1004] (ix_S0 b, σ)).bind fun x1 => (if (ix_toI x1.1) = 0 then none else ((ix_F 295 [.ref 1009, .int v1] (ix_S0 b, x1.2.2)).bind fun x2 => (if (Int32.toUInt32 (ix_toI x2.1) % 65536).toInt32 = (ix_toI x2.1) then some (.int (ix_toI x2.1), (ix_S0 b, x2.2.2)) else none)))) := (ix_eq 291 (ix_rk 291 [.ref 1004, .int v1]) 0 (ix_in 291 [.ref 1004, .int v1]) [] _).trans rfl
set_option maxRecDepth 100000 in
theorem q_String_length_0_4 (b : Bool) (σ : ix_St) : ix_F 290 [.ref 1005] (ix_S0 b, σ) = ((ix_F 293 [.ref 1005] (ix_S0 b, σ)).bind fun x1 => some (.int ((Int32.ofNat 14) >>> ((ix_toI x1.1) &&& 31)), (ix_S0 b, x1.2.2))) := (ix_eq 290 (ix_rk 290 [.ref 1005]) 0 (ix_in 290 [.ref 1005]) [] _).trans rfl
set_option maxRecDepth 100000 in
theorem q_String_charAt_0_3 (b : Bool) (v1 : Int32) (σ : ix_St) : ix_F 291 [.ref 1005, .int v1] (ix_S0 b, σ) = ((ix_F 294 [.ref 1005] (ix_S0 b, σ)).bind fun x1 => (if (ix_toI x1.1) = 0 then none else ((ix_F 295 [.ref 1010, .int v1] (ix_S0 b, x1.2.2)).bind fun x2 => (if (Int32.toUInt32 (ix_toI x2.1) % 65536).toInt32 = (ix_toI x2.1) then some (.int (ix_toI x2.1), (ix_S0 b, x2.2.2)) else none)))) := (ix_eq 291 (ix_rk 291 [.ref 1005, .int v1]) 0 (ix_in 291 [.ref 1005, .int v1]) [] _).trans rfl
set_option maxRecDepth 100000 in
theorem q_String_coder_0_1 (b : Bool) (σ : ix_St) : ix_F 293 [.ref 1002] (ix_S0 b, σ) = (if (1 : Int32) = 0 then some (.int (1 : Int32), (ix_S0 b, σ)) else some (.int (0 : Int32), (ix_S0 b, σ))) := (ix_eq 293 (ix_rk 293 [.ref 1002]) 0 (ix_in 293 [.ref 1002]) [] _).trans rfl
set_option maxRecDepth 100000 in
theorem q_String_isLatin1_0_1 (b : Bool) (σ : ix_St) : ix_F 294 [.ref 1002] (ix_S0 b, σ) = (if (1 : Int32) = 0 then some (.int (0 : Int32), (ix_S0 b, σ)) else (if (0 : Int32) = 0 then some (.int (1 : Int32), (ix_S0 b, σ)) else some (.int (0 : Int32), (ix_S0 b, σ)))) := (ix_eq 294 (ix_rk 294 [.ref 1002]) 0 (ix_in 294 [.ref 1002]) [] _).trans rfl
set_option maxRecDepth 100000 in
theorem q_String_coder_0_2 (b : Bool) (σ : ix_St) : ix_F 293 [.ref 1003] (ix_S0 b, σ) = (if (1 : Int32) = 0 then some (.int (1 : Int32), (ix_S0 b, σ)) else some (.int (0 : Int32), (ix_S0 b, σ))) := (ix_eq 293 (ix_rk 293 [.ref 1003]) 0 (ix_in 293 [.ref 1003]) [] _).trans rfl
set_option maxRecDepth 100000 in
theorem q_String_isLatin1_0_2 (b : Bool) (σ : ix_St) : ix_F 294 [.ref 1003] (ix_S0 b, σ) = (if (1 : Int32) = 0 then some (.int (0 : Int32), (ix_S0 b, σ)) else (if (0 : Int32) = 0 then some (.int (1 : Int32), (ix_S0 b, σ)) else some (.int (0 : Int32), (ix_S0 b, σ)))) := (ix_eq 294 (ix_rk 294 [.ref 1003]) 0 (ix_in 294 [.ref 1003]) [] _).trans rfl
set_option maxRecDepth 100000 in
theorem q_String_coder_0_3 (b : Bool) (σ : ix_St) : ix_F 293 [.ref 1004] (ix_S0 b, σ) = (if (1 : Int32) = 0 then some (.int (1 : Int32), (ix_S0 b, σ)) else some (.int (0 : Int32), (ix_S0 b, σ))) := (ix_eq 293 (ix_rk 293 [.ref 1004]) 0 (ix_in 293 [.ref 1004]) [] _).trans rfl
set_option maxRecDepth 100000 in
theorem q_String_isLatin1_0_3 (b : Bool) (σ : ix_St) : ix_F 294 [.ref 1004] (ix_S0 b, σ) = (if (1 : Int32) = 0 then some (.int (0 : Int32), (ix_S0 b, σ)) else (if (0 : Int32) = 0 then some (.int (1 : Int32), (ix_S0 b, σ)) else some (.int (0 : Int32), (ix_S0 b, σ)))) := (ix_eq 294 (ix_rk 294 [.ref 1004]) 0 (ix_in 294 [.ref 1004]) [] _).trans rfl
set_option maxRecDepth 100000 in
theorem q_String_coder_0_4 (b : Bool) (σ : ix_St) : ix_F 293 [.ref 1005] (ix_S0 b, σ) = (if (1 : Int32) = 0 then some (.int (1 : Int32), (ix_S0 b, σ)) else some (.int (0 : Int32), (ix_S0 b, σ))) := (ix_eq 293 (ix_rk 293 [.ref 1005]) 0 (ix_in 293 [.ref 1005]) [] _).trans rfl
set_option maxRecDepth 100000 in
theorem q_String_isLatin1_0_4 (b : Bool) (σ : ix_St) : ix_F 294 [.ref 1005] (ix_S0 b, σ) = (if (1 : Int32) = 0 then some (.int (0 : Int32), (ix_S0 b, σ)) else (if (0 : Int32) = 0 then some (.int (1 : Int32), (ix_S0 b, σ)) else some (.int (0 : Int32), (ix_S0 b, σ)))) := (ix_eq 294 (ix_rk 294 [.ref 1005]) 0 (ix_in 294 [.ref 1005]) [] _).trans rfl
set_option maxRecDepth 100000 in
theorem q_StringLatin1_l1indexOf_0 (b : Bool) (v1 v2 v3 : Int32) (σ : ix_St) : ix_F 296 [.ref 1011, .int v1, .int v2, .int v3] (ix_S0 b, σ) = ((ix_F 297 [.int v1] (ix_S0 b, σ)).bind fun x1 => (if (ix_toI x1.1) = 0 then some (.int (-1 : Int32), (ix_S0 b, x1.2.2)) else ((ix_F 289 [.int v2, .int (0 : Int32)] (ix_S0 b, x1.2.2)).bind fun x2 => ((ix_F 285 [.int v3, .int (Int32.ofNat 10)] (ix_S0 b, x2.2.2)).bind fun x3 => (if (ix_toI x2.1) < (ix_toI x3.1) then ((ix_F 298 [.ref 1011, .int v1, .int (ix_toI x2.1), .int (ix_toI x3.1)] (ix_S0 b, x3.2.2)).bind fun x4 => some (.int (ix_toI x4.1), (ix_S0 b, x4.2.2))) else some (.int (-1 : Int32), (ix_S0 b, x3.2.2))))))) := (ix_eq 296 (ix_rk 296 [.ref 1011, .int v1, .int v2, .int v3]) 0 (ix_in 296 [.ref 1011, .int v1, .int v2, .int v3]) [] _).trans rfl
set_option maxRecDepth 100000 in
theorem q_StringLatin1_l1canEncode_0 (b : Bool) (v0 : Int32) (σ : ix_St) : ix_F 297 [.int v0] (ix_S0 b, σ) = (if v0 < 0 then some (.int (0 : Int32), (ix_S0 b, σ)) else (if (255 : Int32) < v0 then some (.int (0 : Int32), (ix_S0 b, σ)) else some (.int (1 : Int32), (ix_S0 b, σ)))) := (ix_eq 297 (ix_rk 297 [.int v0]) 0 (ix_in 297 [.int v0]) [] _).trans rfl
set_option maxRecDepth 100000 in
theorem q_StringLatin1_l1indexOfChar_0 (b : Bool) (v1 v2 v3 : Int32) (σ : ix_St) : ix_F 298 [.ref 1011, .int v1, .int v2, .int v3] (ix_S0 b, σ) = ix_S 298 1 7 [some (.ref 1011), none, none, some (.int v3), some (.int (Int32.toInt8 v1).toInt32), some (.int v2)] [] (ix_S0 b, σ) := (ix_eq 298 (ix_rk 298 [.ref 1011, .int v1, .int v2, .int v3]) 0 (ix_in 298 [.ref 1011, .int v1, .int v2, .int v3]) [] _).trans rfl
set_option maxRecDepth 100000 in
theorem q_StringLatin1_l1indexOfChar_7 (b : Bool) (v3 v4 v5 : Int32) (σ : ix_St) : ix_S 298 1 7 [some (.ref 1011), none, none, some (.int v3), some (.int v4), some (.int v5)] [] (ix_S0 b, σ) = (if v3 ≤ v5 then some (.int (-1 : Int32), (ix_S0 b, σ)) else (if v5 < 0 ∨ 10 ≤ (v5).toNatClampNeg then none else (if (σ 1011 (v5).toNatClampNeg) = v4 then some (.int v5, (ix_S0 b, σ)) else ix_S 298 1 7 [some (.ref 1011), none, none, some (.int v3), some (.int v4), some (.int (v5 + (1 : Int32)))] [] (ix_S0 b, σ)))) := (ix_eq _ _ _ _ _ _).trans rfl
set_option maxRecDepth 100000 in
theorem q_StringLatin1_l1charAt_0 (b : Bool) (v1 : Int32) (σ : ix_St) : ix_F 295 [.ref 1007, .int v1] (ix_S0 b, σ) = none := (ix_eq 295 (ix_rk 295 [.ref 1007, .int v1]) 0 (ix_in 295 [.ref 1007, .int v1]) [] _).trans rfl
set_option maxRecDepth 100000 in
theorem q_StringLatin1_l1charAt_0_1 (b : Bool) (v1 : Int32) (σ : ix_St) : ix_F 295 [.ref 1008, .int v1] (ix_S0 b, σ) = none := (ix_eq 295 (ix_rk 295 [.ref 1008, .int v1]) 0 (ix_in 295 [.ref 1008, .int v1]) [] _).trans rfl
set_option maxRecDepth 100000 in
theorem q_StringLatin1_l1charAt_0_2 (b : Bool) (v1 : Int32) (σ : ix_St) : ix_F 295 [.ref 1009, .int v1] (ix_S0 b, σ) = none := (ix_eq 295 (ix_rk 295 [.ref 1009, .int v1]) 0 (ix_in 295 [.ref 1009, .int v1]) [] _).trans rfl
set_option maxRecDepth 100000 in
theorem q_StringLatin1_l1charAt_0_3 (b : Bool) (v1 : Int32) (σ : ix_St) : ix_F 295 [.ref 1010, .int v1] (ix_S0 b, σ) = none := (ix_eq 295 (ix_rk 295 [.ref 1010, .int v1]) 0 (ix_in 295 [.ref 1010, .int v1]) [] _).trans rfl
end
section
set_option maxRecDepth 100000 in
theorem q_River_board_0 (b : Bool) (v1 v2 v3 v4 : Int32) (σ : ix_St) : ix_F 116 [.ref 2, .int v1, .int v2, .int v3, .int v4] (ix_S0 b, σ) = (if (σ 2 6) < (12 : Int32) then (if (σ 2 6) < 0 ∨ 12 ≤ (σ 2 6).toNatClampNeg then none else (if (σ 2 6) < 0 ∨ 12 ≤ (σ 2 6).toNatClampNeg then none else (if (σ 2 6) < 0 ∨ 12 ≤ (σ 2 6).toNatClampNeg then none else (if (σ 2 6) < 0 ∨ 12 ≤ (σ 2 6).toNatClampNeg then none else (if (σ 2 6) < 0 ∨ 12 ≤ (σ 2 6).toNatClampNeg then none else (if (σ 2 6) < 0 ∨ 12 ≤ (σ 2 6).toNatClampNeg then none else some (.int (σ 2 6), (ix_S0 b, (ix_up (ix_up (ix_up (ix_up (ix_up (ix_up (ix_up σ 3 (σ 2 6).toNatClampNeg v1) 4 (σ 2 6).toNatClampNeg v2) 5 (σ 2 6).toNatClampNeg v3) 6 (σ 2 6).toNatClampNeg v4) 7 (σ 2 6).toNatClampNeg (0 : Int32)) 8 (σ 2 6).toNatClampNeg (0 : Int32)) 2 6 ((σ 2 6) + (1 : Int32))))))))))) else some (.int (-1 : Int32), (ix_S0 b, σ))) := (ix_eq 116 (ix_rk 116 [.ref 2, .int v1, .int v2, .int v3, .int v4]) 0 (ix_in 116 [.ref 2, .int v1, .int v2, .int v3, .int v4]) [] _).trans rfl
set_option maxRecDepth 100000 in
theorem q_River_tellOf_0 (b : Bool) (v1 v2 v3 : Int32) (σ : ix_St) : ix_F 118 [.ref 2, .int v1, .int v2, .int v3] (ix_S0 b, σ) = ((ix_F 120 [.ref 2, .int v2] (ix_S0 b, σ)).bind fun x1 => (if (ix_toI x1.1) = 0 then some (.int (0 : Int32), (ix_S0 b, x1.2.2)) else (if v1 = (3 : Int32) then ((ix_F 33 [.int v3] (ix_S0 b, x1.2.2)).bind fun x2 => (if (ix_toI x2.1) = 0 then (if v1 = (4 : Int32) then ((ix_F 34 [.int v3] (ix_S0 b, x2.2.2)).bind fun x3 => (if (ix_toI x3.1) = 0 then (if v1 = (5 : Int32) then ((ix_F 34 [.int v3] (ix_S0 b, x3.2.2)).bind fun x4 => (if (ix_toI x4.1) = 0 then some (.int (0 : Int32), (ix_S0 b, x4.2.2)) else (if v2 < 0 ∨ 12 ≤ (v2).toNatClampNeg then none else some (.int (1 : Int32), (ix_S0 b, (ix_up x4.2.2 6 (v2).toNatClampNeg v3)))))) else some (.int (0 : Int32), (ix_S0 b, x3.2.2))) else (if v2 < 0 ∨ 12 ≤ (v2).toNatClampNeg then none else some (.int (1 : Int32), (ix_S0 b, (ix_up x3.2.2 5 (v2).toNatClampNeg v3)))))) else (if v1 = (5 : Int32) then ((ix_F 34 [.int v3] (ix_S0 b, x2.2.2)).bind fun x5 => (if (ix_toI x5.1) = 0 then some (.int (0 : Int32), (ix_S0 b, x5.2.2)) else (if v2 < 0 ∨ 12 ≤ (v2).toNatClampNeg then none else some (.int (1 : Int32), (ix_S0 b, (ix_up x5.2.2 6 (v2).toNatClampNeg v3)))))) else some (.int (0 : Int32), (ix_S0 b, x2.2.2)))) else (if v2 < 0 ∨ 12 ≤ (v2).toNatClampNeg then none else some (.int (1 : Int32), (ix_S0 b, (ix_up x2.2.2 3 (v2).toNatClampNeg v3)))))) else (if v1 = (4 : Int32) then ((ix_F 34 [.int v3] (ix_S0 b, x1.2.2)).bind fun x6 => (if (ix_toI x6.1) = 0 then (if v1 = (5 : Int32) then ((ix_F 34 [.int v3] (ix_S0 b, x6.2.2)).bind fun x7 => (if (ix_toI x7.1) = 0 then some (.int (0 : Int32), (ix_S0 b, x7.2.2)) else (if v2 < 0 ∨ 12 ≤ (v2).toNatClampNeg then none else some (.int (1 : Int32), (ix_S0 b, (ix_up x7.2.2 6 (v2).toNatClampNeg v3)))))) else some (.int (0 : Int32), (ix_S0 b, x6.2.2))) else (if v2 < 0 ∨ 12 ≤ (v2).toNatClampNeg then none else some (.int (1 : Int32), (ix_S0 b, (ix_up x6.2.2 5 (v2).toNatClampNeg v3)))))) else (if v1 = (5 : Int32) then ((ix_F 34 [.int v3] (ix_S0 b, x1.2.2)).bind fun x8 => (if (ix_toI x8.1) = 0 then some (.int (0 : Int32), (ix_S0 b, x8.2.2)) else (if v2 < 0 ∨ 12 ≤ (v2).toNatClampNeg then none else some (.int (1 : Int32), (ix_S0 b, (ix_up x8.2.2 6 (v2).toNatClampNeg v3)))))) else some (.int (0 : Int32), (ix_S0 b, x1.2.2))))))) := (ix_eq 118 (ix_rk 118 [.ref 2, .int v1, .int v2, .int v3]) 0 (ix_in 118 [.ref 2, .int v1, .int v2, .int v3]) [] _).trans rfl
set_option maxRecDepth 100000 in
theorem q_River_tell_0 (b : Bool) (v1 v2 : Int32) (σ : ix_St) : ix_F 117 [.ref 2, .int v1, .int v2] (ix_S0 b, σ) = (if v1 = 0 then ((ix_F 34 [.int v2] (ix_S0 b, σ)).bind fun x1 => (if (ix_toI x1.1) = 0 then (if v1 = (1 : Int32) then (if v2 < 0 then (if v1 = (2 : Int32) then (if v2 < 0 then some (.int (0 : Int32), (ix_S0 b, x1.2.2)) else (if (999 : Int32) < v2 then some (.int (0 : Int32), (ix_S0 b, x1.2.2)) else some (.int (1 : Int32), (ix_S0 b, (ix_up x1.2.2 2 2 v2))))) else some (.int (0 : Int32), (ix_S0 b, x1.2.2))) else (if (6 : Int32) ≤ v2 then (if v1 = (2 : Int32) then (if v2 < 0 then some (.int (0 : Int32), (ix_S0 b, x1.2.2)) else (if (999 : Int32) < v2 then some (.int (0 : Int32), (ix_S0 b, x1.2.2)) else some (.int (1 : Int32), (ix_S0 b, (ix_up x1.2.2 2 2 v2))))) else some (.int (0 : Int32), (ix_S0 b, x1.2.2))) else some (.int (1 : Int32), (ix_S0 b, (ix_up x1.2.2 2 1 v2))))) else (if v1 = (2 : Int32) then (if v2 < 0 then some (.int (0 : Int32), (ix_S0 b, x1.2.2)) else (if (999 : Int32) < v2 then some (.int (0 : Int32), (ix_S0 b, x1.2.2)) else some (.int (1 : Int32), (ix_S0 b, (ix_up x1.2.2 2 2 v2))))) else some (.int (0 : Int32), (ix_S0 b, x1.2.2)))) else some (.int (1 : Int32), (ix_S0 b, (ix_up x1.2.2 2 3 v2))))) else (if v1 = (1 : Int32) then (if v2 < 0 then (if v1 = (2 : Int32) then (if v2 < 0 then some (.int (0 : Int32), (ix_S0 b, σ)) else (if (999 : Int32) < v2 then some (.int (0 : Int32), (ix_S0 b, σ)) else some (.int (1 : Int32), (ix_S0 b, (ix_up σ 2 2 v2))))) else some (.int (0 : Int32), (ix_S0 b, σ))) else (if (6 : Int32) ≤ v2 then (if v1 = (2 : Int32) then (if v2 < 0 then some (.int (0 : Int32), (ix_S0 b, σ)) else (if (999 : Int32) < v2 then some (.int (0 : Int32), (ix_S0 b, σ)) else some (.int (1 : Int32), (ix_S0 b, (ix_up σ 2 2 v2))))) else some (.int (0 : Int32), (ix_S0 b, σ))) else some (.int (1 : Int32), (ix_S0 b, (ix_up σ 2 1 v2))))) else (if v1 = (2 : Int32) then (if v2 < 0 then some (.int (0 : Int32), (ix_S0 b, σ)) else (if (999 : Int32) < v2 then some (.int (0 : Int32), (ix_S0 b, σ)) else some (.int (1 : Int32), (ix_S0 b, (ix_up σ 2 2 v2))))) else some (.int (0 : Int32), (ix_S0 b, σ))))) := (ix_eq 117 (ix_rk 117 [.ref 2, .int v1, .int v2]) 0 (ix_in 117 [.ref 2, .int v1, .int v2]) [] _).trans rfl
set_option maxRecDepth 100000 in
theorem q_River_canRow_0 (b : Bool) (v1 : Int32) (σ : ix_St) : ix_F 119 [.ref 2, .int v1] (ix_S0 b, σ) = (if v1 = 0 then some (.int (0 : Int32), (ix_S0 b, σ)) else ((ix_F 122 [.ref 2] (ix_S0 b, σ)).bind fun x1 => (if (v1 &&& ((ix_toI x1.1) ^^^ (-1 : Int32))) = 0 then some (.int (1 : Int32), (ix_S0 b, x1.2.2)) else some (.int (0 : Int32), (ix_S0 b, x1.2.2))))) := (ix_eq 119 (ix_rk 119 [.ref 2, .int v1]) 0 (ix_in 119 [.ref 2, .int v1]) [] _).trans rfl
set_option maxRecDepth 100000 in
theorem q_River_has_0 (b : Bool) (v1 : Int32) (σ : ix_St) : ix_F 120 [.ref 2, .int v1] (ix_S0 b, σ) = (if v1 < 0 then some (.int (0 : Int32), (ix_S0 b, σ)) else (if (σ 2 6) ≤ v1 then some (.int (0 : Int32), (ix_S0 b, σ)) else some (.int (1 : Int32), (ix_S0 b, σ)))) := (ix_eq 120 (ix_rk 120 [.ref 2, .int v1]) 0 (ix_in 120 [.ref 2, .int v1]) [] _).trans rfl
set_option maxRecDepth 100000 in
theorem q_River_isOver_0 (b : Bool) (v1 : Int32) (σ : ix_St) : ix_F 121 [.ref 2, .int v1] (ix_S0 b, σ) = (if (((σ 2 7) >>> (v1 &&& 31)) &&& (1 : Int32)) = (1 : Int32) then some (.int (1 : Int32), (ix_S0 b, σ)) else some (.int (0 : Int32), (ix_S0 b, σ))) := (ix_eq 121 (ix_rk 121 [.ref 2, .int v1]) 0 (ix_in 121 [.ref 2, .int v1]) [] _).trans rfl
set_option maxRecDepth 100000 in
theorem q_River_everyone_0 (b : Bool) (σ : ix_St) : ix_F 123 [.ref 2] (ix_S0 b, σ) = some (.int (((1 : Int32) <<< ((σ 2 6) &&& 31)) - (1 : Int32)), (ix_S0 b, σ)) := (ix_eq 123 (ix_rk 123 [.ref 2]) 0 (ix_in 123 [.ref 2]) [] _).trans rfl
set_option maxRecDepth 100000 in
theorem q_River_trait_0 (b : Bool) (v1 v2 : Int32) (σ : ix_St) : ix_F 124 [.ref 2, .int v1, .int v2] (ix_S0 b, σ) = (if Int32.toInt v2 = 0 then (if v1 < 0 ∨ 12 ≤ (v1).toNatClampNeg then none else some (.int (σ 3 (v1).toNatClampNeg), (ix_S0 b, σ))) else (if Int32.toInt v2 = 1 then (if v1 < 0 ∨ 12 ≤ (v1).toNatClampNeg then none else some (.int (σ 4 (v1).toNatClampNeg), (ix_S0 b, σ))) else (if Int32.toInt v2 = 2 then (if v1 < 0 ∨ 12 ≤ (v1).toNatClampNeg then none else some (.int (σ 5 (v1).toNatClampNeg), (ix_S0 b, σ))) else (if Int32.toInt v2 = 3 then (if v1 < 0 ∨ 12 ≤ (v1).toNatClampNeg then none else some (.int (σ 6 (v1).toNatClampNeg), (ix_S0 b, σ))) else (if Int32.toInt v2 = 4 then some (.int (((σ 2 7) >>> (v1 &&& 31)) &&& (1 : Int32)), (ix_S0 b, σ)) else (if Int32.toInt v2 = 5 then (if v1 < 0 ∨ 12 ≤ (v1).toNatClampNeg then none else some (.int (σ 7 (v1).toNatClampNeg), (ix_S0 b, σ))) else (if Int32.toInt v2 = 6 then (if v1 < 0 ∨ 12 ≤ (v1).toNatClampNeg then none else some (.int (σ 8 (v1).toNatClampNeg), (ix_S0 b, σ))) else some (.int (-1 : Int32), (ix_S0 b, σ))))))))) := (ix_eq 124 (ix_rk 124 [.ref 2, .int v1, .int v2]) 0 (ix_in 124 [.ref 2, .int v1, .int v2]) [] _).trans rfl
set_option maxRecDepth 100000 in
theorem q_River_nearestTo_0 (b : Bool) (v1 : Int32) (σ : ix_St) : ix_F 125 [.ref 2, .int v1] (ix_S0 b, σ) = ix_S 125 3 7 [some (.ref 2), some (.int v1), some (.int (-1 : Int32)), some (.int (0 : Int32)), some (.int (0 : Int32)), none] [] (ix_S0 b, σ) := (ix_eq 125 (ix_rk 125 [.ref 2, .int v1]) 0 (ix_in 125 [.ref 2, .int v1]) [] _).trans rfl
set_option maxRecDepth 100000 in
theorem q_River_notOver_0 (b : Bool) (σ : ix_St) : ix_F 122 [.ref 2] (ix_S0 b, σ) = ((ix_F 123 [.ref 2] (ix_S0 b, σ)).bind fun x1 => some (.int ((ix_toI x1.1) &&& ((x1.2.2 2 7) ^^^ (-1 : Int32))), (ix_S0 b, x1.2.2))) := (ix_eq 122 (ix_rk 122 [.ref 2]) 0 (ix_in 122 [.ref 2]) [] _).trans rfl
set_option maxRecDepth 100000 in
theorem q_River_copyFrom_0 (b : Bool) (σ : ix_St) : ix_F 127 [.ref 58, .ref 2] (ix_S0 b, σ) = some (.null, (ix_S0 b, (ix_cp (ix_cp (ix_cp (ix_cp (ix_cp (ix_cp (ix_up (ix_up (ix_up (ix_up (ix_up (ix_up (ix_up (ix_up σ 58 0 (σ 2 0)) 58 1 (σ 2 1)) 58 2 (σ 2 2)) 58 3 (σ 2 3)) 58 4 (σ 2 4)) 58 5 (σ 2 5)) 58 6 (σ 2 6)) 58 7 (σ 2 7)) 3 59 0 0 12) 4 60 0 0 12) 5 61 0 0 12) 6 62 0 0 12) 7 63 0 0 12) 8 64 0 0 12))) := (ix_eq 127 (ix_rk 127 [.ref 58, .ref 2]) 0 (ix_in 127 [.ref 58, .ref 2]) [] _).trans rfl
set_option maxRecDepth 100000 in
theorem q_River_copyFrom_0_1 (b : Bool) (σ : ix_St) : ix_F 127 [.ref 65, .ref 2] (ix_S0 b, σ) = some (.null, (ix_S0 b, (ix_cp (ix_cp (ix_cp (ix_cp (ix_cp (ix_cp (ix_up (ix_up (ix_up (ix_up (ix_up (ix_up (ix_up (ix_up σ 65 0 (σ 2 0)) 65 1 (σ 2 1)) 65 2 (σ 2 2)) 65 3 (σ 2 3)) 65 4 (σ 2 4)) 65 5 (σ 2 5)) 65 6 (σ 2 6)) 65 7 (σ 2 7)) 3 66 0 0 12) 4 67 0 0 12) 5 68 0 0 12) 6 69 0 0 12) 7 70 0 0 12) 8 71 0 0 12))) := (ix_eq 127 (ix_rk 127 [.ref 65, .ref 2]) 0 (ix_in 127 [.ref 65, .ref 2]) [] _).trans rfl
set_option maxRecDepth 100000 in
theorem q_River_copyFrom_0_2 (b : Bool) (σ : ix_St) : ix_F 127 [.ref 72, .ref 2] (ix_S0 b, σ) = some (.null, (ix_S0 b, (ix_cp (ix_cp (ix_cp (ix_cp (ix_cp (ix_cp (ix_up (ix_up (ix_up (ix_up (ix_up (ix_up (ix_up (ix_up σ 72 0 (σ 2 0)) 72 1 (σ 2 1)) 72 2 (σ 2 2)) 72 3 (σ 2 3)) 72 4 (σ 2 4)) 72 5 (σ 2 5)) 72 6 (σ 2 6)) 72 7 (σ 2 7)) 3 73 0 0 12) 4 74 0 0 12) 5 75 0 0 12) 6 76 0 0 12) 7 77 0 0 12) 8 78 0 0 12))) := (ix_eq 127 (ix_rk 127 [.ref 72, .ref 2]) 0 (ix_in 127 [.ref 72, .ref 2]) [] _).trans rfl
set_option maxRecDepth 100000 in
theorem q_River_copyFrom_0_3 (b : Bool) (σ : ix_St) : ix_F 127 [.ref 79, .ref 2] (ix_S0 b, σ) = some (.null, (ix_S0 b, (ix_cp (ix_cp (ix_cp (ix_cp (ix_cp (ix_cp (ix_up (ix_up (ix_up (ix_up (ix_up (ix_up (ix_up (ix_up σ 79 0 (σ 2 0)) 79 1 (σ 2 1)) 79 2 (σ 2 2)) 79 3 (σ 2 3)) 79 4 (σ 2 4)) 79 5 (σ 2 5)) 79 6 (σ 2 6)) 79 7 (σ 2 7)) 3 80 0 0 12) 4 81 0 0 12) 5 82 0 0 12) 6 83 0 0 12) 7 84 0 0 12) 8 85 0 0 12))) := (ix_eq 127 (ix_rk 127 [.ref 79, .ref 2]) 0 (ix_in 127 [.ref 79, .ref 2]) [] _).trans rfl
set_option maxRecDepth 100000 in
theorem q_River_copyFrom_0_4 (b : Bool) (σ : ix_St) : ix_F 127 [.ref 86, .ref 2] (ix_S0 b, σ) = some (.null, (ix_S0 b, (ix_cp (ix_cp (ix_cp (ix_cp (ix_cp (ix_cp (ix_up (ix_up (ix_up (ix_up (ix_up (ix_up (ix_up (ix_up σ 86 0 (σ 2 0)) 86 1 (σ 2 1)) 86 2 (σ 2 2)) 86 3 (σ 2 3)) 86 4 (σ 2 4)) 86 5 (σ 2 5)) 86 6 (σ 2 6)) 86 7 (σ 2 7)) 3 87 0 0 12) 4 88 0 0 12) 5 89 0 0 12) 6 90 0 0 12) 7 91 0 0 12) 8 92 0 0 12))) := (ix_eq 127 (ix_rk 127 [.ref 86, .ref 2]) 0 (ix_in 127 [.ref 86, .ref 2]) [] _).trans rfl
set_option maxRecDepth 100000 in
theorem q_River_copyFrom_0_5 (b : Bool) (σ : ix_St) : ix_F 127 [.ref 93, .ref 2] (ix_S0 b, σ) = some (.null, (ix_S0 b, (ix_cp (ix_cp (ix_cp (ix_cp (ix_cp (ix_cp (ix_up (ix_up (ix_up (ix_up (ix_up (ix_up (ix_up (ix_up σ 93 0 (σ 2 0)) 93 1 (σ 2 1)) 93 2 (σ 2 2)) 93 3 (σ 2 3)) 93 4 (σ 2 4)) 93 5 (σ 2 5)) 93 6 (σ 2 6)) 93 7 (σ 2 7)) 3 94 0 0 12) 4 95 0 0 12) 5 96 0 0 12) 6 97 0 0 12) 7 98 0 0 12) 8 99 0 0 12))) := (ix_eq 127 (ix_rk 127 [.ref 93, .ref 2]) 0 (ix_in 127 [.ref 93, .ref 2]) [] _).trans rfl
set_option maxRecDepth 100000 in
theorem q_River_settle_0 (b : Bool) (v1 : Int32) (σ : ix_St) : ix_F 128 [.ref 2, .int v1] (ix_S0 b, σ) = (if v1 = (σ 2 1) then ((ix_F 285 [.int ((σ 2 2) + (1 : Int32)), .int (999 : Int32)] (ix_S0 b, σ)).bind fun x1 => some (.null, (ix_S0 b, (ix_up (ix_up x1.2.2 2 2 (ix_toI x1.1)) 2 1 v1)))) else some (.null, (ix_S0 b, (ix_up (ix_up σ 2 2 (0 : Int32)) 2 1 v1)))) := (ix_eq 128 (ix_rk 128 [.ref 2, .int v1]) 0 (ix_in 128 [.ref 2, .int v1]) [] _).trans rfl
set_option maxRecDepth 100000 in
theorem q_River_copyFrom_0_6 (b : Bool) (σ : ix_St) : ix_F 127 [.ref 123, .ref 2] (ix_S0 b, σ) = some (.null, (ix_S0 b, (ix_cp (ix_cp (ix_cp (ix_cp (ix_cp (ix_cp (ix_up (ix_up (ix_up (ix_up (ix_up (ix_up (ix_up (ix_up σ 123 0 (σ 2 0)) 123 1 (σ 2 1)) 123 2 (σ 2 2)) 123 3 (σ 2 3)) 123 4 (σ 2 4)) 123 5 (σ 2 5)) 123 6 (σ 2 6)) 123 7 (σ 2 7)) 3 124 0 0 12) 4 125 0 0 12) 5 126 0 0 12) 6 127 0 0 12) 7 128 0 0 12) 8 129 0 0 12))) := (ix_eq 127 (ix_rk 127 [.ref 123, .ref 2]) 0 (ix_in 127 [.ref 123, .ref 2]) [] _).trans rfl
set_option maxRecDepth 100000 in
theorem q_River_nearestTo_7 (b : Bool) (v1 v2 v3 v4 : Int32) (σ : ix_St) : ix_S 125 3 7 [some (.ref 2), some (.int v1), some (.int v2), some (.int v3), some (.int v4), none] [] (ix_S0 b, σ) = (if (σ 2 6) ≤ v4 then some (.int v2, (ix_S0 b, σ)) else (if v4 = v1 then ix_S 125 3 7 [some (.ref 2), some (.int v1), some (.int v2), some (.int v3), some (.int (v4 + (1 : Int32))), none] [] (ix_S0 b, σ) else ((ix_F 121 [.ref 2, .int v4] (ix_S0 b, σ)).bind fun x1 => (if (ix_toI x1.1) = 0 then (if v1 < 0 ∨ 12 ≤ (v1).toNatClampNeg then none else (if v4 < 0 ∨ 12 ≤ (v4).toNatClampNeg then none else ((ix_F 36 [.int (x1.2.2 3 (v1).toNatClampNeg), .int (x1.2.2 3 (v4).toNatClampNeg)] (ix_S0 b, x1.2.2)).bind fun x2 => (if v2 = (-1 : Int32) then ix_S 125 3 7 [some (.ref 2), some (.int v1), some (.int v4), some (.int (ix_toI x2.1)), some (.int (v4 + (1 : Int32))), none] [] (ix_S0 b, x2.2.2) else (if v3 ≤ (ix_toI x2.1) then ix_S 125 3 7 [some (.ref 2), some (.int v1), some (.int v2), some (.int v3), some (.int (v4 + (1 : Int32))), none] [] (ix_S0 b, x2.2.2) else ix_S 125 3 7 [some (.ref 2), some (.int v1), some (.int v4), some (.int (ix_toI x2.1)), some (.int (v4 + (1 : Int32))), none] [] (ix_S0 b, x2.2.2)))))) else ix_S 125 3 7 [some (.ref 2), some (.int v1), some (.int v2), some (.int v3), some (.int (v4 + (1 : Int32))), none] [] (ix_S0 b, x1.2.2))))) := (ix_eq _ _ _ _ _ _).trans rfl
set_option maxRecDepth 100000 in
theorem q_River_copyFrom_0_7 (b : Bool) (σ : ix_St) : ix_F 127 [.ref 2, .ref 58] (ix_S0 b, σ) = some (.null, (ix_S0 b, (ix_cp (ix_cp (ix_cp (ix_cp (ix_cp (ix_cp (ix_up (ix_up (ix_up (ix_up (ix_up (ix_up (ix_up (ix_up σ 2 0 (σ 58 0)) 2 1 (σ 58 1)) 2 2 (σ 58 2)) 2 3 (σ 58 3)) 2 4 (σ 58 4)) 2 5 (σ 58 5)) 2 6 (σ 58 6)) 2 7 (σ 58 7)) 59 3 0 0 12) 60 4 0 0 12) 61 5 0 0 12) 62 6 0 0 12) 63 7 0 0 12) 64 8 0 0 12))) := (ix_eq 127 (ix_rk 127 [.ref 2, .ref 58]) 0 (ix_in 127 [.ref 2, .ref 58]) [] _).trans rfl
set_option maxRecDepth 100000 in
theorem q_River_copyFrom_0_8 (b : Bool) (σ : ix_St) : ix_F 127 [.ref 2, .ref 65] (ix_S0 b, σ) = some (.null, (ix_S0 b, (ix_cp (ix_cp (ix_cp (ix_cp (ix_cp (ix_cp (ix_up (ix_up (ix_up (ix_up (ix_up (ix_up (ix_up (ix_up σ 2 0 (σ 65 0)) 2 1 (σ 65 1)) 2 2 (σ 65 2)) 2 3 (σ 65 3)) 2 4 (σ 65 4)) 2 5 (σ 65 5)) 2 6 (σ 65 6)) 2 7 (σ 65 7)) 66 3 0 0 12) 67 4 0 0 12) 68 5 0 0 12) 69 6 0 0 12) 70 7 0 0 12) 71 8 0 0 12))) := (ix_eq 127 (ix_rk 127 [.ref 2, .ref 65]) 0 (ix_in 127 [.ref 2, .ref 65]) [] _).trans rfl
set_option maxRecDepth 100000 in
theorem q_River_copyFrom_0_9 (b : Bool) (σ : ix_St) : ix_F 127 [.ref 2, .ref 72] (ix_S0 b, σ) = some (.null, (ix_S0 b, (ix_cp (ix_cp (ix_cp (ix_cp (ix_cp (ix_cp (ix_up (ix_up (ix_up (ix_up (ix_up (ix_up (ix_up (ix_up σ 2 0 (σ 72 0)) 2 1 (σ 72 1)) 2 2 (σ 72 2)) 2 3 (σ 72 3)) 2 4 (σ 72 4)) 2 5 (σ 72 5)) 2 6 (σ 72 6)) 2 7 (σ 72 7)) 73 3 0 0 12) 74 4 0 0 12) 75 5 0 0 12) 76 6 0 0 12) 77 7 0 0 12) 78 8 0 0 12))) := (ix_eq 127 (ix_rk 127 [.ref 2, .ref 72]) 0 (ix_in 127 [.ref 2, .ref 72]) [] _).trans rfl
set_option maxRecDepth 100000 in
theorem q_River_copyFrom_0_10 (b : Bool) (σ : ix_St) : ix_F 127 [.ref 2, .ref 79] (ix_S0 b, σ) = some (.null, (ix_S0 b, (ix_cp (ix_cp (ix_cp (ix_cp (ix_cp (ix_cp (ix_up (ix_up (ix_up (ix_up (ix_up (ix_up (ix_up (ix_up σ 2 0 (σ 79 0)) 2 1 (σ 79 1)) 2 2 (σ 79 2)) 2 3 (σ 79 3)) 2 4 (σ 79 4)) 2 5 (σ 79 5)) 2 6 (σ 79 6)) 2 7 (σ 79 7)) 80 3 0 0 12) 81 4 0 0 12) 82 5 0 0 12) 83 6 0 0 12) 84 7 0 0 12) 85 8 0 0 12))) := (ix_eq 127 (ix_rk 127 [.ref 2, .ref 79]) 0 (ix_in 127 [.ref 2, .ref 79]) [] _).trans rfl
set_option maxRecDepth 100000 in
theorem q_River_copyFrom_0_11 (b : Bool) (σ : ix_St) : ix_F 127 [.ref 2, .ref 86] (ix_S0 b, σ) = some (.null, (ix_S0 b, (ix_cp (ix_cp (ix_cp (ix_cp (ix_cp (ix_cp (ix_up (ix_up (ix_up (ix_up (ix_up (ix_up (ix_up (ix_up σ 2 0 (σ 86 0)) 2 1 (σ 86 1)) 2 2 (σ 86 2)) 2 3 (σ 86 3)) 2 4 (σ 86 4)) 2 5 (σ 86 5)) 2 6 (σ 86 6)) 2 7 (σ 86 7)) 87 3 0 0 12) 88 4 0 0 12) 89 5 0 0 12) 90 6 0 0 12) 91 7 0 0 12) 92 8 0 0 12))) := (ix_eq 127 (ix_rk 127 [.ref 2, .ref 86]) 0 (ix_in 127 [.ref 2, .ref 86]) [] _).trans rfl
set_option maxRecDepth 100000 in
theorem q_River_copyFrom_0_12 (b : Bool) (σ : ix_St) : ix_F 127 [.ref 2, .ref 93] (ix_S0 b, σ) = some (.null, (ix_S0 b, (ix_cp (ix_cp (ix_cp (ix_cp (ix_cp (ix_cp (ix_up (ix_up (ix_up (ix_up (ix_up (ix_up (ix_up (ix_up σ 2 0 (σ 93 0)) 2 1 (σ 93 1)) 2 2 (σ 93 2)) 2 3 (σ 93 3)) 2 4 (σ 93 4)) 2 5 (σ 93 5)) 2 6 (σ 93 6)) 2 7 (σ 93 7)) 94 3 0 0 12) 95 4 0 0 12) 96 5 0 0 12) 97 6 0 0 12) 98 7 0 0 12) 99 8 0 0 12))) := (ix_eq 127 (ix_rk 127 [.ref 2, .ref 93]) 0 (ix_in 127 [.ref 2, .ref 93]) [] _).trans rfl
set_option maxRecDepth 100000 in
theorem q_River_copyFrom_0_13 (b : Bool) (σ : ix_St) : ix_F 127 [.ref 2, .ref 29] (ix_S0 b, σ) = some (.null, (ix_S0 b, (ix_cp (ix_cp (ix_cp (ix_cp (ix_cp (ix_cp (ix_up (ix_up (ix_up (ix_up (ix_up (ix_up (ix_up (ix_up σ 2 0 (σ 29 0)) 2 1 (σ 29 1)) 2 2 (σ 29 2)) 2 3 (σ 29 3)) 2 4 (σ 29 4)) 2 5 (σ 29 5)) 2 6 (σ 29 6)) 2 7 (σ 29 7)) 30 3 0 0 12) 31 4 0 0 12) 32 5 0 0 12) 33 6 0 0 12) 34 7 0 0 12) 35 8 0 0 12))) := (ix_eq 127 (ix_rk 127 [.ref 2, .ref 29]) 0 (ix_in 127 [.ref 2, .ref 29]) [] _).trans rfl
set_option maxRecDepth 100000 in
theorem q_River_copyFrom_0_14 (b : Bool) (σ : ix_St) : ix_F 127 [.ref 29, .ref 2] (ix_S0 b, σ) = some (.null, (ix_S0 b, (ix_cp (ix_cp (ix_cp (ix_cp (ix_cp (ix_cp (ix_up (ix_up (ix_up (ix_up (ix_up (ix_up (ix_up (ix_up σ 29 0 (σ 2 0)) 29 1 (σ 2 1)) 29 2 (σ 2 2)) 29 3 (σ 2 3)) 29 4 (σ 2 4)) 29 5 (σ 2 5)) 29 6 (σ 2 6)) 29 7 (σ 2 7)) 3 30 0 0 12) 4 31 0 0 12) 5 32 0 0 12) 6 33 0 0 12) 7 34 0 0 12) 8 35 0 0 12))) := (ix_eq 127 (ix_rk 127 [.ref 29, .ref 2]) 0 (ix_in 127 [.ref 29, .ref 2]) [] _).trans rfl
set_option maxRecDepth 100000 in
theorem q_River_sameFirst_0 (b : Bool) (v1 v2 : Int32) (σ : ix_St) : ix_F 130 [.ref 2, .int v1, .int v2] (ix_S0 b, σ) = (if v1 < 0 ∨ 12 ≤ (v1).toNatClampNeg then none else ix_S 130 1 17 [some (.ref 2), none, some (.int v2), some (.int ((σ 3 (v1).toNatClampNeg) / (10000 : Int32))), some (.int (0 : Int32)), some (.int (0 : Int32))] [] (ix_S0 b, σ)) := (ix_eq 130 (ix_rk 130 [.ref 2, .int v1, .int v2]) 0 (ix_in 130 [.ref 2, .int v1, .int v2]) [] _).trans rfl
set_option maxRecDepth 100000 in
theorem q_River_sameFirst_17 (b : Bool) (v2 v3 v4 v5 : Int32) (σ : ix_St) : ix_S 130 1 17 [some (.ref 2), none, some (.int v2), some (.int v3), some (.int v4), some (.int v5)] [] (ix_S0 b, σ) = (if (σ 2 6) ≤ v5 then some (.int v4, (ix_S0 b, σ)) else (if ((v2 >>> (v5 &&& 31)) &&& (1 : Int32)) = (1 : Int32) then (if v5 < 0 ∨ 12 ≤ (v5).toNatClampNeg then none else (if ((σ 3 (v5).toNatClampNeg) / (10000 : Int32)) = v3 then ix_S 130 1 17 [some (.ref 2), none, some (.int v2), some (.int v3), some (.int (v4 + (1 : Int32))), some (.int (v5 + (1 : Int32)))] [] (ix_S0 b, σ) else ix_S 130 1 17 [some (.ref 2), none, some (.int v2), some (.int v3), some (.int v4), some (.int (v5 + (1 : Int32)))] [] (ix_S0 b, σ))) else ix_S 130 1 17 [some (.ref 2), none, some (.int v2), some (.int v3), some (.int v4), some (.int (v5 + (1 : Int32)))] [] (ix_S0 b, σ))) := (ix_eq _ _ _ _ _ _).trans rfl
set_option maxRecDepth 100000 in
theorem q_River_talkerTo_0 (b : Bool) (v1 v2 : Int32) (σ : ix_St) : ix_F 129 [.ref 2, .int v1, .int v2] (ix_S0 b, σ) = (if v1 < 0 ∨ 12 ≤ (v1).toNatClampNeg then none else ((ix_F 38 [.int (σ 3 (v1).toNatClampNeg)] (ix_S0 b, σ)).bind fun x1 => ix_S 129 2 16 [some (.ref 2), none, some (.int v2), some (.int (ix_toI x1.1)), some (.int (-1 : Int32)), some (.int (0 : Int32))] [] (ix_S0 b, x1.2.2))) := (ix_eq 129 (ix_rk 129 [.ref 2, .int v1, .int v2]) 0 (ix_in 129 [.ref 2, .int v1, .int v2]) [] _).trans rfl
set_option maxRecDepth 100000 in
theorem q_River_talkerTo_0_1 (b : Bool) (v1 v2 : Int32) (σ : ix_St) : ix_F 129 [.ref 123, .int v1, .int v2] (ix_S0 b, σ) = (if v1 < 0 ∨ 12 ≤ (v1).toNatClampNeg then none else ((ix_F 38 [.int (σ 124 (v1).toNatClampNeg)] (ix_S0 b, σ)).bind fun x1 => ix_S 129 2 16 [some (.ref 123), none, some (.int v2), some (.int (ix_toI x1.1)), some (.int (-1 : Int32)), some (.int (0 : Int32))] [] (ix_S0 b, x1.2.2))) := (ix_eq 129 (ix_rk 129 [.ref 123, .int v1, .int v2]) 0 (ix_in 129 [.ref 123, .int v1, .int v2]) [] _).trans rfl
set_option maxRecDepth 100000 in
theorem q_River_draw_0 (b : Bool) (v1 : Int32) (σ : ix_St) : ix_F 131 [.ref 2, .int v1] (ix_S0 b, σ) = (if v1 ≤ 0 then some (.int (0 : Int32), (ix_S0 b, (ix_up σ 2 0 (((σ 2 0) * (1664525 : Int32)) + (1013904223 : Int32))))) else (if v1 = 0 then none else some (.int ((Int32.toUInt32 (((σ 2 0) * (1664525 : Int32)) + (1013904223 : Int32)) >>> (Int32.toUInt32 (8 : Int32) &&& Int32.toUInt32 31)).toInt32 - (Int32.toUInt32 (((σ 2 0) * (1664525 : Int32)) + (1013904223 : Int32)) >>> (Int32.toUInt32 (8 : Int32) &&& Int32.toUInt32 31)).toInt32 / v1 * v1), (ix_S0 b, (ix_up σ 2 0 (((σ 2 0) * (1664525 : Int32)) + (1013904223 : Int32))))))) := (ix_eq 131 (ix_rk 131 [.ref 2, .int v1]) 0 (ix_in 131 [.ref 2, .int v1]) [] _).trans rfl
set_option maxRecDepth 100000 in
theorem q_River_talkerTo_16 (b : Bool) (v2 v3 v4 v5 : Int32) (σ : ix_St) : ix_S 129 2 16 [some (.ref 2), none, some (.int v2), some (.int v3), some (.int v4), some (.int v5)] [] (ix_S0 b, σ) = (if (σ 2 6) ≤ v5 then some (.int v4, (ix_S0 b, σ)) else (if ((v2 >>> (v5 &&& 31)) &&& (1 : Int32)) = (1 : Int32) then (if v5 < 0 ∨ 12 ≤ (v5).toNatClampNeg then none else ((ix_F 38 [.int (σ 3 (v5).toNatClampNeg)] (ix_S0 b, σ)).bind fun x1 => (if (ix_toI x1.1) = v3 then ix_S 129 2 16 [some (.ref 2), none, some (.int v2), some (.int v3), some (.int v4), some (.int (v5 + (1 : Int32)))] [] (ix_S0 b, x1.2.2) else (if v4 = (-1 : Int32) then ix_S 129 2 16 [some (.ref 2), none, some (.int v2), some (.int v3), some (.int v5), some (.int (v5 + (1 : Int32)))] [] (ix_S0 b, x1.2.2) else (if v5 < 0 ∨ 12 ≤ (v5).toNatClampNeg then none else (if v4 < 0 ∨ 12 ≤ (v4).toNatClampNeg then none else (if (x1.2.2 5 (v5).toNatClampNeg) ≤ (x1.2.2 5 (v4).toNatClampNeg) then ix_S 129 2 16 [some (.ref 2), none, some (.int v2), some (.int v3), some (.int v4), some (.int (v5 + (1 : Int32)))] [] (ix_S0 b, x1.2.2) else ix_S 129 2 16 [some (.ref 2), none, some (.int v2), some (.int v3), some (.int v5), some (.int (v5 + (1 : Int32)))] [] (ix_S0 b, x1.2.2)))))))) else ix_S 129 2 16 [some (.ref 2), none, some (.int v2), some (.int v3), some (.int v4), some (.int (v5 + (1 : Int32)))] [] (ix_S0 b, σ))) := (ix_eq _ _ _ _ _ _).trans rfl
set_option maxRecDepth 100000 in
theorem q_River_draw_0_1 (b : Bool) (v1 : Int32) (σ : ix_St) : ix_F 131 [.ref 123, .int v1] (ix_S0 b, σ) = (if v1 ≤ 0 then some (.int (0 : Int32), (ix_S0 b, (ix_up σ 123 0 (((σ 123 0) * (1664525 : Int32)) + (1013904223 : Int32))))) else (if v1 = 0 then none else some (.int ((Int32.toUInt32 (((σ 123 0) * (1664525 : Int32)) + (1013904223 : Int32)) >>> (Int32.toUInt32 (8 : Int32) &&& Int32.toUInt32 31)).toInt32 - (Int32.toUInt32 (((σ 123 0) * (1664525 : Int32)) + (1013904223 : Int32)) >>> (Int32.toUInt32 (8 : Int32) &&& Int32.toUInt32 31)).toInt32 / v1 * v1), (ix_S0 b, (ix_up σ 123 0 (((σ 123 0) * (1664525 : Int32)) + (1013904223 : Int32))))))) := (ix_eq 131 (ix_rk 131 [.ref 123, .int v1]) 0 (ix_in 131 [.ref 123, .int v1]) [] _).trans rfl
set_option maxRecDepth 100000 in
theorem q_River_talkerTo_16_1 (b : Bool) (v2 v3 v4 v5 : Int32) (σ : ix_St) : ix_S 129 2 16 [some (.ref 123), none, some (.int v2), some (.int v3), some (.int v4), some (.int v5)] [] (ix_S0 b, σ) = (if (σ 123 6) ≤ v5 then some (.int v4, (ix_S0 b, σ)) else (if ((v2 >>> (v5 &&& 31)) &&& (1 : Int32)) = (1 : Int32) then (if v5 < 0 ∨ 12 ≤ (v5).toNatClampNeg then none else ((ix_F 38 [.int (σ 124 (v5).toNatClampNeg)] (ix_S0 b, σ)).bind fun x1 => (if (ix_toI x1.1) = v3 then ix_S 129 2 16 [some (.ref 123), none, some (.int v2), some (.int v3), some (.int v4), some (.int (v5 + (1 : Int32)))] [] (ix_S0 b, x1.2.2) else (if v4 = (-1 : Int32) then ix_S 129 2 16 [some (.ref 123), none, some (.int v2), some (.int v3), some (.int v5), some (.int (v5 + (1 : Int32)))] [] (ix_S0 b, x1.2.2) else (if v5 < 0 ∨ 12 ≤ (v5).toNatClampNeg then none else (if v4 < 0 ∨ 12 ≤ (v4).toNatClampNeg then none else (if (x1.2.2 126 (v5).toNatClampNeg) ≤ (x1.2.2 126 (v4).toNatClampNeg) then ix_S 129 2 16 [some (.ref 123), none, some (.int v2), some (.int v3), some (.int v4), some (.int (v5 + (1 : Int32)))] [] (ix_S0 b, x1.2.2) else ix_S 129 2 16 [some (.ref 123), none, some (.int v2), some (.int v3), some (.int v5), some (.int (v5 + (1 : Int32)))] [] (ix_S0 b, x1.2.2)))))))) else ix_S 129 2 16 [some (.ref 123), none, some (.int v2), some (.int v3), some (.int v4), some (.int (v5 + (1 : Int32)))] [] (ix_S0 b, σ))) := (ix_eq _ _ _ _ _ _).trans rfl
set_option maxRecDepth 100000 in
theorem q_River_sameFirst_0_1 (b : Bool) (v1 v2 : Int32) (σ : ix_St) : ix_F 130 [.ref 123, .int v1, .int v2] (ix_S0 b, σ) = (if v1 < 0 ∨ 12 ≤ (v1).toNatClampNeg then none else ix_S 130 1 17 [some (.ref 123), none, some (.int v2), some (.int ((σ 124 (v1).toNatClampNeg) / (10000 : Int32))), some (.int (0 : Int32)), some (.int (0 : Int32))] [] (ix_S0 b, σ)) := (ix_eq 130 (ix_rk 130 [.ref 123, .int v1, .int v2]) 0 (ix_in 130 [.ref 123, .int v1, .int v2]) [] _).trans rfl
set_option maxRecDepth 100000 in
theorem q_River_sameFirst_17_1 (b : Bool) (v2 v3 v4 v5 : Int32) (σ : ix_St) : ix_S 130 1 17 [some (.ref 123), none, some (.int v2), some (.int v3), some (.int v4), some (.int v5)] [] (ix_S0 b, σ) = (if (σ 123 6) ≤ v5 then some (.int v4, (ix_S0 b, σ)) else (if ((v2 >>> (v5 &&& 31)) &&& (1 : Int32)) = (1 : Int32) then (if v5 < 0 ∨ 12 ≤ (v5).toNatClampNeg then none else (if ((σ 124 (v5).toNatClampNeg) / (10000 : Int32)) = v3 then ix_S 130 1 17 [some (.ref 123), none, some (.int v2), some (.int v3), some (.int (v4 + (1 : Int32))), some (.int (v5 + (1 : Int32)))] [] (ix_S0 b, σ) else ix_S 130 1 17 [some (.ref 123), none, some (.int v2), some (.int v3), some (.int v4), some (.int (v5 + (1 : Int32)))] [] (ix_S0 b, σ))) else ix_S 130 1 17 [some (.ref 123), none, some (.int v2), some (.int v3), some (.int v4), some (.int (v5 + (1 : Int32)))] [] (ix_S0 b, σ))) := (ix_eq _ _ _ _ _ _).trans rfl
set_option maxRecDepth 100000 in
theorem q_Book_entry_0 (b : Bool) (v1 v2 : Int32) (σ : ix_St) : ix_F 41 [.ref 9, .int v1, .int v2] (ix_S0 b, σ) = (if v1 < 0 then some (.int (-2 : Int32), (ix_S0 b, σ)) else (if (σ 9 1) ≤ v1 then some (.int (-2 : Int32), (ix_S0 b, σ)) else (if v2 < 0 then some (.int (-2 : Int32), (ix_S0 b, σ)) else (if v2 < (4 : Int32) then (if ((v1 * (4 : Int32)) + v2) < 0 ∨ 600 ≤ ((v1 * (4 : Int32)) + v2).toNatClampNeg then none else some (.int (σ 10 ((v1 * (4 : Int32)) + v2).toNatClampNeg), (ix_S0 b, σ))) else some (.int (-2 : Int32), (ix_S0 b, σ)))))) := (ix_eq 41 (ix_rk 41 [.ref 9, .int v1, .int v2]) 0 (ix_in 41 [.ref 9, .int v1, .int v2]) [] _).trans rfl
set_option maxRecDepth 100000 in
theorem q_Book_write_0 (b : Bool) (v1 v2 v3 v4 : Int32) (σ : ix_St) : ix_F 43 [.ref 9, .int v1, .int v2, .int v3, .int v4] (ix_S0 b, σ) = (if (σ 9 1) < (150 : Int32) then (if ((σ 9 1) * (4 : Int32)) < 0 ∨ 600 ≤ ((σ 9 1) * (4 : Int32)).toNatClampNeg then none else (if (((σ 9 1) * (4 : Int32)) + (1 : Int32)) < 0 ∨ 600 ≤ (((σ 9 1) * (4 : Int32)) + (1 : Int32)).toNatClampNeg then none else (if (((σ 9 1) * (4 : Int32)) + (2 : Int32)) < 0 ∨ 600 ≤ (((σ 9 1) * (4 : Int32)) + (2 : Int32)).toNatClampNeg then none else (if (((σ 9 1) * (4 : Int32)) + (3 : Int32)) < 0 ∨ 600 ≤ (((σ 9 1) * (4 : Int32)) + (3 : Int32)).toNatClampNeg then none else some (.null, (ix_S0 b, (ix_up (ix_up (ix_up (ix_up (ix_up σ 10 ((σ 9 1) * (4 : Int32)).toNatClampNeg v1) 10 (((σ 9 1) * (4 : Int32)) + (1 : Int32)).toNatClampNeg v2) 10 (((σ 9 1) * (4 : Int32)) + (2 : Int32)).toNatClampNeg v3) 10 (((σ 9 1) * (4 : Int32)) + (3 : Int32)).toNatClampNeg v4) 9 1 ((σ 9 1) + (1 : Int32))))))))) else some (.null, (ix_S0 b, σ))) := (ix_eq 43 (ix_rk 43 [.ref 9, .int v1, .int v2, .int v3, .int v4]) 0 (ix_in 43 [.ref 9, .int v1, .int v2, .int v3, .int v4]) [] _).trans rfl
set_option maxRecDepth 100000 in
theorem q_Book_copyFrom_0 (b : Bool) (σ : ix_St) : ix_F 44 [.ref 9, .ref 36] (ix_S0 b, σ) = some (.null, (ix_S0 b, (ix_cp (ix_up σ 9 1 (σ 36 1)) 37 10 0 0 600))) := (ix_eq 44 (ix_rk 44 [.ref 9, .ref 36]) 0 (ix_in 44 [.ref 9, .ref 36]) [] _).trans rfl
set_option maxRecDepth 100000 in
theorem q_Book_copyFrom_0_1 (b : Bool) (σ : ix_St) : ix_F 44 [.ref 36, .ref 9] (ix_S0 b, σ) = some (.null, (ix_S0 b, (ix_cp (ix_up σ 36 1 (σ 9 1)) 10 37 0 0 600))) := (ix_eq 44 (ix_rk 44 [.ref 36, .ref 9]) 0 (ix_in 44 [.ref 36, .ref 9]) [] _).trans rfl
set_option maxRecDepth 100000 in
theorem q_Past_forget_0 (b : Bool) (σ : ix_St) : ix_F 83 [.ref 55] (ix_S0 b, σ) = some (.null, (ix_S0 b, (ix_up σ 55 3 (0 : Int32)))) := (ix_eq 83 (ix_rk 83 [.ref 55]) 0 (ix_in 83 [.ref 55]) [] _).trans rfl
set_option maxRecDepth 100000 in
theorem q_Past_keep_0 (b : Bool) (σ : ix_St) : ix_F 84 [.ref 55, .ref 1] (ix_S0 b, σ) = (if (σ 55 2) < 0 ∨ 6 ≤ (σ 55 2).toNatClampNeg then none else (if (σ 55 2).toNatClampNeg = 0 then ((ix_F 127 [.ref 58, .ref 2] (ix_S0 b, σ)).bind fun x1 => (if (x1.2.2 55 2) < 0 ∨ 6 ≤ (x1.2.2 55 2).toNatClampNeg then none else ((ix_F 285 [.int ((x1.2.2 55 3) + (1 : Int32)), .int (6 : Int32)] (ix_S0 b, (ix_up (ix_up x1.2.2 57 (x1.2.2 55 2).toNatClampNeg (x1.2.2 9 1)) 55 2 (((x1.2.2 55 2) + (1 : Int32)) - ((x1.2.2 55 2) + (1 : Int32)) / (6 : Int32) * (6 : Int32))))).bind fun x2 => some (.null, (ix_S0 b, (ix_up x2.2.2 55 3 (ix_toI x2.1))))))) else (if (σ 55 2).toNatClampNeg = 1 then ((ix_F 127 [.ref 65, .ref 2] (ix_S0 b, σ)).bind fun x3 => (if (x3.2.2 55 2) < 0 ∨ 6 ≤ (x3.2.2 55 2).toNatClampNeg then none else ((ix_F 285 [.int ((x3.2.2 55 3) + (1 : Int32)), .int (6 : Int32)] (ix_S0 b, (ix_up (ix_up x3.2.2 57 (x3.2.2 55 2).toNatClampNeg (x3.2.2 9 1)) 55 2 (((x3.2.2 55 2) + (1 : Int32)) - ((x3.2.2 55 2) + (1 : Int32)) / (6 : Int32) * (6 : Int32))))).bind fun x4 => some (.null, (ix_S0 b, (ix_up x4.2.2 55 3 (ix_toI x4.1))))))) else (if (σ 55 2).toNatClampNeg = 2 then ((ix_F 127 [.ref 72, .ref 2] (ix_S0 b, σ)).bind fun x5 => (if (x5.2.2 55 2) < 0 ∨ 6 ≤ (x5.2.2 55 2).toNatClampNeg then none else ((ix_F 285 [.int ((x5.2.2 55 3) + (1 : Int32)), .int (6 : Int32)] (ix_S0 b, (ix_up (ix_up x5.2.2 57 (x5.2.2 55 2).toNatClampNeg (x5.2.2 9 1)) 55 2 (((x5.2.2 55 2) + (1 : Int32)) - ((x5.2.2 55 2) + (1 : Int32)) / (6 : Int32) * (6 : Int32))))).bind fun x6 => some (.null, (ix_S0 b, (ix_up x6.2.2 55 3 (ix_toI x6.1))))))) else (if (σ 55 2).toNatClampNeg = 3 then ((ix_F 127 [.ref 79, .ref 2] (ix_S0 b, σ)).bind fun x7 => (if (x7.2.2 55 2) < 0 ∨ 6 ≤ (x7.2.2 55 2).toNatClampNeg then none else ((ix_F 285 [.int ((x7.2.2 55 3) + (1 : Int32)), .int (6 : Int32)] (ix_S0 b, (ix_up (ix_up x7.2.2 57 (x7.2.2 55 2).toNatClampNeg (x7.2.2 9 1)) 55 2 (((x7.2.2 55 2) + (1 : Int32)) - ((x7.2.2 55 2) + (1 : Int32)) / (6 : Int32) * (6 : Int32))))).bind fun x8 => some (.null, (ix_S0 b, (ix_up x8.2.2 55 3 (ix_toI x8.1))))))) else (if (σ 55 2).toNatClampNeg = 4 then ((ix_F 127 [.ref 86, .ref 2] (ix_S0 b, σ)).bind fun x9 => (if (x9.2.2 55 2) < 0 ∨ 6 ≤ (x9.2.2 55 2).toNatClampNeg then none else ((ix_F 285 [.int ((x9.2.2 55 3) + (1 : Int32)), .int (6 : Int32)] (ix_S0 b, (ix_up (ix_up x9.2.2 57 (x9.2.2 55 2).toNatClampNeg (x9.2.2 9 1)) 55 2 (((x9.2.2 55 2) + (1 : Int32)) - ((x9.2.2 55 2) + (1 : Int32)) / (6 : Int32) * (6 : Int32))))).bind fun x10 => some (.null, (ix_S0 b, (ix_up x10.2.2 55 3 (ix_toI x10.1))))))) else (if (σ 55 2).toNatClampNeg = 5 then ((ix_F 127 [.ref 93, .ref 2] (ix_S0 b, σ)).bind fun x11 => (if (x11.2.2 55 2) < 0 ∨ 6 ≤ (x11.2.2 55 2).toNatClampNeg then none else ((ix_F 285 [.int ((x11.2.2 55 3) + (1 : Int32)), .int (6 : Int32)] (ix_S0 b, (ix_up (ix_up x11.2.2 57 (x11.2.2 55 2).toNatClampNeg (x11.2.2 9 1)) 55 2 (((x11.2.2 55 2) + (1 : Int32)) - ((x11.2.2 55 2) + (1 : Int32)) / (6 : Int32) * (6 : Int32))))).bind fun x12 => some (.null, (ix_S0 b, (ix_up x12.2.2 55 3 (ix_toI x12.1))))))) else none))))))) := (ix_eq 84 (ix_rk 84 [.ref 55, .ref 1]) 0 (ix_in 84 [.ref 55, .ref 1]) [] _).trans rfl
set_option maxRecDepth 100000 in
theorem q_Past_goBack_0 (b : Bool) (σ : ix_St) : ix_F 85 [.ref 55, .ref 1] (ix_S0 b, σ) = (if (σ 55 3) = 0 then some (.int (0 : Int32), (ix_S0 b, σ)) else (if ((((σ 55 2) + (6 : Int32)) - (1 : Int32)) - (((σ 55 2) + (6 : Int32)) - (1 : Int32)) / (6 : Int32) * (6 : Int32)) < 0 ∨ 6 ≤ ((((σ 55 2) + (6 : Int32)) - (1 : Int32)) - (((σ 55 2) + (6 : Int32)) - (1 : Int32)) / (6 : Int32) * (6 : Int32)).toNatClampNeg then none else (if ((((σ 55 2) + (6 : Int32)) - (1 : Int32)) - (((σ 55 2) + (6 : Int32)) - (1 : Int32)) / (6 : Int32) * (6 : Int32)).toNatClampNeg = 0 then ((ix_F 127 [.ref 2, .ref 58] (ix_S0 b, (ix_up (ix_up σ 55 2 ((((σ 55 2) + (6 : Int32)) - (1 : Int32)) - (((σ 55 2) + (6 : Int32)) - (1 : Int32)) / (6 : Int32) * (6 : Int32))) 55 3 ((σ 55 3) - (1 : Int32))))).bind fun x1 => (if (x1.2.2 55 2) < 0 ∨ 6 ≤ (x1.2.2 55 2).toNatClampNeg then none else some (.int (1 : Int32), (ix_S0 b, (ix_up x1.2.2 9 1 (x1.2.2 57 (x1.2.2 55 2).toNatClampNeg)))))) else (if ((((σ 55 2) + (6 : Int32)) - (1 : Int32)) - (((σ 55 2) + (6 : Int32)) - (1 : Int32)) / (6 : Int32) * (6 : Int32)).toNatClampNeg = 1 then ((ix_F 127 [.ref 2, .ref 65] (ix_S0 b, (ix_up (ix_up σ 55 2 ((((σ 55 2) + (6 : Int32)) - (1 : Int32)) - (((σ 55 2) + (6 : Int32)) - (1 : Int32)) / (6 : Int32) * (6 : Int32))) 55 3 ((σ 55 3) - (1 : Int32))))).bind fun x2 => (if (x2.2.2 55 2) < 0 ∨ 6 ≤ (x2.2.2 55 2).toNatClampNeg then none else some (.int (1 : Int32), (ix_S0 b, (ix_up x2.2.2 9 1 (x2.2.2 57 (x2.2.2 55 2).toNatClampNeg)))))) else (if ((((σ 55 2) + (6 : Int32)) - (1 : Int32)) - (((σ 55 2) + (6 : Int32)) - (1 : Int32)) / (6 : Int32) * (6 : Int32)).toNatClampNeg = 2 then ((ix_F 127 [.ref 2, .ref 72] (ix_S0 b, (ix_up (ix_up σ 55 2 ((((σ 55 2) + (6 : Int32)) - (1 : Int32)) - (((σ 55 2) + (6 : Int32)) - (1 : Int32)) / (6 : Int32) * (6 : Int32))) 55 3 ((σ 55 3) - (1 : Int32))))).bind fun x3 => (if (x3.2.2 55 2) < 0 ∨ 6 ≤ (x3.2.2 55 2).toNatClampNeg then none else some (.int (1 : Int32), (ix_S0 b, (ix_up x3.2.2 9 1 (x3.2.2 57 (x3.2.2 55 2).toNatClampNeg)))))) else (if ((((σ 55 2) + (6 : Int32)) - (1 : Int32)) - (((σ 55 2) + (6 : Int32)) - (1 : Int32)) / (6 : Int32) * (6 : Int32)).toNatClampNeg = 3 then ((ix_F 127 [.ref 2, .ref 79] (ix_S0 b, (ix_up (ix_up σ 55 2 ((((σ 55 2) + (6 : Int32)) - (1 : Int32)) - (((σ 55 2) + (6 : Int32)) - (1 : Int32)) / (6 : Int32) * (6 : Int32))) 55 3 ((σ 55 3) - (1 : Int32))))).bind fun x4 => (if (x4.2.2 55 2) < 0 ∨ 6 ≤ (x4.2.2 55 2).toNatClampNeg then none else some (.int (1 : Int32), (ix_S0 b, (ix_up x4.2.2 9 1 (x4.2.2 57 (x4.2.2 55 2).toNatClampNeg)))))) else (if ((((σ 55 2) + (6 : Int32)) - (1 : Int32)) - (((σ 55 2) + (6 : Int32)) - (1 : Int32)) / (6 : Int32) * (6 : Int32)).toNatClampNeg = 4 then ((ix_F 127 [.ref 2, .ref 86] (ix_S0 b, (ix_up (ix_up σ 55 2 ((((σ 55 2) + (6 : Int32)) - (1 : Int32)) - (((σ 55 2) + (6 : Int32)) - (1 : Int32)) / (6 : Int32) * (6 : Int32))) 55 3 ((σ 55 3) - (1 : Int32))))).bind fun x5 => (if (x5.2.2 55 2) < 0 ∨ 6 ≤ (x5.2.2 55 2).toNatClampNeg then none else some (.int (1 : Int32), (ix_S0 b, (ix_up x5.2.2 9 1 (x5.2.2 57 (x5.2.2 55 2).toNatClampNeg)))))) else (if ((((σ 55 2) + (6 : Int32)) - (1 : Int32)) - (((σ 55 2) + (6 : Int32)) - (1 : Int32)) / (6 : Int32) * (6 : Int32)).toNatClampNeg = 5 then ((ix_F 127 [.ref 2, .ref 93] (ix_S0 b, (ix_up (ix_up σ 55 2 ((((σ 55 2) + (6 : Int32)) - (1 : Int32)) - (((σ 55 2) + (6 : Int32)) - (1 : Int32)) / (6 : Int32) * (6 : Int32))) 55 3 ((σ 55 3) - (1 : Int32))))).bind fun x6 => (if (x6.2.2 55 2) < 0 ∨ 6 ≤ (x6.2.2 55 2).toNatClampNeg then none else some (.int (1 : Int32), (ix_S0 b, (ix_up x6.2.2 9 1 (x6.2.2 57 (x6.2.2 55 2).toNatClampNeg)))))) else none)))))))) := (ix_eq 85 (ix_rk 85 [.ref 55, .ref 1]) 0 (ix_in 85 [.ref 55, .ref 1]) [] _).trans rfl
set_option maxRecDepth 100000 in
theorem q_World_leaveOver_0 (b : Bool) (v1 : Int32) (σ : ix_St) : ix_F 151 [.ref 1, .int v1] (ix_S0 b, σ) = ix_S 151 2 2 [some (.ref 1), some (.int v1), some (.int (0 : Int32))] [] (ix_S0 b, σ) := (ix_eq 151 (ix_rk 151 [.ref 1, .int v1]) 0 (ix_in 151 [.ref 1, .int v1]) [] _).trans rfl
set_option maxRecDepth 100000 in
theorem q_World_see_0 (b : Bool) (v1 : Int32) (σ : ix_St) : ix_F 152 [.ref 1, .int v1] (ix_S0 b, σ) = (if v1 = (-1 : Int32) then some (.int (0 : Int32), (ix_S0 b, (ix_up σ 1 5 (0 : Int32)))) else (if v1 < 0 then some (.int (-1 : Int32), (ix_S0 b, σ)) else (if (6 : Int32) ≤ v1 then some (.int (-1 : Int32), (ix_S0 b, σ)) else (if (σ 1 5) < (20 : Int32) then (if (σ 1 5) < 0 ∨ 20 ≤ (σ 1 5).toNatClampNeg then none else some (.int ((σ 1 5) + (1 : Int32)), (ix_S0 b, (ix_up (ix_up σ 27 (σ 1 5).toNatClampNeg v1) 1 5 ((σ 1 5) + (1 : Int32)))))) else some (.int (-1 : Int32), (ix_S0 b, σ)))))) := (ix_eq 152 (ix_rk 152 [.ref 1, .int v1]) 0 (ix_in 152 [.ref 1, .int v1]) [] _).trans rfl
set_option maxRecDepth 100000 in
theorem q_World_beginnings_0 (b : Bool) (v1 : Int32) (σ : ix_St) : ix_F 153 [.ref 1, .int v1] (ix_S0 b, σ) = ix_S 153 3 7 [some (.ref 1), some (.int v1), some (.int (0 : Int32)), some (.int (-1 : Int32)), some (.int (0 : Int32)), none] [] (ix_S0 b, σ) := (ix_eq 153 (ix_rk 153 [.ref 1, .int v1]) 0 (ix_in 153 [.ref 1, .int v1]) [] _).trans rfl
set_option maxRecDepth 100000 in
theorem q_World_copyFrom_0 (b : Bool) (σ : ix_St) : ix_F 154 [.ref 1, .ref 28] (ix_S0 b, σ) = ((ix_F 127 [.ref 2, .ref 29] (ix_S0 b, σ)).bind fun x1 => ((ix_F 44 [.ref 9, .ref 36] (ix_S0 b, x1.2.2)).bind fun x2 => ix_S 154 3 24 [some (.ref 1), some (.ref 28), some (.int (0 : Int32))] [] (ix_S0 b, x2.2.2))) := (ix_eq 154 (ix_rk 154 [.ref 1, .ref 28]) 0 (ix_in 154 [.ref 1, .ref 28]) [] _).trans rfl
set_option maxRecDepth 100000 in
theorem q_World_copyFrom_0_1 (b : Bool) (σ : ix_St) : ix_F 154 [.ref 28, .ref 1] (ix_S0 b, σ) = ((ix_F 127 [.ref 29, .ref 2] (ix_S0 b, σ)).bind fun x1 => ((ix_F 44 [.ref 36, .ref 9] (ix_S0 b, x1.2.2)).bind fun x2 => ix_S 154 3 24 [some (.ref 28), some (.ref 1), some (.int (0 : Int32))] [] (ix_S0 b, x2.2.2))) := (ix_eq 154 (ix_rk 154 [.ref 28, .ref 1]) 0 (ix_in 154 [.ref 28, .ref 1]) [] _).trans rfl
set_option maxRecDepth 100000 in
theorem q_World_leaveOver_2 (b : Bool) (v1 v2 : Int32) (σ : ix_St) : ix_S 151 2 2 [some (.ref 1), some (.int v1), some (.int v2)] [] (ix_S0 b, σ) = (if (σ 2 6) ≤ v2 then some (.null, (ix_S0 b, σ)) else (if ((v1 >>> (v2 &&& 31)) &&& (1 : Int32)) = (1 : Int32) then ((ix_F 121 [.ref 2, .int v2] (ix_S0 b, σ)).bind fun x1 => (if (ix_toI x1.1) = 0 then ((ix_F 43 [.ref 9, .int (x1.2.2 2 5), .int (4 : Int32), .int v2, .int (0 : Int32)] (ix_S0 b, (ix_up x1.2.2 2 7 ((x1.2.2 2 7) ||| ((1 : Int32) <<< (v2 &&& 31)))))).bind fun x2 => ix_S 151 2 2 [some (.ref 1), some (.int v1), some (.int (v2 + (1 : Int32)))] [] (ix_S0 b, x2.2.2)) else ix_S 151 2 2 [some (.ref 1), some (.int v1), some (.int (v2 + (1 : Int32)))] [] (ix_S0 b, x1.2.2))) else ix_S 151 2 2 [some (.ref 1), some (.int v1), some (.int (v2 + (1 : Int32)))] [] (ix_S0 b, σ))) := (ix_eq _ _ _ _ _ _).trans rfl
set_option maxRecDepth 100000 in
theorem q_World_beginnings_7 (b : Bool) (v1 v2 v3 v4 : Int32) (σ : ix_St) : ix_S 153 3 7 [some (.ref 1), some (.int v1), some (.int v2), some (.int v3), some (.int v4), none] [] (ix_S0 b, σ) = (if (6 : Int32) ≤ v4 then (if v1 = 0 then some (.int v2, (ix_S0 b, σ)) else some (.int v3, (ix_S0 b, σ))) else ix_S 153 3 17 [some (.ref 1), some (.int v1), some (.int v2), some (.int v3), some (.int v4), some (.int (0 : Int32))] [] (ix_S0 b, σ)) := (ix_eq _ _ _ _ _ _).trans rfl
set_option maxRecDepth 100000 in
theorem q_World_copyFrom_24 (b : Bool) (v2 : Int32) (σ : ix_St) : ix_S 154 3 24 [some (.ref 1), some (.ref 28), some (.int v2)] [] (ix_S0 b, σ) = (if (3 : Int32) < v2 then some (.null, (ix_S0 b, (ix_up (ix_cp (ix_cp σ 53 26 0 0 12) 54 27 0 0 20) 1 5 (σ 28 5)))) else ((ix_F 144 [.ref 11, .int v2, .ref 38] (ix_S0 b, σ)).bind fun x1 => ix_S 154 3 24 [some (.ref 1), some (.ref 28), some (.int (v2 + (1 : Int32)))] [] (ix_S0 b, x1.2.2))) := (ix_eq _ _ _ _ _ _).trans rfl
set_option maxRecDepth 100000 in
theorem q_World_copyFrom_24_1 (b : Bool) (v2 : Int32) (σ : ix_St) : ix_S 154 3 24 [some (.ref 28), some (.ref 1), some (.int v2)] [] (ix_S0 b, σ) = (if (3 : Int32) < v2 then some (.null, (ix_S0 b, (ix_up (ix_cp (ix_cp σ 26 53 0 0 12) 27 54 0 0 20) 28 5 (σ 1 5)))) else ((ix_F 144 [.ref 38, .int v2, .ref 11] (ix_S0 b, σ)).bind fun x1 => ix_S 154 3 24 [some (.ref 28), some (.ref 1), some (.int (v2 + (1 : Int32)))] [] (ix_S0 b, x1.2.2))) := (ix_eq _ _ _ _ _ _).trans rfl
set_option maxRecDepth 100000 in
theorem q_World_beginnings_17 (b : Bool) (v1 v2 v3 v4 v5 : Int32) (σ : ix_St) : ix_S 153 3 17 [some (.ref 1), some (.int v1), some (.int v2), some (.int v3), some (.int v4), some (.int v5)] [] (ix_S0 b, σ) = (if (98 : Int32) < v5 then ix_S 153 3 7 [some (.ref 1), some (.int v1), some (.int v2), some (.int v3), some (.int (v4 + (1 : Int32))), none] [] (ix_S0 b, σ) else ((ix_F 155 [.ref 1, .int v4, .int v5] (ix_S0 b, σ)).bind fun x1 => (if (ix_toI x1.1) = 0 then ix_S 153 3 17 [some (.ref 1), some (.int v1), some (.int v2), some (.int v3), some (.int v4), some (.int (v5 + (1 : Int32)))] [] (ix_S0 b, x1.2.2) else (if v3 = (-1 : Int32) then ix_S 153 3 17 [some (.ref 1), some (.int v1), some (.int (v2 + (1 : Int32))), some (.int (((100 : Int32) * v4) + v5)), some (.int v4), some (.int (v5 + (1 : Int32)))] [] (ix_S0 b, x1.2.2) else ix_S 153 3 17 [some (.ref 1), some (.int v1), some (.int (v2 + (1 : Int32))), some (.int v3), some (.int v4), some (.int (v5 + (1 : Int32)))] [] (ix_S0 b, x1.2.2))))) := (ix_eq _ _ _ _ _ _).trans rfl
set_option maxRecDepth 100000 in
theorem q_World_couldBegin_0 (b : Bool) (v1 v2 : Int32) (σ : ix_St) : ix_F 155 [.ref 1, .int v1, .int v2] (ix_S0 b, σ) = ix_S 155 2 8 [some (.ref 1), none, none, some (.int v1), some (.int v2), some (.int (0 : Int32))] [] (ix_S0 b, σ) := (ix_eq 155 (ix_rk 155 [.ref 1, .int v1, .int v2]) 0 (ix_in 155 [.ref 1, .int v1, .int v2]) [] _).trans rfl
set_option maxRecDepth 100000 in
theorem q_World_couldBegin_8 (b : Bool) (v3 v4 v5 : Int32) (σ : ix_St) : ix_S 155 2 8 [some (.ref 1), none, none, some (.int v3), some (.int v4), some (.int v5)] [] (ix_S0 b, σ) = (if (σ 1 5) ≤ v5 then some (.int (1 : Int32), (ix_S0 b, σ)) else (if v5 ≤ 0 then (if v5 < 0 ∨ 20 ≤ (v5).toNatClampNeg then none else (if v3 = (σ 27 (v5).toNatClampNeg) then ix_S 155 2 8 [some (.ref 1), none, none, some (.int v3), some (.int v4), some (.int (v5 + (1 : Int32)))] [] (ix_S0 b, σ) else some (.int (0 : Int32), (ix_S0 b, σ)))) else ((ix_F 147 [.ref 11, .int v3, .int (v4 + (1 : Int32))] (ix_S0 b, σ)).bind fun x1 => (if (ix_toI x1.1) = 0 then (if v5 < 0 ∨ 20 ≤ (v5).toNatClampNeg then none else (if v3 = (x1.2.2 27 (v5).toNatClampNeg) then ix_S 155 2 8 [some (.ref 1), none, none, some (.int v3), some (.int (v4 + (1 : Int32))), some (.int (v5 + (1 : Int32)))] [] (ix_S0 b, x1.2.2) else some (.int (0 : Int32), (ix_S0 b, x1.2.2)))) else (if v3 < 0 ∨ 6 ≤ (v3).toNatClampNeg then none else (if v5 < 0 ∨ 20 ≤ (v5).toNatClampNeg then none else (if (x1.2.2 24 (v3).toNatClampNeg) = (x1.2.2 27 (v5).toNatClampNeg) then ix_S 155 2 8 [some (.ref 1), none, none, some (.int (x1.2.2 24 (v3).toNatClampNeg)), some (.int (0 : Int32)), some (.int (v5 + (1 : Int32)))] [] (ix_S0 b, x1.2.2) else some (.int (0 : Int32), (ix_S0 b, x1.2.2))))))))) := (ix_eq _ _ _ _ _ _).trans rfl
set_option maxRecDepth 100000 in
theorem q_Texts_take_0 (b : Bool) (v1 : Int32) (σ : ix_St) : ix_F 144 [.ref 11, .int v1, .ref 106] (ix_S0 b, σ) = (if v1 < 0 ∨ 4 ≤ (v1).toNatClampNeg then none else (if v1 < 0 ∨ 4 ≤ (v1).toNatClampNeg then none else (if v1 = 0 then ((ix_F 53 [.ref 12, .ref 107] (ix_S0 b, (ix_up σ 25 (v1).toNatClampNeg (σ 120 (v1).toNatClampNeg)))).bind fun x1 => some (.null, (ix_S0 b, x1.2.2))) else (if v1 = (1 : Int32) then some (.null, (ix_S0 b, (ix_cp (ix_up σ 25 (v1).toNatClampNeg (σ 120 (v1).toNatClampNeg)) 115 20 0 0 12))) else (if v1 = (2 : Int32) then some (.null, (ix_S0 b, (ix_cp (ix_cp (ix_up σ 25 (v1).toNatClampNeg (σ 120 (v1).toNatClampNeg)) 116 21 0 0 16) 117 22 0 0 16))) else some (.null, (ix_S0 b, (ix_cp (ix_cp (ix_up σ 25 (v1).toNatClampNeg (σ 120 (v1).toNatClampNeg)) 118 23 0 0 6) 119 24 0 0 6)))))))) := (ix_eq 144 (ix_rk 144 [.ref 11, .int v1, .ref 106]) 0 (ix_in 144 [.ref 11, .int v1, .ref 106]) [] _).trans rfl
set_option maxRecDepth 100000 in
theorem q_Texts_reachedBy_0 (b : Bool) (v1 : Int32) (σ : ix_St) : ix_F 145 [.ref 11, .int v1] (ix_S0 b, σ) = ((ix_F 149 [.ref 11, .int ((1 : Int32) <<< (v1 &&& 31))] (ix_S0 b, σ)).bind fun x1 => ix_S 145 2 10 [some (.ref 11), none, some (.int (ix_toI x1.1)), some (.int (0 : Int32))] [] (ix_S0 b, x1.2.2)) := (ix_eq 145 (ix_rk 145 [.ref 11, .int v1]) 0 (ix_in 145 [.ref 11, .int v1]) [] _).trans rfl
set_option maxRecDepth 100000 in
theorem q_Texts_turnsAt_0 (b : Bool) (v1 v2 : Int32) (σ : ix_St) : ix_F 147 [.ref 11, .int v1, .int v2] (ix_S0 b, σ) = (if v1 < 0 ∨ 6 ≤ (v1).toNatClampNeg then none else (if (σ 23 (v1).toNatClampNeg) ≤ 0 then some (.int (0 : Int32), (ix_S0 b, σ)) else (if v1 < 0 ∨ 6 ≤ (v1).toNatClampNeg then none else (if v2 < (σ 23 (v1).toNatClampNeg) then some (.int (0 : Int32), (ix_S0 b, σ)) else some (.int (1 : Int32), (ix_S0 b, σ)))))) := (ix_eq 147 (ix_rk 147 [.ref 11, .int v1, .int v2]) 0 (ix_in 147 [.ref 11, .int v1, .int v2]) [] _).trans rfl
set_option maxRecDepth 100000 in
theorem q_Texts_clear_0 (b : Bool) (v1 : Int32) (σ : ix_St) : ix_F 148 [.ref 106, .int v1] (ix_S0 b, σ) = (if v1 < 0 ∨ 4 ≤ (v1).toNatClampNeg then none else (if v1 = 0 then ((ix_F 56 [.ref 107] (ix_S0 b, (ix_up σ 120 (v1).toNatClampNeg (0 : Int32)))).bind fun x1 => some (.null, (ix_S0 b, x1.2.2))) else (if v1 = (1 : Int32) then ((ix_F 284 [.ref 115, .int (0 : Int32)] (ix_S0 b, (ix_up σ 120 (v1).toNatClampNeg (0 : Int32)))).bind fun x2 => some (.null, (ix_S0 b, x2.2.2))) else (if v1 = (3 : Int32) then ((ix_F 284 [.ref 118, .int (0 : Int32)] (ix_S0 b, (ix_up σ 120 (v1).toNatClampNeg (0 : Int32)))).bind fun x3 => some (.null, (ix_S0 b, x3.2.2))) else some (.null, (ix_S0 b, (ix_up σ 120 (v1).toNatClampNeg (0 : Int32)))))))) := (ix_eq 148 (ix_rk 148 [.ref 106, .int v1]) 0 (ix_in 148 [.ref 106, .int v1]) [] _).trans rfl
set_option maxRecDepth 100000 in
theorem q_Texts_hearersOf_0 (b : Bool) (v1 : Int32) (σ : ix_St) : ix_F 149 [.ref 11, .int v1] (ix_S0 b, σ) = ix_S 149 1 4 [some (.ref 11), some (.int v1), some (.int (0 : Int32)), some (.int (0 : Int32))] [] (ix_S0 b, σ) := (ix_eq 149 (ix_rk 149 [.ref 11, .int v1]) 0 (ix_in 149 [.ref 11, .int v1]) [] _).trans rfl
set_option maxRecDepth 100000 in
theorem q_Texts_reachedBy_10 (b : Bool) (v2 v3 : Int32) (σ : ix_St) : ix_S 145 2 10 [some (.ref 11), none, some (.int v2), some (.int v3)] [] (ix_S0 b, σ) = (if (12 : Int32) ≤ v3 then some (.int v2, (ix_S0 b, σ)) else ((ix_F 149 [.ref 11, .int v2] (ix_S0 b, σ)).bind fun x1 => ix_S 145 2 10 [some (.ref 11), none, some (.int (v2 ||| (ix_toI x1.1))), some (.int (v3 + (1 : Int32)))] [] (ix_S0 b, x1.2.2))) := (ix_eq _ _ _ _ _ _).trans rfl
set_option maxRecDepth 100000 in
theorem q_Texts_hearersOf_4 (b : Bool) (v1 v2 v3 : Int32) (σ : ix_St) : ix_S 149 1 4 [some (.ref 11), some (.int v1), some (.int v2), some (.int v3)] [] (ix_S0 b, σ) = (if (12 : Int32) ≤ v3 then some (.int v2, (ix_S0 b, σ)) else (if v3 < 0 ∨ 12 ≤ (v3).toNatClampNeg then none else (if ((σ 20 (v3).toNatClampNeg) &&& v1) = 0 then ix_S 149 1 4 [some (.ref 11), some (.int v1), some (.int v2), some (.int (v3 + (1 : Int32)))] [] (ix_S0 b, σ) else ix_S 149 1 4 [some (.ref 11), some (.int v1), some (.int (v2 ||| ((1 : Int32) <<< (v3 &&& 31)))), some (.int (v3 + (1 : Int32)))] [] (ix_S0 b, σ)))) := (ix_eq _ _ _ _ _ _).trans rfl
set_option maxRecDepth 100000 in
theorem q_Texts_take_0_1 (b : Bool) (v1 : Int32) (σ : ix_St) : ix_F 144 [.ref 11, .int v1, .ref 38] (ix_S0 b, σ) = (if v1 < 0 ∨ 4 ≤ (v1).toNatClampNeg then none else (if v1 < 0 ∨ 4 ≤ (v1).toNatClampNeg then none else (if v1 = 0 then ((ix_F 53 [.ref 12, .ref 39] (ix_S0 b, (ix_up σ 25 (v1).toNatClampNeg (σ 52 (v1).toNatClampNeg)))).bind fun x1 => some (.null, (ix_S0 b, x1.2.2))) else (if v1 = (1 : Int32) then some (.null, (ix_S0 b, (ix_cp (ix_up σ 25 (v1).toNatClampNeg (σ 52 (v1).toNatClampNeg)) 47 20 0 0 12))) else (if v1 = (2 : Int32) then some (.null, (ix_S0 b, (ix_cp (ix_cp (ix_up σ 25 (v1).toNatClampNeg (σ 52 (v1).toNatClampNeg)) 48 21 0 0 16) 49 22 0 0 16))) else some (.null, (ix_S0 b, (ix_cp (ix_cp (ix_up σ 25 (v1).toNatClampNeg (σ 52 (v1).toNatClampNeg)) 50 23 0 0 6) 51 24 0 0 6)))))))) := (ix_eq 144 (ix_rk 144 [.ref 11, .int v1, .ref 38]) 0 (ix_in 144 [.ref 11, .int v1, .ref 38]) [] _).trans rfl
set_option maxRecDepth 100000 in
theorem q_Texts_take_0_2 (b : Bool) (v1 : Int32) (σ : ix_St) : ix_F 144 [.ref 38, .int v1, .ref 11] (ix_S0 b, σ) = (if v1 < 0 ∨ 4 ≤ (v1).toNatClampNeg then none else (if v1 < 0 ∨ 4 ≤ (v1).toNatClampNeg then none else (if v1 = 0 then ((ix_F 53 [.ref 39, .ref 12] (ix_S0 b, (ix_up σ 52 (v1).toNatClampNeg (σ 25 (v1).toNatClampNeg)))).bind fun x1 => some (.null, (ix_S0 b, x1.2.2))) else (if v1 = (1 : Int32) then some (.null, (ix_S0 b, (ix_cp (ix_up σ 52 (v1).toNatClampNeg (σ 25 (v1).toNatClampNeg)) 20 47 0 0 12))) else (if v1 = (2 : Int32) then some (.null, (ix_S0 b, (ix_cp (ix_cp (ix_up σ 52 (v1).toNatClampNeg (σ 25 (v1).toNatClampNeg)) 21 48 0 0 16) 22 49 0 0 16))) else some (.null, (ix_S0 b, (ix_cp (ix_cp (ix_up σ 52 (v1).toNatClampNeg (σ 25 (v1).toNatClampNeg)) 23 50 0 0 6) 24 51 0 0 6)))))))) := (ix_eq 144 (ix_rk 144 [.ref 38, .int v1, .ref 11]) 0 (ix_in 144 [.ref 38, .int v1, .ref 11]) [] _).trans rfl
end
section
/-! what a method can reach it may write, no other: G says which cells are within its reach -/
def ix_ncs : List Bool := [false, false, true, true, true, true, true, true, true, true, true, true, true, true, true, true, true, true, true, true, true, true, true, true, true, true, true, true, true, true, true, true, true, true, true, true, true, true, true, true, true, true, false, true, true, false, true, true, true, true, true, true, true, true, true, false, true, true, true, true, true, true, true, true, false, true, true, true, true, true, true, true, true, true, true, true, true, true, true, true, true, true, false, true, true, true, false, true, true, true, true, true, true, true, true, true, true, true, true, true, true, true, true, true, true, true, true, true, true, true, true, true, true, true, true, true, true, true, true, true, true, true, true, true, true, true, false, true, true, true, true, true, false, true, true, true, true, true, true, true, true, true, true, true, true, true, false, true, true, true, false, true, true, true, true, true, false, true, true, true, true, true, true, true, true, true, true, true, true, true, true, true, true, true, true, true, true, true, true, true, true, true, true, true, true, true, true, true, true, true, true, true, true, true, true, true, true, true, true, true, true, true, true, true, true, true, true, true, true, true, true, true, true, true, true, true, true, true, true, true, true, true, true, true, true, true, true, true, true, true, true, true, true, true, true, true, true, true, true, true, true, true, true, true, true, true, true, true, true, true, true, true, true, true, true, true, true, true, true, true, true, true, true, true, true, true, true, true, true, true, true, true, true, true, true, true, true, true, true, true, true, true, true, true, true, true, true, true, true, true, true, true, true, true, true, true, true, true, true]
def ix_nc (a : Nat) : Bool := match ix_n ix_ncs a with
  | some k => k
  | none => false
def ix_kf (e : ix_E) : Bool := match e with
  | (_, ins, _, _, a, b, c, _, _) => match ins with
    | .new _ => false
    | .newarray _ => false
    | .anewarray _ => false
    | .aastore => false
    | .invokestatic _ => Nat.beq c 2 || ix_nc a
    | .invokevirtual _ => ix_nc a
    | .invokespecial _ => Nat.beq c 2
    | .ldc _ => Nat.beq b 0 || Nat.ble 1000 a
    | .getstatic _ => Nat.beq b 0 || Nat.ble 1000 a
    | _ => true
theorem ix_kf_all : (List.range 299).all (fun mi => !ix_nc mi || (ix_tab mi).all ix_kf) = true := by decide +kernel
section Fm
variable (G : Nat → Bool)
def ix_vr (v : Value) : Prop := ∀ a, v = .ref a → G a = true
def ix_lr (ls : ix_L) : Prop := ∀ v, some v ∈ ls → ix_vr G v
def ix_sr (st : List Value) : Prop := ∀ v ∈ st, ix_vr G v
def ix_jr (S : List ix_Sh) : Prop := ∀ r sh, ix_n S r = some sh → G r = true → ∀ a, some (some a) ∈ sh.2.2 → G a = true
def ix_fq (σ0 : ix_St) (h : ix_H) : Prop := ix_jr G h.1 ∧ h.1.length ≤ 900 ∧ ∀ c, G c = false ∨ 900 ≤ c → h.2 c = σ0 c
def ix_Y (σ0 : ix_St) (F : ix_CL → ix_NX → ix_JP → ix_R) : Prop :=
  (∃ x, (∀ y, x = some y → ix_fq G σ0 y.2 ∧ ix_vr G y.1) ∧ ∀ cl nx jp, F cl nx jp = x) ∨ (∃ ls st h, (ix_lr G ls ∧ ix_sr G st ∧ ix_fq G σ0 h) ∧ ∀ cl nx jp, F cl nx jp = nx ls st h) ∨ (∃ t ls st h, (ix_lr G ls ∧ ix_sr G st ∧ ix_fq G σ0 h) ∧ ∀ cl nx jp, F cl nx jp = jp t ls st h) ∨
  ∃ (a : Nat) (as : List Value) (h : ix_H) (ls : ix_L) (f : Value × ix_H → List Value), (ix_nc a = true ∧ ix_sr G as ∧ ix_fq G σ0 h ∧ ix_lr G ls ∧ ∀ x, ix_vr G x.1 → ix_sr G (f x)) ∧ ∀ cl nx jp, F cl nx jp = (cl a as h).bind (fun x => nx ls (f x) x.2)
variable {G} {σ0 : ix_St}
theorem ix_vr_int (x : Int32) : ix_vr G (.int x) := fun a h => by cases h
theorem ix_vr_nul : ix_vr G .null := fun a h => by cases h
theorem ix_vr_ref {a : Nat} (h : G a = true) : ix_vr G (.ref a) := fun b e => by cases e; exact h
theorem ix_sr_c {v : Value} {st : List Value} (h : ix_vr G v) (hs : ix_sr G st) : ix_sr G (v :: st) := fun w hw => by
  rcases List.mem_cons.mp hw with rfl | hw
  · exact h
  · exact hs w hw
theorem ix_sr_i {x : Int32} {st : List Value} (hs : ix_sr G st) : ix_sr G (.int x :: st) := ix_sr_c (ix_vr_int x) hs
theorem ix_sr_t {v : Value} {st : List Value} (h : ix_sr G (v :: st)) : ix_sr G st := fun w hw => h w (List.mem_cons_of_mem _ hw)
theorem ix_sr_h {v : Value} {st : List Value} (h : ix_sr G (v :: st)) : ix_vr G v := h v List.mem_cons_self
theorem ix_lr_s {ls : ix_L} {i : Nat} {v : Value} (h : ix_lr G ls) (hv : ix_vr G v) : ix_lr G (ls.set i (some v)) := fun w hw => by
  rcases List.mem_or_eq_of_mem_set hw with h1 | h1
  · exact h w h1
  · cases h1; exact hv
theorem ix_fq_row {h : ix_H} (hf : ix_fq G σ0 h) {r : Nat} {sh : ix_Sh} (hr : ix_n h.1 r = some sh) (hg : G r = true) (f : Nat → Int32) : ix_fq G σ0 (h.1, ix_row h.2 r f) := by
  refine ⟨hf.1, hf.2.1, fun c hc => ?_⟩
  have hl := ix_n_lt hr
  have hne : ¬ c = r := by
    intro e
    subst e
    rcases hc with hc | hc
    · rw [hg] at hc; cases hc
    · have := hf.2.1; omega
  show ix_row h.2 r f c = _
  unfold ix_row
  rw [if_neg hne]
  exact hf.2.2 c hc
theorem ix_Y_0 : ix_Y G σ0 (fun _ _ _ => none) := Or.inl ⟨none, (fun _ h => by cases h), fun _ _ _ => rfl⟩
theorem ix_Y_c {v : Value} {h : ix_H} (hp : ix_fq G σ0 h) (hr : ix_vr G v) : ix_Y G σ0 (fun _ _ _ => some (v, h)) := Or.inl ⟨some (v, h), (fun _ e => by cases e; exact ⟨hp, hr⟩), fun _ _ _ => rfl⟩
theorem ix_Y_n {h : ix_H} {ls : ix_L} {st : List Value} (hl : ix_lr G ls) (hs : ix_sr G st) (hp : ix_fq G σ0 h) : ix_Y G σ0 (fun _ nx _ => nx ls st h) := Or.inr (Or.inl ⟨ls, st, h, ⟨hl, hs, hp⟩, fun _ _ _ => rfl⟩)
theorem ix_Y_j {h : ix_H} {ls : ix_L} {st : List Value} (hl : ix_lr G ls) (hs : ix_sr G st) (hp : ix_fq G σ0 h) (t : Nat) : ix_Y G σ0 (fun _ _ jp => jp t ls st h) := Or.inr (Or.inr (Or.inl ⟨t, ls, st, h, ⟨hl, hs, hp⟩, fun _ _ _ => rfl⟩))
theorem ix_Y_if {c : Prop} [Decidable c] {F H : ix_CL → ix_NX → ix_JP → ix_R} (hF : ix_Y G σ0 F) (hG : ix_Y G σ0 H) : ix_Y G σ0 (fun cl nx jp => if c then F cl nx jp else H cl nx jp) := by
  by_cases h : c
  · simp only [if_pos h]; exact hF
  · simp only [if_neg h]; exact hG
theorem ix_Y_bif {c : Bool} {F H : ix_CL → ix_NX → ix_JP → ix_R} (hF : ix_Y G σ0 F) (hG : ix_Y G σ0 H) : ix_Y G σ0 (fun cl nx jp => bif c then F cl nx jp else H cl nx jp) := by
  cases c
  · exact hG
  · exact hF
theorem ix_Y_popI {st : List Value} (hs : ix_sr G st) {k : ix_CL → ix_NX → ix_JP → Int32 → List Value → ix_R} (H : ∀ x r, ix_sr G r → ix_Y G σ0 (fun cl nx jp => k cl nx jp x r)) : ix_Y G σ0 (fun cl nx jp => ix_popI st (k cl nx jp)) := by
  rcases st with _ | ⟨v, r⟩
  · exact ix_Y_0
  · cases v <;> first | exact H _ _ (ix_sr_t hs) | exact ix_Y_0
theorem ix_Y_popR {st : List Value} (hs : ix_sr G st) {k : ix_CL → ix_NX → ix_JP → Nat → List Value → ix_R} (H : ∀ x r, G x = true → ix_sr G r → ix_Y G σ0 (fun cl nx jp => k cl nx jp x r)) : ix_Y G σ0 (fun cl nx jp => ix_popR st (k cl nx jp)) := by
  rcases st with _ | ⟨v, r⟩
  · exact ix_Y_0
  · cases v <;> first | exact H _ _ (ix_sr_h hs _ rfl) (ix_sr_t hs) | exact ix_Y_0
theorem ix_Y_arr {h : ix_H} {r q : Nat} {k : ix_CL → ix_NX → ix_JP → Nat → ix_R} (H : ∀ n, ix_Y G σ0 (fun cl nx jp => k cl nx jp n)) : ix_Y G σ0 (fun cl nx jp => ix_arr h r q (k cl nx jp)) := by
  unfold ix_arr
  rcases ix_sh h r with _ | ⟨q, n, sl⟩
  · exact ix_Y_0
  · exact ix_Y_bif (H _) ix_Y_0
theorem ix_Y_own {h : ix_H} {r q : Nat} {k : ix_CL → ix_NX → ix_JP → Nat → ix_R} (H : ∀ n sh, ix_n h.1 r = some sh → ix_Y G σ0 (fun cl nx jp => k cl nx jp n)) : ix_Y G σ0 (fun cl nx jp => ix_own h r q (k cl nx jp)) := by
  unfold ix_own
  rcases hq : ix_n h.1 r with _ | ⟨q, n, sl⟩
  · exact ix_Y_0
  · exact ix_Y_bif (H _ _ hq) ix_Y_0
theorem ix_Y_get (hE : ∀ c, 1000 ≤ c → G c = true) {h : ix_H} (hf : ix_fq G σ0 h) {r ci q : Nat} (hr : G r = true) {k : ix_CL → ix_NX → ix_JP → Value → ix_R} (H : ∀ v, ix_vr G v → ix_Y G σ0 (fun cl nx jp => k cl nx jp v)) : ix_Y G σ0 (fun cl nx jp => ix_get h r ci q (k cl nx jp)) := by
  unfold ix_get
  rcases hs : ix_sh h r with _ | ⟨q', n, sl⟩
  · exact ix_Y_0
  · refine ix_Y_bif ?_ (ix_Y_bif ?_ ix_Y_0)
    · rcases hq : ix_n sl q with _ | _ | _ | a
      · exact ix_Y_0
      · exact H _ (ix_vr_int _)
      · exact ix_Y_0
      · refine H _ (ix_vr_ref ?_)
        rcases ix_sh_s hs with ⟨-, h2⟩ | ⟨i0, -, h2⟩
        · exact hf.1 r _ h2 hr a (ix_mem_n hq)
        · rcases i0 with _ | _ | _ | _ | _ | _ | _ | _ | _ | _ | _ | _ | i0 <;> (cases h2; try cases hq)
    · rcases q with _ | q
      · exact H _ (ix_vr_ref (hE _ (by omega)))
      · exact H _ (ix_vr_int _)
theorem ix_Y_put {h : ix_H} (hp : ix_fq G σ0 h) {r ci q b : Nat} (hr : G r = true) {v : Value} (hv : ix_vr G v) {k : ix_CL → ix_NX → ix_JP → ix_H → ix_R} (H : ∀ n, ix_fq G σ0 n → ix_Y G σ0 (fun cl nx jp => k cl nx jp n)) : ix_Y G σ0 (fun cl nx jp => ix_put h r ci q b v (k cl nx jp)) := by
  unfold ix_put
  rcases hq : ix_n h.1 r with _ | ⟨q', n, sl⟩
  · exact ix_Y_0
  · refine ix_Y_bif ?_ ix_Y_0
    have h1 : ∀ x, ix_fq G σ0 (h.1, ix_up h.2 r q x) := fun x => ix_fq_row hp hq hr _
    have h2 : ∀ a, v = .ref a → ix_fq G σ0 (h.1.set r (q', n, sl.set q (some (some a))), h.2) := by
      intro a hva
      refine ⟨fun r2 sh hr2 hg2 a2 ha2 => ?_, by show (h.1.set r _).length ≤ 900; rw [List.length_set]; exact hp.2.1, hp.2.2⟩
      rw [ix_n_eq, List.getElem?_set] at hr2
      split at hr2
      · split at hr2
        · cases hr2
          rcases List.mem_or_eq_of_mem_set ha2 with h3 | h3
          · exact hp.1 r _ hq hr a2 h3
          · cases h3; exact hv a hva
        · cases hr2
      · exact hp.1 r2 sh (by rw [ix_n_eq]; exact hr2) hg2 a2 ha2
    rcases ix_n sl q with _ | _ | _ <;> rcases b with _ | _ | _ | b <;> cases v <;> first | exact H _ (h1 _) | exact H _ (h2 _ rfl) | exact ix_Y_0 | exact ix_Y_if (H _ (h1 _)) ix_Y_0
theorem ix_Y_ch {k : ix_CL → ix_NX → ix_JP → Nat → ix_R} (i : Nat) : ∀ (sl : List (Option (Option Nat))) (j : Nat), (∀ a, some (some a) ∈ sl → ix_Y G σ0 (fun cl nx jp => k cl nx jp a)) → ix_Y G σ0 (fun cl nx jp => ix_ch sl j i (k cl nx jp))
  | [], _, _ => ix_Y_0
  | none :: _, _, _ => ix_Y_0
  | some none :: _, _, _ => ix_Y_0
  | some (some a) :: l, j, H => by
    unfold ix_ch
    exact ix_Y_if (H a List.mem_cons_self) (ix_Y_ch i l (j + 1) (fun a ha => H a (List.mem_cons_of_mem _ ha)))
theorem ix_Y_sw {k : ix_CL → ix_NX → ix_JP → Int → ix_R} (H : ∀ n, ix_Y G σ0 (fun cl nx jp => k cl nx jp n)) (d x : Int) : ∀ (sl : List Int) (j : Int), ix_Y G σ0 (fun cl nx jp => ix_sw sl j d x (k cl nx jp))
  | [], _ => H d
  | o :: l, j => by
    unfold ix_sw
    exact ix_Y_if (H o) (ix_Y_sw H d x l (j + 1))
theorem ix_Y_lk {k : ix_CL → ix_NX → ix_JP → Int → ix_R} (H : ∀ n, ix_Y G σ0 (fun cl nx jp => k cl nx jp n)) (d x : Int) : ∀ (sl : List (Int × Int)), ix_Y G σ0 (fun cl nx jp => ix_lk sl d x (k cl nx jp))
  | [] => H d
  | o :: l => by
    unfold ix_lk
    exact ix_Y_if (H o.2) (ix_Y_lk H d x l)
theorem ix_Y_call {h : ix_H} (hp : ix_fq G σ0 h) {ls : ix_L} (hl : ix_lr G ls) {st : List Value} (hs : ix_sr G st) {a b c : Nat} (ha : ix_nc a = true) : ix_Y G σ0 (fun cl nx _ => ix_call (ix_D0 cl) nx ls st h a b c) := by
  unfold ix_call
  rcases hq : ix_popN b [] st with _ | ⟨as, st'⟩
  · exact ix_Y_0
  · refine ix_Y_bif ?_ ix_Y_0
    obtain ⟨ys, -, g2, g3⟩ := ix_popN_s _ _ _ _ _ hq
    refine Or.inr (Or.inr (Or.inr ⟨a, as, h, ls, fun x => bif Nat.beq c 0 then st' else x.1 :: st', ⟨ha, ?_, hp, hl, ?_⟩, fun _ _ _ => rfl⟩))
    · intro v hv
      rw [g3, List.append_nil] at hv
      exact hs v (by rw [g2]; exact List.mem_append_left _ (List.mem_reverse.mp hv))
    · intro x hx
      have hs' : ix_sr G st' := fun v hv => hs v (by rw [g2]; exact List.mem_append_right _ hv)
      cases Nat.beq c 0
      · exact ix_sr_c hx hs'
      · exact hs'
theorem ix_Y_recv {h : ix_H} {b d : Nat} {st : List Value} {F : ix_CL → ix_NX → ix_JP → ix_R} (H : ix_Y G σ0 F) : ix_Y G σ0 (fun cl nx jp => ix_recv h b d st (F cl nx jp)) := by
  unfold ix_recv
  rcases ix_n st (b - 1) with _ | v
  · exact ix_Y_0
  · cases v <;> first | exact ix_Y_0 | exact ix_Y_bif H ix_Y_0
theorem ix_Y_nar {h : ix_H} (hp : ix_fq G σ0 h) {t : Nat} {x : Int32} {v : Value} (hr : ix_vr G v) : ix_Y G σ0 (fun _ _ _ => ix_nar t x (some (v, h))) := by
  rcases t with _ | _ | _ | t
  · exact ix_Y_c hp hr
  · exact ix_Y_if (ix_Y_c hp hr) ix_Y_0
  · exact ix_Y_if (ix_Y_c hp hr) ix_Y_0
  · exact ix_Y_if (ix_Y_c hp hr) ix_Y_0
theorem ix_ex_Y (hE : ∀ c, 1000 ≤ c → G c = true) (e : ix_E) (hk : ix_kf e = true) (ls : ix_L) (st : List Value) (h : ix_H) (hl : ix_lr G ls) (hs : ix_sr G st) (hf : ix_fq G σ0 h) : ix_Y G σ0 (fun cl nx jp => ix_ex (ix_D0 cl) nx jp e ls st h) := by
  obtain ⟨pc, ins, len, ct, a, b, c, d, v⟩ := e
  cases ins
  case new => cases hk
  case newarray => cases hk
  case anewarray => cases hk
  case aastore => cases hk
  case ireturn =>
    unfold ix_ex
    dsimp only
    rcases st with _ | ⟨x, _ | ⟨y, st⟩⟩
    · exact ix_Y_0
    · cases x <;> first | exact ix_Y_0 | exact ix_Y_nar hf (ix_vr_int _)
    · exact ix_Y_0
  case areturn =>
    unfold ix_ex
    dsimp only
    rcases st with _ | ⟨x, _ | ⟨y, st⟩⟩
    · exact ix_Y_0
    · cases x <;> first | exact ix_Y_0 | exact ix_Y_c hf (ix_sr_h hs)
    · exact ix_Y_0
  case return_ =>
    unfold ix_ex
    dsimp only
    rcases st with _ | ⟨x, st⟩
    · exact ix_Y_c hf ix_vr_nul
    · exact ix_Y_0
  case ldc i =>
    unfold ix_ex
    dsimp only
    have h1 : (Nat.beq b 0 || Nat.ble 1000 a) = true := hk
    cases hz : Nat.beq b 0
    · rw [hz] at h1
      exact ix_Y_n hl (ix_sr_c (ix_vr_ref (hE a (Nat.le_of_ble_eq_true h1))) hs) hf
    · exact ix_Y_n hl (ix_sr_i hs) hf
  case getstatic i =>
    unfold ix_ex
    dsimp only
    have h1 : (Nat.beq b 0 || Nat.ble 1000 a) = true := hk
    cases hz : Nat.beq b 0
    · rw [hz] at h1
      exact ix_Y_n hl (ix_sr_c (ix_vr_ref (hE a (Nat.le_of_ble_eq_true h1))) hs) hf
    · exact ix_Y_n hl (ix_sr_i hs) hf
  case putfield i =>
    unfold ix_ex
    dsimp only
    rcases st with _ | ⟨x, st⟩
    · exact ix_Y_0
    · exact ix_Y_popR (ix_sr_t hs) fun _ _ hg hs2 => ix_Y_put hf hg (ix_sr_h hs) fun _ hf2 => ix_Y_n hl hs2 hf2
  case getfield i =>
    unfold ix_ex
    dsimp only
    exact ix_Y_popR hs fun _ _ hg hs2 => ix_Y_get hE hf hg fun _ hv => ix_Y_n hl (ix_sr_c hv hs2) hf
  case iastore =>
    unfold ix_ex
    dsimp only
    exact ix_Y_popI hs fun _ _ hs2 => ix_Y_popI hs2 fun _ _ hs3 => ix_Y_popR hs3 fun _ _ hg hs4 => ix_Y_own fun _ _ hr => ix_Y_if ix_Y_0 (ix_Y_n hl hs4 (ix_fq_row hf hr hg _))
  case bastore =>
    unfold ix_ex
    dsimp only
    exact ix_Y_popI hs fun _ _ hs2 => ix_Y_popI hs2 fun _ _ hs3 => ix_Y_popR hs3 fun _ _ hg hs4 => ix_Y_own fun _ _ hr => ix_Y_if ix_Y_0 (ix_Y_n hl hs4 (ix_fq_row hf hr hg _))
  case aaload =>
    unfold ix_ex
    dsimp only
    refine ix_Y_popI hs fun i st2 hs2 => ix_Y_popR hs2 fun r st3 hg hs3 => ?_
    rcases hq : ix_n h.1 r with _ | ⟨q, n, sl⟩
    · exact ix_Y_0
    · exact ix_Y_bif (ix_Y_if ix_Y_0 (ix_Y_ch _ _ _ fun a2 ha2 => ix_Y_n hl (ix_sr_c (ix_vr_ref (hf.1 r _ hq hg a2 ha2)) hs3) hf)) ix_Y_0
  case invokestatic i =>
    unfold ix_ex
    dsimp only
    have h1 : (Nat.beq c 2 || ix_nc a) = true := hk
    cases hz : Nat.beq c 2
    · rw [hz] at h1
      exact ix_Y_call hf hl hs h1
    · refine ix_Y_popI hs fun _ _ hs => ix_Y_popI hs fun _ _ hs => ix_Y_popR hs fun _ _ hg hs => ix_Y_popI hs fun _ _ hs => ix_Y_popR hs fun _ _ _ hs => ix_Y_bif ?_ ix_Y_0
      unfold ix_cpy
      exact ix_Y_own fun _ _ _ => ix_Y_own fun _ _ hr => ix_Y_if ix_Y_0 (ix_Y_n hl hs (ix_fq_row hf hr hg _))
  case invokevirtual i =>
    unfold ix_ex
    dsimp only
    exact ix_Y_recv (ix_Y_call hf hl hs hk)
  case invokespecial i =>
    unfold ix_ex
    dsimp only
    have h1 : Nat.beq c 2 = true := hk
    rw [h1]
    exact ix_Y_popR hs fun _ _ _ hs => ix_Y_bif (ix_Y_n hl hs hf) ix_Y_0
  case arraylength =>
    unfold ix_ex
    dsimp only
    refine ix_Y_popR hs fun r st2 _ hs2 => ?_
    rcases ix_sh h r with _ | ⟨q, n, sl⟩
    · exact ix_Y_0
    · exact ix_Y_bif (ix_Y_n hl (ix_sr_i hs2) hf) ix_Y_0
  case iaload =>
    unfold ix_ex
    dsimp only
    exact ix_Y_popI hs fun _ _ hs => ix_Y_popR hs fun _ _ _ hs => ix_Y_arr fun _ => ix_Y_if ix_Y_0 (ix_Y_n hl (ix_sr_i hs) hf)
  case baload =>
    unfold ix_ex
    dsimp only
    exact ix_Y_popI hs fun _ _ hs => ix_Y_popR hs fun _ _ _ hs => ix_Y_arr fun _ => ix_Y_if ix_Y_0 (ix_Y_n hl (ix_sr_i hs) hf)
  case tableswitch =>
    unfold ix_ex
    dsimp only
    exact ix_Y_popI hs fun _ _ hs => ix_Y_sw (fun _ => ix_Y_j hl hs hf _) _ _ _ _
  case lookupswitch =>
    unfold ix_ex
    dsimp only
    exact ix_Y_popI hs fun _ _ hs => ix_Y_lk (fun _ => ix_Y_j hl hs hf _) _ _ _
  case ifCond cd off =>
    unfold ix_ex
    dsimp only
    cases cd <;> dsimp only <;> first
      | exact ix_Y_popI hs fun _ _ hs => ix_Y_if (ix_Y_j hl hs hf _) (ix_Y_n hl hs hf)
      | exact ix_Y_popI hs fun _ _ hs => ix_Y_if (ix_Y_n hl hs hf) (ix_Y_j hl hs hf _)
  case if_icmp cd off =>
    unfold ix_ex
    dsimp only
    cases cd <;> dsimp only <;> first
      | exact ix_Y_popI hs fun _ _ hs => ix_Y_popI hs fun _ _ hs => ix_Y_if (ix_Y_j hl hs hf _) (ix_Y_n hl hs hf)
      | exact ix_Y_popI hs fun _ _ hs => ix_Y_popI hs fun _ _ hs => ix_Y_if (ix_Y_n hl hs hf) (ix_Y_j hl hs hf _)
  case goto =>
    unfold ix_ex
    dsimp only
    exact ix_Y_j hl hs hf _
  case dup =>
    unfold ix_ex
    dsimp only
    rcases st with _ | ⟨x, st⟩
    · exact ix_Y_0
    · exact ix_Y_n hl (ix_sr_c (ix_sr_h hs) hs) hf
  case dup2 =>
    unfold ix_ex
    dsimp only
    rcases st with _ | ⟨x, _ | ⟨y, st⟩⟩
    · exact ix_Y_0
    · exact ix_Y_0
    · exact ix_Y_n hl (ix_sr_c (ix_sr_h hs) (ix_sr_c (ix_sr_h (ix_sr_t hs)) hs)) hf
  case pop =>
    unfold ix_ex
    dsimp only
    rcases st with _ | ⟨x, st⟩
    · exact ix_Y_0
    · exact ix_Y_n hl (ix_sr_t hs) hf
  case istore =>
    unfold ix_ex
    dsimp only
    exact ix_Y_popI hs fun _ _ hs => ix_Y_bif (ix_Y_n (ix_lr_s hl (ix_vr_int _)) hs hf) ix_Y_0
  case istore_n =>
    unfold ix_ex
    dsimp only
    exact ix_Y_popI hs fun _ _ hs => ix_Y_bif (ix_Y_n (ix_lr_s hl (ix_vr_int _)) hs hf) ix_Y_0
  case astore =>
    unfold ix_ex
    dsimp only
    exact ix_Y_popR hs fun _ _ hg hs => ix_Y_bif (ix_Y_n (ix_lr_s hl (ix_vr_ref hg)) hs hf) ix_Y_0
  case astore_n =>
    unfold ix_ex
    dsimp only
    exact ix_Y_popR hs fun _ _ hg hs => ix_Y_bif (ix_Y_n (ix_lr_s hl (ix_vr_ref hg)) hs hf) ix_Y_0
  all_goals (unfold ix_ex; dsimp only)
  all_goals try exact ix_Y_0
  all_goals first
    | exact ix_Y_n hl (ix_sr_i hs) hf
    | exact ix_Y_popI hs fun _ _ hs => ix_Y_n hl (ix_sr_i hs) hf
    | exact ix_Y_popI hs fun _ _ hs => ix_Y_popI hs fun _ _ hs => ix_Y_n hl (ix_sr_i hs) hf
    | exact ix_Y_popI hs fun _ _ hs => ix_Y_popI hs fun _ _ hs => ix_Y_if ix_Y_0 (ix_Y_n hl (ix_sr_i hs) hf)
    | (rcases hq : ix_n ls a with _ | _ | x
       · exact ix_Y_0
       · exact ix_Y_0
       · cases x <;> first | exact ix_Y_0 | exact ix_Y_n hl (ix_sr_c (hl _ (ix_mem_n hq)) hs) hf | exact ix_Y_n (ix_lr_s hl (ix_vr_int _)) hs hf)
theorem ix_ex_fm (hE : ∀ c, 1000 ≤ c → G c = true) {cl : ix_CL} {nx : ix_NX} {jp : ix_JP} (hc : ∀ a as h x, ix_nc a = true → ix_sr G as → ix_fq G σ0 h → cl a as h = some x → ix_fq G σ0 x.2 ∧ ix_vr G x.1) (hn : ∀ ls st h x, ix_lr G ls → ix_sr G st → ix_fq G σ0 h → nx ls st h = some x → ix_fq G σ0 x.2 ∧ ix_vr G x.1) (hj : ∀ t ls st h x, ix_lr G ls → ix_sr G st → ix_fq G σ0 h → jp t ls st h = some x → ix_fq G σ0 x.2 ∧ ix_vr G x.1) (e : ix_E) (hk : ix_kf e = true) (ls : ix_L) (st : List Value) (h : ix_H) (hl : ix_lr G ls) (hs : ix_sr G st) (hf : ix_fq G σ0 h) (x : Value × ix_H) (hx : ix_ex (ix_D0 cl) nx jp e ls st h = some x) : ix_fq G σ0 x.2 ∧ ix_vr G x.1 := by
  rcases ix_ex_Y (σ0 := σ0) hE e hk ls st h hl hs hf with ⟨y, hp, hy⟩ | ⟨l2, s2, h2, ⟨p1, p2, p3⟩, hy⟩ | ⟨t, l2, s2, h2, ⟨p1, p2, p3⟩, hy⟩ | ⟨a, as, h2, l2, f, ⟨p1, p2, p3, p4, p5⟩, hy⟩
  · exact hp x ((hy cl nx jp).symm.trans hx)
  · exact hn _ _ _ _ p1 p2 p3 ((hy cl nx jp).symm.trans hx)
  · exact hj _ _ _ _ _ p1 p2 p3 ((hy cl nx jp).symm.trans hx)
  · obtain ⟨y, h1, h3⟩ := Option.bind_eq_some_iff.mp ((hy cl nx jp).symm.trans hx)
    have h4 := hc _ _ _ _ p1 p2 p3 h1
    exact hn _ _ _ _ p4 (p5 y h4.2) h4.1 h3
theorem ix_lr_m {ls : ix_L} (h : ix_lr G ls) (bs : List Bool) : ix_lr G (ix_mask bs ls) := by
  induction bs generalizing ls with
  | nil => intro v hv; simp [ix_mask] at hv
  | cons b bs ih =>
    cases ls with
    | nil => intro v hv; simp [ix_mask] at hv
    | cons x ls =>
      intro v hv
      simp only [ix_mask, List.mem_cons] at hv
      rcases hv with hv | hv
      · cases b
        · cases hv
        · exact h v (by rw [show x = some v from hv.symm]; exact List.mem_cons_self)
      · exact ih (fun w hw => h w (List.mem_cons_of_mem _ hw)) v hv
theorem ix_go_fm (hE : ∀ c, 1000 ≤ c → G c = true) (tab : List ix_E) (ht : ∀ e ∈ tab, ix_kf e = true) {cb : ix_JP} {cl : ix_CL} (hb : ∀ t ls st h x, ix_lr G ls → ix_sr G st → ix_fq G σ0 h → cb t ls st h = some x → ix_fq G σ0 x.2 ∧ ix_vr G x.1) (hc : ∀ a as h x, ix_nc a = true → ix_sr G as → ix_fq G σ0 h → cl a as h = some x → ix_fq G σ0 x.2 ∧ ix_vr G x.1) : ∀ (k : Nat) (rest : List ix_E), (∀ e ∈ rest, e ∈ tab) → ∀ (pc : Nat) (ls : ix_L) (st : List Value) (h : ix_H) (x : Value × ix_H), ix_lr G ls → ix_sr G st → ix_fq G σ0 h → ix_go tab cb (ix_D0 cl) k rest pc ls st h = some x → ix_fq G σ0 x.2 ∧ ix_vr G x.1 := by
  intro k
  induction k with
  | zero => intro rest _ pc ls st h x _ _ _ hx; exact absurd hx (by simp [ix_go])
  | succ k ih =>
    intro rest hin pc ls st h x hl hs hf hx
    rcases rest with _ | ⟨e, rest⟩
    · exact absurd hx (by simp [ix_go])
    · unfold ix_go at hx
      obtain ⟨h1, hx⟩ := ix_bif_s hx
      rcases hr : e.2.2.2.1 with _ | kp
      · rw [hr] at hx
        exact ix_ex_fm hE (nx := ix_go tab cb (ix_D0 cl) k rest (pc + e.2.2.1)) (jp := fun t => ix_go tab cb (ix_D0 cl) k (ix_fd tab t) t) hc (fun ls st h x => ih _ (fun q hq => hin q (List.mem_cons_of_mem _ hq)) _ ls st h x) (fun t ls st h x => ih _ (fun q hq => (List.dropWhile_sublist _).subset hq) _ ls st h x) e (ht e (hin e List.mem_cons_self)) ls st h hl hs hf x hx
      · rw [hr] at hx
        exact hb _ _ _ _ _ (ix_lr_m hl kp) hs hf hx
theorem ix_at_fm (hE : ∀ c, 1000 ≤ c → G c = true) (tab : List ix_E) (ht : ∀ e ∈ tab, ix_kf e = true) {cb : ix_JP} {cl : ix_CL} (hb : ∀ t ls st h x, ix_lr G ls → ix_sr G st → ix_fq G σ0 h → cb t ls st h = some x → ix_fq G σ0 x.2 ∧ ix_vr G x.1) (hc : ∀ a as h x, ix_nc a = true → ix_sr G as → ix_fq G σ0 h → cl a as h = some x → ix_fq G σ0 x.2 ∧ ix_vr G x.1) (pc : Nat) (ls : ix_L) (st : List Value) (h : ix_H) (x : Value × ix_H) (hl : ix_lr G ls) (hs : ix_sr G st) (hf : ix_fq G σ0 h) (hx : ix_at tab cb (ix_D0 cl) pc ls st h = some x) : ix_fq G σ0 x.2 ∧ ix_vr G x.1 := by
  unfold ix_at at hx
  have hsub : ∀ t, ∀ q ∈ ix_fd tab t, q ∈ tab := fun t q hq => (List.dropWhile_sublist _).subset hq
  rcases hq : ix_fd tab pc with _ | ⟨e, rest⟩
  · rw [hq] at hx; exact absurd hx (by simp)
  · rw [hq] at hx
    have hmem : ∀ q ∈ e :: rest, q ∈ tab := fun q h => hsub pc q (by rw [hq]; exact h)
    exact ix_ex_fm hE (nx := ix_go tab cb (ix_D0 cl) 3000 rest (pc + e.2.2.1)) (jp := fun t => ix_go tab cb (ix_D0 cl) 3000 (ix_fd tab t) t) hc (fun ls st h x => ix_go_fm hE tab ht hb hc _ _ (fun q hq => hmem q (List.mem_cons_of_mem _ hq)) _ ls st h x) (fun t ls st h x => ix_go_fm hE tab ht hb hc _ _ (hsub t) _ ls st h x) e (ht e (hmem e List.mem_cons_self)) ls st h hl hs hf x hx
theorem ix_kf_tab {mi : Nat} (h : ix_nc mi = true) : ∀ e ∈ ix_tab mi, ix_kf e = true := by
  have hlt : mi < 299 := by
    have hl : ix_ncs.length = 299 := by decide +kernel
    unfold ix_nc at h
    rcases hq : ix_n ix_ncs mi with _ | k
    · rw [hq] at h; cases h
    · have := ix_n_lt hq
      rw [hl] at this
      exact this
  have h1 := List.all_eq_true.mp ix_kf_all mi (List.mem_range.mpr hlt)
  rw [h] at h1
  exact List.all_eq_true.mp h1
theorem ix_sem_fm (hE : ∀ c, 1000 ≤ c → G c = true) : ∀ (n mi r pc : Nat) (ls : ix_L) (st : List Value) (h : ix_H) (x : Value × ix_H), ix_nc mi = true → ix_lr G ls → ix_sr G st → ix_fq G σ0 h → ix_sem n mi r pc ls st h = some x → ix_fq G σ0 x.2 ∧ ix_vr G x.1 := by
  intro n
  induction n with
  | zero => intro mi r pc ls st h x _ _ _ _ hx; exact absurd hx (by simp [ix_sem])
  | succ n ih =>
    intro mi r pc ls st h x hk hl hs hf hx
    refine ix_at_fm hE (ix_tab mi) (ix_kf_tab hk) (fun t ls st h x hl hs hf hx => ih mi r t ls st h x hk hl hs hf hx) (fun a as h x ha hs hf hx => ?_) pc ls st h x hl hs hf hx
    unfold ix_clS at hx
    obtain ⟨-, hx⟩ := ix_bif_s hx
    refine ih _ _ _ _ _ _ _ ha (fun v hv => ?_) (fun v hv => by cases hv) hf hx
    unfold ix_in at hv
    rcases List.mem_append.mp hv with h1 | h1
    · obtain ⟨w, h2, h3⟩ := List.mem_map.mp h1
      cases h3
      exact hs _ h2
    · have := List.eq_of_mem_replicate h1
      cases this
end Fm
/-- a called method writes nothing that lies out of its reach -/
theorem ix_frame (G : Nat → Bool) (hE : ∀ c, 1000 ≤ c → G c = true) {a : Nat} {as : List Value} {h : ix_H} {x : Value × ix_H} (ha : ix_nc a = true) (hs : ix_sr G as) (hj : ix_jr G h.1) (hl : h.1.length ≤ 900) (hx : ix_F a as h = some x) : ∀ c, G c = false ∨ 900 ≤ c → x.2.2 c = h.2 c := by
  obtain ⟨n, hn⟩ := ix_S_iff.mp hx
  refine (ix_sem_fm (σ0 := h.2) hE n _ _ _ _ _ _ _ ha (fun v hv => ?_) (fun v hv => by cases hv) ⟨hj, hl, fun _ _ => rfl⟩ hn).1.2.2
  unfold ix_in at hv
  rcases List.mem_append.mp hv with h1 | h1
  · obtain ⟨w, h2, h3⟩ := List.mem_map.mp h1
    cases h3
    exact hs _ h2
  · have := List.eq_of_mem_replicate h1
    cases this
/-- the class's cells, the reference's cells -/
def ix_GX (c : Nat) : Bool := Nat.blt c 135 || Nat.ble 1000 c
def ix_GM (c : Nat) : Bool := (Nat.ble 135 c && Nat.blt c 164) || Nat.ble 1000 c
theorem ix_jrX (b : Bool) : ix_jr ix_GX (ix_S0 b) := by
  have h0 : ∀ b, (List.range 135).all (fun r => match ix_n (ix_S0 b) r with
      | some sh => sh.2.2.all (fun o => match o with
        | some (some a) => ix_GX a
        | _ => true)
      | none => true) = true := by intro b; cases b <;> decide +kernel
  have hlen : ∀ b, (ix_S0 b).length = 164 := by intro b; cases b <;> rfl
  intro r sh hr hg a ha
  have hr1 := ix_n_lt hr
  rw [hlen] at hr1
  have hr2 : r < 135 := by
    unfold ix_GX at hg
    rcases Bool.or_eq_true_iff.mp hg with h | h
    · exact Nat.le_of_ble_eq_true h
    · have := Nat.le_of_ble_eq_true h; omega
  have h1 := List.all_eq_true.mp (h0 b) r (List.mem_range.mpr hr2)
  rw [hr] at h1
  exact List.all_eq_true.mp h1 _ ha
theorem ix_jrM (b : Bool) : ix_jr ix_GM (ix_S0 b) := by
  have h0 : ∀ b, (List.range 164).all (fun r => Nat.blt r 135 || match ix_n (ix_S0 b) r with
      | some sh => sh.2.2.all (fun o => match o with
        | some (some a) => ix_GM a
        | _ => true)
      | none => true) = true := by intro b; cases b <;> decide +kernel
  have hlen : ∀ b, (ix_S0 b).length = 164 := by intro b; cases b <;> rfl
  intro r sh hr hg a ha
  have hr1 := ix_n_lt hr
  rw [hlen] at hr1
  have hr2 : Nat.blt r 135 = false := by
    cases hz : Nat.blt r 135
    · rfl
    · have h2 : r < 135 := Nat.le_of_ble_eq_true hz
      unfold ix_GM at hg
      rcases Bool.or_eq_true_iff.mp hg with h | h
      · have := Nat.le_of_ble_eq_true (Bool.and_eq_true_iff.mp h).1; omega
      · have := Nat.le_of_ble_eq_true h; omega
  have h1 := List.all_eq_true.mp (h0 b) r (List.mem_range.mpr hr1)
  rw [hr2, hr] at h1
  exact List.all_eq_true.mp h1 _ ha
theorem ix_frX {a : Nat} {as : List Value} {b : Bool} {σ : ix_St} {x : Value × ix_H} (ha : ix_nc a = true) (hs : ix_sr ix_GX as) (hx : ix_F a as (ix_S0 b, σ) = some x) (c : Nat) (hc : 135 ≤ c) : x.2.2 c = σ c := by
  refine ix_frame ix_GX (fun c hc => ?_) ha hs (ix_jrX b) (by show (ix_S0 b).length ≤ 900; rw [show (ix_S0 b).length = 164 by cases b <;> rfl]; omega) hx c ?_
  · unfold ix_GX
    rw [show Nat.ble 1000 c = true from Nat.ble_eq_true_of_le hc, Bool.or_true]
  · by_cases h9 : 900 ≤ c
    · exact Or.inr h9
    · left
      unfold ix_GX
      have h1 : Nat.blt c 135 = false := by
        cases hz : Nat.blt c 135
        · rfl
        · have h2 : c < 135 := Nat.le_of_ble_eq_true hz; omega
      have h2 : Nat.ble 1000 c = false := by
        cases hz : Nat.ble 1000 c
        · rfl
        · have := Nat.le_of_ble_eq_true hz; omega
      rw [h1, h2]
      rfl
theorem ix_frM {a : Nat} {as : List Value} {b : Bool} {σ : ix_St} {x : Value × ix_H} (ha : ix_nc a = true) (hs : ix_sr ix_GM as) (hx : ix_F a as (ix_S0 b, σ) = some x) (c : Nat) (hc : c < 135 ∨ 164 ≤ c) : x.2.2 c = σ c := by
  refine ix_frame ix_GM (fun c hc => ?_) ha hs (ix_jrM b) (by show (ix_S0 b).length ≤ 900; rw [show (ix_S0 b).length = 164 by cases b <;> rfl]; omega) hx c ?_
  · unfold ix_GM
    rw [show Nat.ble 1000 c = true from Nat.ble_eq_true_of_le hc, Bool.or_true]
  · by_cases h9 : 900 ≤ c
    · exact Or.inr h9
    · left
      unfold ix_GM
      have h1 : (Nat.ble 135 c && Nat.blt c 164) = false := by
        cases hz : (Nat.ble 135 c && Nat.blt c 164)
        · rfl
        · obtain ⟨h3, h4⟩ := Bool.and_eq_true_iff.mp hz
          have h5 := Nat.le_of_ble_eq_true h3
          have h6 : c < 164 := Nat.le_of_ble_eq_true h4
          omega
      have h2 : Nat.ble 1000 c = false := by
        cases hz : Nat.ble 1000 c
        · rfl
        · have := Nat.le_of_ble_eq_true hz; omega
      rw [h1, h2]
      rfl
end
section
/-! numbers: ints as naturals, truth as an int, bits -/
def iv_B (p : Prop) [Decidable p] : Int32 := if p then 1 else 0
theorem iv_B0 {p : Prop} [Decidable p] : iv_B p = 0 ↔ ¬ p := by
  unfold iv_B
  by_cases h : p
  · rw [if_pos h]; exact ⟨fun h1 => absurd h1 (by decide), fun h1 => absurd h h1⟩
  · rw [if_neg h]; exact ⟨fun _ => h, fun _ => rfl⟩
theorem iv_B1 {p : Prop} [Decidable p] : iv_B p = 1 ↔ p := by
  unfold iv_B
  by_cases h : p
  · rw [if_pos h]; exact ⟨fun _ => h, fun _ => rfl⟩
  · rw [if_neg h]; exact ⟨fun h1 => absurd h1 (by decide), fun h1 => absurd h1 h⟩
theorem iv_B01 {p : Prop} [Decidable p] : iv_B p = 0 ∨ iv_B p = 1 := by
  by_cases h : p
  · exact Or.inr (iv_B1.mpr h)
  · exact Or.inl (iv_B0.mpr h)
theorem iv_Bt {p : Prop} [Decidable p] (h : p) : iv_B p = 1 := iv_B1.mpr h
theorem iv_Bf {p : Prop} [Decidable p] (h : ¬ p) : iv_B p = 0 := iv_B0.mpr h
theorem iv_Bc {p q : Prop} [Decidable p] [Decidable q] (h : p ↔ q) : iv_B p = iv_B q := by
  by_cases hp : p
  · rw [iv_Bt hp, iv_Bt (h.mp hp)]
  · rw [iv_Bf hp, iv_Bf (fun hq => hp (h.mpr hq))]
theorem iv_ifB {α : Type} {p : Prop} [Decidable p] (f : Int32 → α) : (if p then f 1 else f 0) = f (iv_B p) := by
  by_cases h : p
  · rw [if_pos h, iv_Bt h]
  · rw [if_neg h, iv_Bf h]
/-- a number within bounds -/
def iv_in (x : Int32) (m : Nat) : Prop := ∃ k : Nat, k ≤ m ∧ x = nI k
theorem iv_le {a b : Int32} : a ≤ b ↔ a.toInt ≤ b.toInt := Int32.le_iff_toInt_le
theorem iv_lt {a b : Int32} : a < b ↔ a.toInt < b.toInt := Int32.lt_iff_toInt_lt
theorem iv_nlt {a b : Int32} : ¬ a < b ↔ b ≤ a := by rw [iv_lt, iv_le]; omega
theorem iv_nle {a b : Int32} : ¬ a ≤ b ↔ b < a := by rw [iv_lt, iv_le]; omega
/-- an int between 0 and m, as what is asked of it says -/
theorem iv_rng {x : Int32} {m : Nat} (hm : m < 2 ^ 31) : (¬ x < 0 ∧ ¬ nI m < x) ↔ iv_in x m := by
  constructor
  · intro h
    obtain ⟨j, hj, rfl⟩ := nI_of h.1
    refine ⟨j, ?_, rfl⟩
    have h2 := h.2
    rw [nI_ltI hm hj] at h2
    omega
  · rintro ⟨k, hk, rfl⟩
    exact ⟨nI_pos (by omega), by rw [nI_ltI hm (by omega)]; omega⟩
theorem iv_rng' {x : Int32} {m : Nat} (hm : m < 2 ^ 31) : (0 ≤ x ∧ x < nI m) ↔ ∃ k : Nat, k < m ∧ x = nI k := by
  constructor
  · intro h
    obtain ⟨j, hj, rfl⟩ := nI_of (iv_nlt.mpr h.1)
    refine ⟨j, ?_, rfl⟩
    have h2 := h.2
    rwa [nI_ltI hj hm] at h2
  · rintro ⟨k, hk, rfl⟩
    exact ⟨nI_pos' (by omega), by rwa [nI_ltI (by omega) hm]⟩
theorem iv_m1 {k : Nat} (h : k < 2 ^ 31) : ¬ nI k = -1 := by
  intro e
  have h2 := congrArg Int32.toInt e
  rw [nI_toInt h] at h2
  have h3 : (-1 : Int32).toInt = -1 := by decide
  omega
theorem iv_and (a b : Nat) : nI a &&& nI b = nI (a &&& b) := by
  apply Int32.toBitVec_inj.1
  show BitVec.ofNat 32 a &&& BitVec.ofNat 32 b = BitVec.ofNat 32 (a &&& b)
  apply BitVec.eq_of_getLsbD_eq
  intro i hi
  simp [hi]
theorem iv_or (a b : Nat) : nI a ||| nI b = nI (a ||| b) := by
  apply Int32.toBitVec_inj.1
  show BitVec.ofNat 32 a ||| BitVec.ofNat 32 b = BitVec.ofNat 32 (a ||| b)
  apply BitVec.eq_of_getLsbD_eq
  intro i hi
  simp [hi]
theorem iv_xor (a b : Nat) : nI a ^^^ nI b = nI (a ^^^ b) := by
  apply Int32.toBitVec_inj.1
  show BitVec.ofNat 32 a ^^^ BitVec.ofNat 32 b = BitVec.ofNat 32 (a ^^^ b)
  apply BitVec.eq_of_getLsbD_eq
  intro i hi
  simp [hi]
theorem iv_s31 : ∀ n, n < 32 → ((nI n &&& 31).toBitVec.smod 32).toNat = n := by decide +kernel
theorem iv_shl {k : Nat} (hk : k < 31) : (1 : Int32) <<< (nI k &&& 31) = nI (2 ^ k) := by
  rw [show (1 : Int32) = nI 1 from rfl, pk_shlN (nI k &&& 31) k (iv_s31 k (by omega)) (by rw [Nat.one_mul]; exact Nat.pow_lt_pow_right (by omega) (by omega)), Nat.one_mul]
theorem iv_shr {s k : Nat} (hs : s < 2 ^ 31) (hk : k < 32) : nI s >>> (nI k &&& 31) = nI (s / 2 ^ k) := pk_shrN hs _ k (iv_s31 k hk)
theorem iv_bit {s k : Nat} (hs : s < 2 ^ 31) (hk : k < 32) : (nI s >>> (nI k &&& 31)) &&& 1 = iv_B (s.testBit k = true) := by
  rw [iv_shr hs hk, show (1 : Int32) = nI 1 from rfl, iv_and, Nat.and_one_is_mod]
  unfold iv_B
  rw [Nat.testBit_eq_decide_div_mod_eq]
  rcases Nat.mod_two_eq_zero_or_one (s / 2 ^ k) with h | h
  · rw [h, if_neg (by simp)]; rfl
  · rw [h, if_pos (by simp)]; rfl
theorem iv_bit1 {s k : Nat} (hs : s < 2 ^ 31) (hk : k < 32) : (nI s >>> (nI k &&& 31)) &&& 1 = 1 ↔ s.testBit k = true := by rw [iv_bit hs hk, iv_B1]
/-- those of n that are not of o -/
def iv_he (n o : Nat) : Nat := (2 ^ n - 1) ^^^ o
theorem iv_he_bit {n o i : Nat} (ho : o < 2 ^ n) : (iv_he n o).testBit i = (decide (i < n) && !o.testBit i) := by
  unfold iv_he
  rw [Nat.testBit_xor, Nat.testBit_two_pow_sub_one]
  by_cases h : i < n
  · simp [h]
  · have : o.testBit i = false := Nat.testBit_lt_two_pow (Nat.lt_of_lt_of_le ho (Nat.pow_le_pow_right (by omega) (by omega)))
    simp [h, this]
theorem iv_he_lt {n o : Nat} (ho : o < 2 ^ n) : iv_he n o < 2 ^ n := Nat.xor_lt_two_pow (by have := Nat.two_pow_pos n; omega) ho
theorem iv_p12 {n : Nat} (h : n ≤ 12) : 2 ^ n ≤ 4096 := by
  have := Nat.pow_le_pow_right (n := 2) (by omega) h
  exact this
theorem iv_here {n o : Nat} (hn : n ≤ 12) (ho : o < 2 ^ n) : (((1 : Int32) <<< (nI n &&& 31)) - 1) &&& (nI o ^^^ (-1)) = nI (iv_he n o) := by
  have h0 : nI (2 ^ n) - 1 = nI (2 ^ n - 1) := pk_sub (Nat.two_pow_pos n)
  rw [iv_shl (by omega), h0]
  apply Int32.toBitVec_inj.1
  apply BitVec.eq_of_getLsbD_eq
  intro i hi
  have h1 : (nI (2 ^ n - 1) &&& (nI o ^^^ (-1))).toBitVec = BitVec.ofNat 32 (2 ^ n - 1) &&& (BitVec.ofNat 32 o ^^^ (BitVec.allOnes 32)) := rfl
  rw [h1]
  show _ = (BitVec.ofNat 32 (iv_he n o)).getLsbD i
  rw [BitVec.getLsbD_and, BitVec.getLsbD_xor, BitVec.getLsbD_ofNat, BitVec.getLsbD_ofNat, BitVec.getLsbD_ofNat, BitVec.getLsbD_allOnes, iv_he_bit ho, Nat.testBit_two_pow_sub_one]
  simp [hi]
end
section
/-! what holds between the calls: the class's cells (of σ) beside the reference's (of τ) -/
/-- a river (its ints f and its rows) beside a row of the reference's (now), with what isn't in it -/
def iv_riv (f ra ch ta fi wa tu now : Nat → Int32) (st : Int32) (mc mt mf : Nat → Int32) (M n o : Nat) : Prop :=
  (f 0 = now 1 ∧ f 1 = now 3 ∧ f 2 = now 4 ∧ f 3 = st ∧ f 4 = now 0 ∧ f 5 = now 5 ∧ f 6 = nI n ∧ f 7 = nI o) ∧
  (iv_in (f 1) 5 ∧ iv_in (f 3) 9 ∧ iv_in (f 4) M) ∧
  (o < 2 ^ n ∧ ∀ i, i < 12 → now (18 + i) = iv_B (o.testBit i = true)) ∧
  (∀ i, i < 12 → ra i = now (6 + i) ∧ ch i = mc i ∧ ta i = mt i ∧ fi i = mf i ∧ wa i = now (30 + i) ∧ tu i = now (42 + i)) ∧
  ∀ i, i < n → ra i ∈ ix_rnk
/-- the types on the stack that a law's steps leave: 0 a number, 1 so or not so, 2 a number that is written and isn't 0 -/
def iv_ts (tys : List Nat) (op arg : Int32) : Option (List Nat) :=
  if op = 0 then some ((if arg = 0 then 0 else 2) :: tys)
  else if op = 1 then some (0 :: tys)
  else if op = 2 ∨ op = 3 ∨ op = 4 then (match tys with
    | a :: b :: r => if a ≠ 1 ∧ b ≠ 1 then some (0 :: r) else none
    | _ => none)
  else if op = 5 then (match tys with
    | 2 :: b :: r => if b ≠ 1 then some (0 :: r) else none
    | _ => none)
  else if op = 6 ∨ op = 7 ∨ op = 8 then (match tys with
    | a :: b :: r => if a ≠ 1 ∧ b ≠ 1 then some (1 :: r) else none
    | _ => none)
  else if op = 9 then (match tys with
    | 1 :: r => some (1 :: r)
    | _ => none)
  else if op = 10 ∨ op = 11 then (match tys with
    | 1 :: 1 :: r => some (1 :: r)
    | _ => none)
  else none
/-- steps a, a + 1 .. (k of them) bring the types tys to the types out, never more than 32 deep -/
def iv_run (op arg : Nat → Int32) : Nat → Nat → List Nat → List Nat → Prop
  | 0, _, tys, out => tys = out
  | k + 1, a, tys, out => ∃ t, iv_ts tys (op a) (arg a) = some t ∧ t.length ≤ 32 ∧ iv_run op arg k (a + 1) t out
/-- a step of the class's law beside one of the reference's -/
def iv_enc (s op arg : Int32) : Prop :=
  (op = 0 ∧ ∃ k : Nat, k ≤ 9999 ∧ arg = nI k ∧ s = nI (64 * k + 33)) ∨ (op = 1 ∧ ∃ k : Nat, k ≤ 10 ∧ arg = nI k ∧ s = nI (7 + k)) ∨
  (op = 2 ∧ s = 43) ∨ (op = 3 ∧ s = 45) ∨ (op = 4 ∧ s = 42) ∨ (op = 5 ∧ s = 47) ∨ (op = 6 ∧ s = 60) ∨ (op = 7 ∧ s = 61) ∨ (op = 8 ∧ s = 62) ∨ (op = 9 ∧ s = 6) ∨ (op = 10 ∧ s = 5) ∨ (op = 11 ∧ s = 4)
/-- a law: class (lines, size, steps, word, from, when, until) beside reference (lines, word, from, when, to, op, arg) -/
def iv_law (f steps cw cf cn cu : Nat → Int32) (ml : Int32) (mw mf mn mu op arg : Nat → Int32) : Prop :=
  ∃ n z : Nat, n ≤ 16 ∧ f 7 = nI n ∧ ml = nI n ∧ z ≤ 400 ∧ f 8 = nI z ∧ (∀ i, i < z → iv_enc (steps i) (op i) (arg i)) ∧
  ∀ l, l < n → iv_in (cw l) 2 ∧ cw l = mw l ∧ ∃ a b c : Nat, a ≤ b ∧ b ≤ c ∧ c ≤ z ∧ cf l = nI a ∧ mf l = nI a ∧ cn l = nI b ∧ mn l = nI b ∧ cu l = nI c ∧ mu l = nI c ∧
    (∃ t, t ≠ 1 ∧ iv_run op arg (b - a) a [] [t]) ∧ (b < c → iv_run op arg (c - b) b [] [1])
/-- the ferry's log -/
def iv_log (rows stays logged : Nat → Int32) (c : Int32) : Prop := ∃ m : Nat, m ≤ 16 ∧ c = nI m ∧ ∀ k, k < m → rows k = logged (2 * k) ∧ stays k = logged (2 * k + 1)
/-- the first line of the seasons that speaks of a land -/
def iv_fst (sea : Nat → Int32) (m : Nat) (land : Int32) (r : Option Nat) : Prop := match r with
  | some k => k < m ∧ sea (3 * k) = land ∧ ∀ j, j < k → sea (3 * j) ≠ land
  | none => ∀ j, j < m → sea (3 * j) ≠ land
def iv_sea (behind becomes sea : Nat → Int32) (c : Int32) : Prop := ∃ m : Nat, m ≤ 16 ∧ c = nI m ∧
  (∀ k, k < m → iv_in (sea (3 * k)) 5 ∧ (∃ a : Nat, 1 ≤ a ∧ a ≤ 99 ∧ sea (3 * k + 1) = nI a) ∧ iv_in (sea (3 * k + 2)) 5) ∧
  ∀ l, l < 6 → ∃ r, iv_fst sea m (nI l) r ∧ match r with
    | some k => behind l = sea (3 * k + 1) ∧ becomes l = sea (3 * k + 2)
    | none => behind l = 0
/-- the class's world c beside a view of the reference's: 0 now, 1 numbers, 2 child, 3 talk, 4 firm, 5 ears, 6 bribes, 7 seen, 8 log, 9 seasons, 10 book, 11 to 16 the law -/
def iv_wor (c v : ix_St) (M n o : Nat) : Prop :=
  iv_riv (c 2) (c 3) (c 4) (c 5) (c 6) (c 7) (c 8) (v 0) (v 1 0) (v 2) (v 3) (v 4) M n o ∧
  ((v 1 1 = nI n ∧ (∃ k : Nat, k ≤ 150 ∧ c 9 1 = nI k ∧ v 0 2 = nI k)) ∧ ∀ j, j < 600 → c 10 j = v 10 j) ∧
  (c 25 0 = v 1 6 ∧ c 25 1 = v 1 2 ∧ c 25 2 = v 1 3 ∧ c 25 3 = v 1 4) ∧
  (∀ i, i < 12 → c 20 i = v 5 i ∧ (n ≤ i → c 20 i = 0)) ∧
  iv_log (c 21) (c 22) (v 8) (v 1 3) ∧ iv_sea (c 23) (c 24) (v 9) (v 1 4) ∧
  iv_law (c 12) (c 13) (c 14) (c 15) (c 16) (c 17) (v 1 6) (v 11) (v 12) (v 13) (v 14) (v 15) (v 16) ∧
  (∀ i, i < 12 → c 26 i = v 6 i + 1 ∧ iv_in (c 26 i) 99) ∧
  ∃ m : Nat, m ≤ 20 ∧ c 1 5 = nI m ∧ v 1 5 = nI m ∧ (∀ j, j < 20 → c 27 j = v 7 j) ∧ ∀ j, j < m → iv_in (c 27 j) 5
/-- the reference as it stands, so viewed -/
def iv_mv (τ : ix_St) : ix_St
  | 0 => τ 136
  | 1 => fun i => match i with
    | 0 => τ 135 6
    | 1 => τ 135 7
    | 2 => τ 135 35
    | 3 => τ 135 37
    | 4 => τ 135 39
    | 5 => τ 135 47
    | _ => τ 145 0
  | 2 => τ 139
  | 3 => τ 140
  | 4 => τ 141
  | 5 => τ 153
  | 6 => τ 162
  | 7 => τ 161
  | 8 => τ 154
  | 9 => τ 155
  | 10 => τ 142
  | 11 => τ 146
  | 12 => τ 147
  | 13 => τ 148
  | 14 => τ 149
  | 15 => τ 150
  | _ => τ 151
/-- the reference's image, so viewed -/
def iv_im (g : Nat → Int32) : ix_St
  | 0 => g
  | 1 => fun i => match i with
    | 0 => g 54
    | 1 => g 55
    | 2 => g 56
    | 3 => g 57
    | 4 => g 58
    | 5 => g 59
    | _ => g 820
  | 2 => fun i => g (60 + 5 * i)
  | 3 => fun i => g (61 + 5 * i)
  | 4 => fun i => g (62 + 5 * i)
  | 5 => fun i => g (63 + 5 * i)
  | 6 => fun i => g (64 + 5 * i)
  | 7 => fun i => g (120 + i)
  | 8 => fun i => g (140 + i)
  | 9 => fun i => g (172 + i)
  | 10 => fun i => g (220 + i)
  | 11 => fun i => g (821 + 4 * i)
  | 12 => fun i => g (822 + 4 * i)
  | 13 => fun i => g (823 + 4 * i)
  | 14 => fun i => g (824 + 4 * i)
  | 15 => fun i => g (885 + 2 * i)
  | _ => fun i => g (886 + 2 * i)
/-- the latest acts: the class's ring beside the reference's rows -/
def iv_past (σ τ : ix_St) (M n : Nat) : Prop := ∃ p q : Nat, p < 6 ∧ q ≤ 6 ∧ σ 55 2 = nI p ∧ σ 55 3 = nI q ∧ τ 135 3 = nI q ∧ ∀ j, j < q → ∃ s o : Nat, s < 6 ∧ s = (p + 6 - q + j) % 6 ∧
  iv_riv (σ (58 + 7 * s)) (σ (59 + 7 * s)) (σ (60 + 7 * s)) (σ (61 + 7 * s)) (σ (62 + 7 * s)) (σ (63 + 7 * s)) (σ (64 + 7 * s)) (fun i => τ 137 (54 * j + i)) (τ 135 6) (τ 139) (τ 140) (τ 141) M n o ∧ σ 57 s = τ 137 (54 * j + 2) ∧ iv_in (σ 57 s) 150
def iv_tape (σ τ : ix_St) : Prop := ∃ t : Nat, t ≤ 400 ∧ σ 100 1 = nI t ∧ τ 135 13 = nI t ∧ ∀ i, i < t → ∃ c : Nat, c < 256 ∧ τ 143 i = nI c ∧ σ 101 i = (nI c).toInt8.toInt32
def iv_words : List Int32 := [32, 115, 119, 97, 121, 32, 97, 98, 115, 116, 97, 105, 110, 32, 115, 104, 101, 108, 108, 115, 32, 119, 104, 101, 110, 32, 111, 114, 32, 97, 110, 100, 32, 110, 111, 116, 32, 99, 104, 105, 108, 100, 32, 116, 97, 108, 107, 32, 102, 105, 114, 109, 32, 119, 97, 100, 101, 100, 32, 116, 117, 114, 110, 101, 100, 32, 98, 97, 110, 107, 32, 97, 103, 101, 32, 115, 116, 114, 101, 97, 109, 32, 109, 105, 110, 117, 116, 101, 32, 97, 98, 111, 97, 114, 100, 32, 102, 111, 114, 32, 112, 97, 115, 115, 101, 110, 103, 101, 114, 32, 104, 101, 97, 114, 115, 32, 114, 111, 119, 32, 115, 116, 97, 121, 32, 98, 101, 104, 105, 110, 100, 32, 105, 115, 32]
def iv_oth (σ τ : ix_St) : Prop := (σ 105 1 = τ 135 33 ∧ σ 105 2 = τ 135 34) ∧ τ 135 5 = 0 ∧ ∀ i, i < 135 → τ 144 i = iv_words.getD i 0
def iv_img (σ τ : ix_St) (M : Nat) : Prop := σ 0 7 = τ 135 51 ∧ (τ 135 51 = 0 ∨ τ 135 51 = 1 ∧ ∃ n o, n ≤ 12 ∧ iv_wor (fun j => σ (j + 27)) (iv_im (τ 163)) M n o)
/-- behind k calls -/
def iv_R (k : Nat) (σ τ : ix_St) : Prop := ∃ n o, n ≤ 12 ∧ iv_wor σ (iv_mv τ) (192 * k) n o ∧ iv_past σ τ (192 * k) n ∧ iv_tape σ τ ∧ iv_oth σ τ ∧ iv_img σ τ (192 * k)
theorem iv_riv_up {f ra ch ta fi wa tu now : Nat → Int32} {st : Int32} {mc mt mf : Nat → Int32} {M N n o : Nat} (hM : M ≤ N) (h : iv_riv f ra ch ta fi wa tu now st mc mt mf M n o) : iv_riv f ra ch ta fi wa tu now st mc mt mf N n o := by
  obtain ⟨h1, ⟨h2, h3, k, hk, h4⟩, h5⟩ := h
  exact ⟨h1, ⟨h2, h3, k, by omega, h4⟩, h5⟩
theorem iv_wor_up {c v : ix_St} {M N n o : Nat} (hM : M ≤ N) (h : iv_wor c v M n o) : iv_wor c v N n o := ⟨iv_riv_up hM h.1, h.2⟩
theorem iv_past_up {σ τ : ix_St} {M N n : Nat} (hM : M ≤ N) (h : iv_past σ τ M n) : iv_past σ τ N n := by
  obtain ⟨p, q, h1, h2, h3, h4, h5, h6⟩ := h
  refine ⟨p, q, h1, h2, h3, h4, h5, fun j hj => ?_⟩
  obtain ⟨s, o, h7, h8, h9, h10⟩ := h6 j hj
  exact ⟨s, o, h7, h8, iv_riv_up hM h9, h10⟩
theorem iv_img_up {σ τ : ix_St} {M N : Nat} (hM : M ≤ N) (h : iv_img σ τ M) : iv_img σ τ N := by
  obtain ⟨h1, h2 | ⟨h2, n, o, h3, h4⟩⟩ := h
  · exact ⟨h1, Or.inl h2⟩
  · exact ⟨h1, Or.inr ⟨h2, n, o, h3, iv_wor_up hM h4⟩⟩
theorem iv_R_up {k l : Nat} {σ τ : ix_St} (h : k ≤ l) (hR : iv_R k σ τ) : iv_R l σ τ := by
  obtain ⟨n, o, h1, h2, h3, h4, h5, h6⟩ := hR
  have hM : 192 * k ≤ 192 * l := by omega
  exact ⟨n, o, h1, iv_wor_up hM h2, iv_past_up hM h3, h4, h5, iv_img_up hM h6⟩
/-- what holds hangs on the class's cells of the one and the reference's of the other alone -/
theorem iv_R_cong {k : Nat} {σ σ' τ τ' : ix_St} (hs : ∀ c, c < 135 → σ' c = σ c) (ht : ∀ c, 135 ≤ c → c < 164 → τ' c = τ c) (hR : iv_R k σ τ) : iv_R k σ' τ' := by
  obtain ⟨n, o, h1, h2, h3, h4, h5, h6⟩ := hR
  have hm : iv_mv τ' = iv_mv τ := by
    funext f
    unfold iv_mv
    split
    all_goals first
      | exact ht _ (by omega) (by omega)
      | (rw [ht 135 (by omega) (by omega), ht 145 (by omega) (by omega)])
  refine ⟨n, o, h1, ?_, ?_, ?_, ?_, ?_⟩
  · rw [hm]
    unfold iv_wor at h2 ⊢
    simp only [hs _ (show 1 < 135 by omega), hs _ (show 2 < 135 by omega), hs _ (show 3 < 135 by omega), hs _ (show 4 < 135 by omega), hs _ (show 5 < 135 by omega), hs _ (show 6 < 135 by omega), hs _ (show 7 < 135 by omega), hs _ (show 8 < 135 by omega), hs _ (show 9 < 135 by omega), hs _ (show 10 < 135 by omega), hs _ (show 12 < 135 by omega), hs _ (show 13 < 135 by omega), hs _ (show 14 < 135 by omega), hs _ (show 15 < 135 by omega), hs _ (show 16 < 135 by omega), hs _ (show 17 < 135 by omega), hs _ (show 20 < 135 by omega), hs _ (show 21 < 135 by omega), hs _ (show 22 < 135 by omega), hs _ (show 23 < 135 by omega), hs _ (show 24 < 135 by omega), hs _ (show 25 < 135 by omega), hs _ (show 26 < 135 by omega), hs _ (show 27 < 135 by omega)]
    exact h2
  · obtain ⟨p, q, h7, h8, h9, h10, h11, h12⟩ := h3
    refine ⟨p, q, h7, h8, ?_, ?_, ?_, fun j hj => ?_⟩
    · rw [hs 55 (by omega)]; exact h9
    · rw [hs 55 (by omega)]; exact h10
    · rw [ht 135 (by omega) (by omega)]; exact h11
    · obtain ⟨s, o, h13, h14, h15, h16⟩ := h12 j hj
      refine ⟨s, o, h13, h14, ?_, ?_⟩
      · rw [hs _ (show 58 + 7 * s < 135 by omega), hs _ (show 59 + 7 * s < 135 by omega), hs _ (show 60 + 7 * s < 135 by omega), hs _ (show 61 + 7 * s < 135 by omega), hs _ (show 62 + 7 * s < 135 by omega), hs _ (show 63 + 7 * s < 135 by omega), hs _ (show 64 + 7 * s < 135 by omega), ht 137 (by omega) (by omega), ht 135 (by omega) (by omega), ht 139 (by omega) (by omega), ht 140 (by omega) (by omega), ht 141 (by omega) (by omega)]
        exact h15
      · rw [hs 57 (by omega), ht 137 (by omega) (by omega)]
        exact h16
  · unfold iv_tape at h4 ⊢
    rw [hs 100 (by omega), hs 101 (by omega), ht 135 (by omega) (by omega), ht 143 (by omega) (by omega)]
    exact h4
  · unfold iv_oth at h5 ⊢
    rw [hs 105 (by omega), ht 135 (by omega) (by omega), ht 144 (by omega) (by omega)]
    exact h5
  · unfold iv_img iv_wor at h6 ⊢
    rw [hs 0 (by omega), ht 135 (by omega) (by omega), ht 163 (by omega) (by omega)]
    simp only [Nat.reduceAdd, hs _ (show 28 < 135 by omega), hs _ (show 29 < 135 by omega), hs _ (show 30 < 135 by omega), hs _ (show 31 < 135 by omega), hs _ (show 32 < 135 by omega), hs _ (show 33 < 135 by omega), hs _ (show 34 < 135 by omega), hs _ (show 35 < 135 by omega), hs _ (show 36 < 135 by omega), hs _ (show 37 < 135 by omega), hs _ (show 39 < 135 by omega), hs _ (show 40 < 135 by omega), hs _ (show 41 < 135 by omega), hs _ (show 42 < 135 by omega), hs _ (show 43 < 135 by omega), hs _ (show 44 < 135 by omega), hs _ (show 47 < 135 by omega), hs _ (show 48 < 135 by omega), hs _ (show 49 < 135 by omega), hs _ (show 50 < 135 by omega), hs _ (show 51 < 135 by omega), hs _ (show 52 < 135 by omega), hs _ (show 53 < 135 by omega), hs _ (show 54 < 135 by omega)] at h6 ⊢
    exact h6
/-- class and reference, each on its own heap, answer alike and hold what holds; E: what is given (script, RANKS, texts) -/
def iv_S (E : ix_St) (x m : Nat) (as : List Value) : Prop := ∀ k b c σ τ, k < 512 → (∀ z, 900 ≤ z → σ z = E z ∧ τ z = E z) → iv_R k σ τ → ∃ v b' σ' τ', ix_F x (.ref 0 :: as) (ix_S0 b, σ) = some (.int v, (ix_S0 b', σ')) ∧ ix_F m (.ref 135 :: as) (ix_S0 c, τ) = some (.int v, (ix_S0 c, τ')) ∧ iv_R (k + 1) σ' τ'
/-- what holds between calls of both on one heap -/
def iv_J (E : ix_St) (k : Nat) (σ : ix_St) : Prop := iv_R k σ σ ∧ ∀ z, 900 ≤ z → σ z = E z
theorem iv_srX {as : List Value} (h : ∀ v ∈ as, ∃ y, v = .int y) : ix_sr ix_GX (.ref 0 :: as) := by
  refine ix_sr_c (ix_vr_ref rfl) (fun v hv => ?_)
  obtain ⟨y, rfl⟩ := h v hv
  exact ix_vr_int y
theorem iv_srM {as : List Value} (h : ∀ v ∈ as, ∃ y, v = .int y) : ix_sr ix_GM (.ref 135 :: as) := by
  refine ix_sr_c (ix_vr_ref rfl) (fun v hv => ?_)
  obtain ⟨y, rfl⟩ := h v hv
  exact ix_vr_int y
theorem iv_one {E : ix_St} {x m : Nat} {as : List Value} (hx : ix_nc x = true) (hm : ix_nc m = true) (has : ∀ v ∈ as, ∃ y, v = .int y) (hS : iv_S E x m as) (k : Nat) (b : Bool) (σ : ix_St) (hk : k < 512) (h : iv_J E k σ) : ∃ v b' σ1 σ2, ix_F x (.ref 0 :: as) (ix_S0 b, σ) = some (.int v, (ix_S0 b', σ1)) ∧ ix_F m (.ref 135 :: as) (ix_S0 b', σ1) = some (.int v, (ix_S0 b', σ2)) ∧ iv_J E (k + 1) σ2 := by
  obtain ⟨hR, hE⟩ := h
  obtain ⟨v, b', σ1, τ1, e1, -, -⟩ := hS k b b σ σ hk (fun z hz => ⟨hE z hz, hE z hz⟩) hR
  have f1 : ∀ c, 135 ≤ c → σ1 c = σ c := fun c hc => ix_frX hx (iv_srX has) e1 c hc
  obtain ⟨v2, b2, σ2, τ2, e2, e3, h3⟩ := hS k b b' σ σ1 hk (fun z hz => ⟨hE z hz, (f1 z (by omega)).trans (hE z hz)⟩) (iv_R_cong (fun _ _ => rfl) (fun c hc _ => f1 c hc) hR)
  rw [e1] at e2
  simp only [Option.some.injEq, Prod.mk.injEq, Value.int.injEq] at e2
  obtain ⟨rfl, h4, rfl⟩ := e2
  refine ⟨v, b', σ1, τ2, e1, e3, ?_, fun z hz => ?_⟩
  · exact iv_R_cong (fun c hc => ix_frM hm (iv_srM has) e3 c (Or.inl hc)) (fun _ _ _ => rfl) h3
  · exact (ix_frM hm (iv_srM has) e3 z (Or.inr (by omega))).trans ((f1 z (by omega)).trans (hE z hz))
theorem iv_keepS {x : Nat} {as : List Value} {b b' : Bool} {σ σ' : ix_St} {v : Value} (hx : ix_kd x ≠ 0) (e : ix_F x as (ix_S0 b, σ) = some (v, (ix_S0 b', σ'))) : ix_S0 b' = ix_S0 b := by
  obtain ⟨n, hn⟩ := ix_S_iff.mp e
  exact (ix_sem_pr n _ _ _ _ _ _ _ hx hn).1
end
