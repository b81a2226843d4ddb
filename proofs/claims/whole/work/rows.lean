section
-- ===== PART A: goes FIRST, ahead of the names: the tables' words, and 'selects' of the private methods out of them =====
/-- a private method of a class that the tables say can be made, by its rows of tables_1 -/
def lw_okq (q : MethodName × Nat) : Prop := (q.1.cls ≠ "java/lang/invoke/MethodHandle" ∧ q.1.cls ≠ "java/lang/invoke/VarHandle") ∧ Cond.instantiable q.1.cls q.2 ∈ tables_1 ∧ Cond.privateMethod q.1 ∈ tables_1 ∧ Cond.instanceMethod q.1 ∈ tables_1
theorem lw_p0 : lw_okq (⟨"java/util/ArrayList", "add", "(Ljava/lang/Object;[Ljava/lang/Object;I)V"⟩, 3) := ⟨⟨by decide +kernel, by decide +kernel⟩, List.mem_of_getElem? (i := 40) (by decide +kernel), List.mem_of_getElem? (i := 370) (by decide +kernel), List.mem_of_getElem? (i := 371) (by decide +kernel)⟩
theorem lw_p1 : lw_okq (⟨"java/util/ArrayList", "grow", "()[Ljava/lang/Object;"⟩, 3) := ⟨⟨by decide +kernel, by decide +kernel⟩, List.mem_of_getElem? (i := 40) (by decide +kernel), List.mem_of_getElem? (i := 374) (by decide +kernel), List.mem_of_getElem? (i := 375) (by decide +kernel)⟩
theorem lw_p2 : lw_okq (⟨"java/util/ArrayList", "grow", "(I)[Ljava/lang/Object;"⟩, 3) := ⟨⟨by decide +kernel, by decide +kernel⟩, List.mem_of_getElem? (i := 40) (by decide +kernel), List.mem_of_getElem? (i := 378) (by decide +kernel), List.mem_of_getElem? (i := 379) (by decide +kernel)⟩
theorem lw_p3 : lw_okq (⟨"RoughStones$Matcher", "collect", "(Ljava/util/ArrayList;)V"⟩, 4) := ⟨⟨by decide +kernel, by decide +kernel⟩, List.mem_of_getElem? (i := 232) (by decide +kernel), List.mem_of_getElem? (i := 447) (by decide +kernel), List.mem_of_getElem? (i := 448) (by decide +kernel)⟩
theorem lw_p4 : lw_okq (⟨"RoughStones$Matcher", "bestOf", "(I)I"⟩, 4) := ⟨⟨by decide +kernel, by decide +kernel⟩, List.mem_of_getElem? (i := 232) (by decide +kernel), List.mem_of_getElem? (i := 467) (by decide +kernel), List.mem_of_getElem? (i := 468) (by decide +kernel)⟩
theorem lw_p5 : lw_okq (⟨"RoughStones$Matcher", "isPair", "(II)Z"⟩, 4) := ⟨⟨by decide +kernel, by decide +kernel⟩, List.mem_of_getElem? (i := 232) (by decide +kernel), List.mem_of_getElem? (i := 483) (by decide +kernel), List.mem_of_getElem? (i := 484) (by decide +kernel)⟩
theorem lw_p6 : lw_okq (⟨"RoughStones$Matcher", "apart", "(II)I"⟩, 4) := ⟨⟨by decide +kernel, by decide +kernel⟩, List.mem_of_getElem? (i := 232) (by decide +kernel), List.mem_of_getElem? (i := 487) (by decide +kernel), List.mem_of_getElem? (i := 488) (by decide +kernel)⟩
theorem lw_p7 : lw_okq (⟨"RoughStones$Matcher", "withPair", "(III)I"⟩, 4) := ⟨⟨by decide +kernel, by decide +kernel⟩, List.mem_of_getElem? (i := 232) (by decide +kernel), List.mem_of_getElem? (i := 495) (by decide +kernel), List.mem_of_getElem? (i := 496) (by decide +kernel)⟩
theorem lw_p8 : lw_okq (⟨"RoughStones$Matcher", "mateIn", "(II)I"⟩, 4) := ⟨⟨by decide +kernel, by decide +kernel⟩, List.mem_of_getElem? (i := 232) (by decide +kernel), List.mem_of_getElem? (i := 500) (by decide +kernel), List.mem_of_getElem? (i := 501) (by decide +kernel)⟩
theorem lw_p9 : lw_okq (⟨"RoughStones$Auction", "greatestBid", "(I)I"⟩, 8) := ⟨⟨by decide +kernel, by decide +kernel⟩, List.mem_of_getElem? (i := 251) (by decide +kernel), List.mem_of_getElem? (i := 515) (by decide +kernel), List.mem_of_getElem? (i := 516) (by decide +kernel)⟩
theorem lw_p10 : lw_okq (⟨"RoughStones$Auction", "give", "(II)V"⟩, 8) := ⟨⟨by decide +kernel, by decide +kernel⟩, List.mem_of_getElem? (i := 251) (by decide +kernel), List.mem_of_getElem? (i := 520) (by decide +kernel), List.mem_of_getElem? (i := 521) (by decide +kernel)⟩
theorem lw_p11 : lw_okq (⟨"RoughStones", "soldStones", "()I"⟩, 10) := ⟨⟨by decide +kernel, by decide +kernel⟩, List.mem_of_getElem? (i := 32) (by decide +kernel), List.mem_of_getElem? (i := 539) (by decide +kernel), List.mem_of_getElem? (i := 540) (by decide +kernel)⟩
theorem lw_p12 : lw_okq (⟨"RoughStones", "roughOf", "(I)LRoughStones$Rough;"⟩, 10) := ⟨⟨by decide +kernel, by decide +kernel⟩, List.mem_of_getElem? (i := 32) (by decide +kernel), List.mem_of_getElem? (i := 552) (by decide +kernel), List.mem_of_getElem? (i := 553) (by decide +kernel)⟩
theorem lw_p13 : lw_okq (⟨"java/lang/Throwable", "fillInStackTrace", "(I)Ljava/lang/Throwable;"⟩, 6) := ⟨⟨by decide +kernel, by decide +kernel⟩, List.mem_of_getElem? (i := 595) (by decide +kernel), List.mem_of_getElem? (i := 593) (by decide +kernel), List.mem_of_getElem? (i := 594) (by decide +kernel)⟩
theorem lw_p14 : lw_okq (⟨"RoughStones$Tape", "readLayer", "(I)Z"⟩, 9) := ⟨⟨by decide +kernel, by decide +kernel⟩, List.mem_of_getElem? (i := 66) (by decide +kernel), List.mem_of_getElem? (i := 683) (by decide +kernel), List.mem_of_getElem? (i := 684) (by decide +kernel)⟩
theorem lw_p15 : lw_okq (⟨"RoughStones$Tape", "readDigit", "(II)I"⟩, 9) := ⟨⟨by decide +kernel, by decide +kernel⟩, List.mem_of_getElem? (i := 66) (by decide +kernel), List.mem_of_getElem? (i := 687) (by decide +kernel), List.mem_of_getElem? (i := 688) (by decide +kernel)⟩
def lw_privs_1 : List (MethodName × Nat) := [(⟨"java/util/ArrayList", "add", "(Ljava/lang/Object;[Ljava/lang/Object;I)V"⟩, 3), (⟨"java/util/ArrayList", "grow", "()[Ljava/lang/Object;"⟩, 3), (⟨"java/util/ArrayList", "grow", "(I)[Ljava/lang/Object;"⟩, 3), (⟨"RoughStones$Matcher", "collect", "(Ljava/util/ArrayList;)V"⟩, 4), (⟨"RoughStones$Matcher", "bestOf", "(I)I"⟩, 4), (⟨"RoughStones$Matcher", "isPair", "(II)Z"⟩, 4), (⟨"RoughStones$Matcher", "apart", "(II)I"⟩, 4), (⟨"RoughStones$Matcher", "withPair", "(III)I"⟩, 4), (⟨"RoughStones$Matcher", "mateIn", "(II)I"⟩, 4), (⟨"RoughStones$Auction", "greatestBid", "(I)I"⟩, 8), (⟨"RoughStones$Auction", "give", "(II)V"⟩, 8), (⟨"RoughStones", "soldStones", "()I"⟩, 10), (⟨"RoughStones", "roughOf", "(I)LRoughStones$Rough;"⟩, 10), (⟨"java/lang/Throwable", "fillInStackTrace", "(I)Ljava/lang/Throwable;"⟩, 6), (⟨"RoughStones$Tape", "readLayer", "(I)Z"⟩, 9), (⟨"RoughStones$Tape", "readDigit", "(II)I"⟩, 9)]
theorem lw_r1 : ∀ q ∈ lw_privs_1, lw_okq q := List.forall_mem_cons.mpr ⟨lw_p0, List.forall_mem_cons.mpr ⟨lw_p1, List.forall_mem_cons.mpr ⟨lw_p2, List.forall_mem_cons.mpr ⟨lw_p3, List.forall_mem_cons.mpr ⟨lw_p4, List.forall_mem_cons.mpr ⟨lw_p5, List.forall_mem_cons.mpr ⟨lw_p6, List.forall_mem_cons.mpr ⟨lw_p7, List.forall_mem_cons.mpr ⟨lw_p8, List.forall_mem_cons.mpr ⟨lw_p9, List.forall_mem_cons.mpr ⟨lw_p10, List.forall_mem_cons.mpr ⟨lw_p11, List.forall_mem_cons.mpr ⟨lw_p12, List.forall_mem_cons.mpr ⟨lw_p13, List.forall_mem_cons.mpr ⟨lw_p14, List.forall_mem_cons.mpr ⟨lw_p15, fun _ h => absurd h List.not_mem_nil⟩⟩⟩⟩⟩⟩⟩⟩⟩⟩⟩⟩⟩⟩⟩⟩
theorem lw_p16 : lw_okq (⟨"RoughStones$Tape", "isEnd", "()Z"⟩, 9) := ⟨⟨by decide +kernel, by decide +kernel⟩, List.mem_of_getElem? (i := 66) (by decide +kernel), List.mem_of_getElem? (i := 691) (by decide +kernel), List.mem_of_getElem? (i := 692) (by decide +kernel)⟩
theorem lw_p17 : lw_okq (⟨"RoughStones$Tape", "readSign", "(I)Z"⟩, 9) := ⟨⟨by decide +kernel, by decide +kernel⟩, List.mem_of_getElem? (i := 66) (by decide +kernel), List.mem_of_getElem? (i := 695) (by decide +kernel), List.mem_of_getElem? (i := 696) (by decide +kernel)⟩
theorem lw_p18 : lw_okq (⟨"RoughStones$Model", "layLayer", "(LRoughStones$Tape;I)V"⟩, 5) := ⟨⟨by decide +kernel, by decide +kernel⟩, List.mem_of_getElem? (i := 699) (by decide +kernel), List.mem_of_getElem? (i := 709) (by decide +kernel), List.mem_of_getElem? (i := 710) (by decide +kernel)⟩
theorem lw_p19 : lw_okq (⟨"RoughStones$Model", "layCell", "(IIII)V"⟩, 5) := ⟨⟨by decide +kernel, by decide +kernel⟩, List.mem_of_getElem? (i := 699) (by decide +kernel), List.mem_of_getElem? (i := 713) (by decide +kernel), List.mem_of_getElem? (i := 714) (by decide +kernel)⟩
theorem lw_p20 : lw_okq (⟨"RoughStones", "forgetCuts", "()V"⟩, 10) := ⟨⟨by decide +kernel, by decide +kernel⟩, List.mem_of_getElem? (i := 32) (by decide +kernel), List.mem_of_getElem? (i := 753) (by decide +kernel), List.mem_of_getElem? (i := 754) (by decide +kernel)⟩
theorem lw_p21 : lw_okq (⟨"RoughStones$Saw", "startsInRow", "([J[JIJ)J"⟩, 4) := ⟨⟨by decide +kernel, by decide +kernel⟩, List.mem_of_getElem? (i := 125) (by decide +kernel), List.mem_of_getElem? (i := 813) (by decide +kernel), List.mem_of_getElem? (i := 814) (by decide +kernel)⟩
theorem lw_p22 : lw_okq (⟨"RoughStones", "sawnRough", "(I)LRoughStones$Rough;"⟩, 10) := ⟨⟨by decide +kernel, by decide +kernel⟩, List.mem_of_getElem? (i := 32) (by decide +kernel), List.mem_of_getElem? (i := 828) (by decide +kernel), List.mem_of_getElem? (i := 829) (by decide +kernel)⟩
theorem lw_p23 : lw_okq (⟨"RoughStones$Saw", "offerWays", "(LRoughStones$Rough;LRoughStones$Model;)V"⟩, 4) := ⟨⟨by decide +kernel, by decide +kernel⟩, List.mem_of_getElem? (i := 125) (by decide +kernel), List.mem_of_getElem? (i := 840) (by decide +kernel), List.mem_of_getElem? (i := 841) (by decide +kernel)⟩
theorem lw_p24 : lw_okq (⟨"RoughStones$Saw", "isWanted", "()Z"⟩, 4) := ⟨⟨by decide +kernel, by decide +kernel⟩, List.mem_of_getElem? (i := 125) (by decide +kernel), List.mem_of_getElem? (i := 844) (by decide +kernel), List.mem_of_getElem? (i := 845) (by decide +kernel)⟩
theorem lw_p25 : lw_okq (⟨"RoughStones$Saw", "offerTo", "(LRoughStones$Part;LRoughStones$Model;)V"⟩, 4) := ⟨⟨by decide +kernel, by decide +kernel⟩, List.mem_of_getElem? (i := 125) (by decide +kernel), List.mem_of_getElem? (i := 849) (by decide +kernel), List.mem_of_getElem? (i := 850) (by decide +kernel)⟩
theorem lw_p26 : lw_okq (⟨"RoughStones$Saw", "firstWithin", "(LRoughStones$Part;)I"⟩, 4) := ⟨⟨by decide +kernel, by decide +kernel⟩, List.mem_of_getElem? (i := 125) (by decide +kernel), List.mem_of_getElem? (i := 853) (by decide +kernel), List.mem_of_getElem? (i := 854) (by decide +kernel)⟩
theorem lw_p27 : lw_okq (⟨"RoughStones$Saw", "choose", "(LRoughStones$Rough;)V"⟩, 4) := ⟨⟨by decide +kernel, by decide +kernel⟩, List.mem_of_getElem? (i := 125) (by decide +kernel), List.mem_of_getElem? (i := 863) (by decide +kernel), List.mem_of_getElem? (i := 864) (by decide +kernel)⟩
theorem lw_p28 : lw_okq (⟨"RoughStones", "stoneOf", "(I)LRoughStones$Stone;"⟩, 10) := ⟨⟨by decide +kernel, by decide +kernel⟩, List.mem_of_getElem? (i := 32) (by decide +kernel), List.mem_of_getElem? (i := 975) (by decide +kernel), List.mem_of_getElem? (i := 976) (by decide +kernel)⟩
theorem lw_p29 : lw_okq (⟨"RoughStones", "plannedStone", "(I)LRoughStones$Stone;"⟩, 10) := ⟨⟨by decide +kernel, by decide +kernel⟩, List.mem_of_getElem? (i := 32) (by decide +kernel), List.mem_of_getElem? (i := 988) (by decide +kernel), List.mem_of_getElem? (i := 989) (by decide +kernel)⟩
theorem lw_p30 : lw_okq (⟨"RoughStones$Wheel", "measure", "(LRoughStones$Stone;I)V"⟩, 3) := ⟨⟨by decide +kernel, by decide +kernel⟩, List.mem_of_getElem? (i := 216) (by decide +kernel), List.mem_of_getElem? (i := 997) (by decide +kernel), List.mem_of_getElem? (i := 998) (by decide +kernel)⟩
theorem lw_p31 : lw_okq (⟨"RoughStones$Wheel", "shortest", "(III)I"⟩, 3) := ⟨⟨by decide +kernel, by decide +kernel⟩, List.mem_of_getElem? (i := 216) (by decide +kernel), List.mem_of_getElem? (i := 1006) (by decide +kernel), List.mem_of_getElem? (i := 1007) (by decide +kernel)⟩
def lw_privs_2 : List (MethodName × Nat) := [(⟨"RoughStones$Tape", "isEnd", "()Z"⟩, 9), (⟨"RoughStones$Tape", "readSign", "(I)Z"⟩, 9), (⟨"RoughStones$Model", "layLayer", "(LRoughStones$Tape;I)V"⟩, 5), (⟨"RoughStones$Model", "layCell", "(IIII)V"⟩, 5), (⟨"RoughStones", "forgetCuts", "()V"⟩, 10), (⟨"RoughStones$Saw", "startsInRow", "([J[JIJ)J"⟩, 4), (⟨"RoughStones", "sawnRough", "(I)LRoughStones$Rough;"⟩, 10), (⟨"RoughStones$Saw", "offerWays", "(LRoughStones$Rough;LRoughStones$Model;)V"⟩, 4), (⟨"RoughStones$Saw", "isWanted", "()Z"⟩, 4), (⟨"RoughStones$Saw", "offerTo", "(LRoughStones$Part;LRoughStones$Model;)V"⟩, 4), (⟨"RoughStones$Saw", "firstWithin", "(LRoughStones$Part;)I"⟩, 4), (⟨"RoughStones$Saw", "choose", "(LRoughStones$Rough;)V"⟩, 4), (⟨"RoughStones", "stoneOf", "(I)LRoughStones$Stone;"⟩, 10), (⟨"RoughStones", "plannedStone", "(I)LRoughStones$Stone;"⟩, 10), (⟨"RoughStones$Wheel", "measure", "(LRoughStones$Stone;I)V"⟩, 3), (⟨"RoughStones$Wheel", "shortest", "(III)I"⟩, 3)]
theorem lw_r2 : ∀ q ∈ lw_privs_2, lw_okq q := List.forall_mem_cons.mpr ⟨lw_p16, List.forall_mem_cons.mpr ⟨lw_p17, List.forall_mem_cons.mpr ⟨lw_p18, List.forall_mem_cons.mpr ⟨lw_p19, List.forall_mem_cons.mpr ⟨lw_p20, List.forall_mem_cons.mpr ⟨lw_p21, List.forall_mem_cons.mpr ⟨lw_p22, List.forall_mem_cons.mpr ⟨lw_p23, List.forall_mem_cons.mpr ⟨lw_p24, List.forall_mem_cons.mpr ⟨lw_p25, List.forall_mem_cons.mpr ⟨lw_p26, List.forall_mem_cons.mpr ⟨lw_p27, List.forall_mem_cons.mpr ⟨lw_p28, List.forall_mem_cons.mpr ⟨lw_p29, List.forall_mem_cons.mpr ⟨lw_p30, List.forall_mem_cons.mpr ⟨lw_p31, fun _ h => absurd h List.not_mem_nil⟩⟩⟩⟩⟩⟩⟩⟩⟩⟩⟩⟩⟩⟩⟩⟩
theorem lw_p32 : lw_okq (⟨"RoughStones$Wheel", "through", "(III)I"⟩, 3) := ⟨⟨by decide +kernel, by decide +kernel⟩, List.mem_of_getElem? (i := 216) (by decide +kernel), List.mem_of_getElem? (i := 1010) (by decide +kernel), List.mem_of_getElem? (i := 1011) (by decide +kernel)⟩
theorem lw_p33 : lw_okq (⟨"RoughStones$Wheel", "follow", "(LRoughStones$Stone;I)V"⟩, 3) := ⟨⟨by decide +kernel, by decide +kernel⟩, List.mem_of_getElem? (i := 216) (by decide +kernel), List.mem_of_getElem? (i := 1014) (by decide +kernel), List.mem_of_getElem? (i := 1015) (by decide +kernel)⟩
theorem lw_p34 : lw_okq (⟨"RoughStones$Wheel", "firstOfShortest", "(III)I"⟩, 3) := ⟨⟨by decide +kernel, by decide +kernel⟩, List.mem_of_getElem? (i := 216) (by decide +kernel), List.mem_of_getElem? (i := 1018) (by decide +kernel), List.mem_of_getElem? (i := 1019) (by decide +kernel)⟩
theorem lw_p35 : lw_okq (⟨"RoughStones", "stoneBits", "(II)J"⟩, 10) := ⟨⟨by decide +kernel, by decide +kernel⟩, List.mem_of_getElem? (i := 32) (by decide +kernel), List.mem_of_getElem? (i := 1059) (by decide +kernel), List.mem_of_getElem? (i := 1060) (by decide +kernel)⟩
theorem lw_p36 : lw_okq (⟨"RoughStones", "hasTaken", "(J)Z"⟩, 10) := ⟨⟨by decide +kernel, by decide +kernel⟩, List.mem_of_getElem? (i := 32) (by decide +kernel), List.mem_of_getElem? (i := 1065) (by decide +kernel), List.mem_of_getElem? (i := 1066) (by decide +kernel)⟩
theorem lw_p37 : lw_okq (⟨"RoughStones", "partsPair", "(J)Z"⟩, 10) := ⟨⟨by decide +kernel, by decide +kernel⟩, List.mem_of_getElem? (i := 32) (by decide +kernel), List.mem_of_getElem? (i := 1070) (by decide +kernel), List.mem_of_getElem? (i := 1071) (by decide +kernel)⟩
theorem lw_p38 : lw_okq (⟨"RoughStonesModel", "isRough", "(I)Z"⟩, 58) := ⟨⟨by decide +kernel, by decide +kernel⟩, List.mem_of_getElem? (i := 1104) (by decide +kernel), List.mem_of_getElem? (i := 1294) (by decide +kernel), List.mem_of_getElem? (i := 1295) (by decide +kernel)⟩
theorem lw_p39 : lw_okq (⟨"RoughStonesModel", "may", "(ZI)Z"⟩, 58) := ⟨⟨by decide +kernel, by decide +kernel⟩, List.mem_of_getElem? (i := 1104) (by decide +kernel), List.mem_of_getElem? (i := 1301) (by decide +kernel), List.mem_of_getElem? (i := 1302) (by decide +kernel)⟩
theorem lw_p40 : lw_okq (⟨"RoughStonesModel", "layer", "()V"⟩, 58) := ⟨⟨by decide +kernel, by decide +kernel⟩, List.mem_of_getElem? (i := 1104) (by decide +kernel), List.mem_of_getElem? (i := 1318) (by decide +kernel), List.mem_of_getElem? (i := 1319) (by decide +kernel)⟩
theorem lw_p41 : lw_okq (⟨"RoughStonesModel", "digit", "(II)I"⟩, 58) := ⟨⟨by decide +kernel, by decide +kernel⟩, List.mem_of_getElem? (i := 1104) (by decide +kernel), List.mem_of_getElem? (i := 1322) (by decide +kernel), List.mem_of_getElem? (i := 1323) (by decide +kernel)⟩
theorem lw_p42 : lw_okq (⟨"RoughStonesModel", "fine", "()Z"⟩, 58) := ⟨⟨by decide +kernel, by decide +kernel⟩, List.mem_of_getElem? (i := 1104) (by decide +kernel), List.mem_of_getElem? (i := 1326) (by decide +kernel), List.mem_of_getElem? (i := 1327) (by decide +kernel)⟩
theorem lw_p43 : lw_okq (⟨"RoughStonesModel", "here", "()I"⟩, 58) := ⟨⟨by decide +kernel, by decide +kernel⟩, List.mem_of_getElem? (i := 1104) (by decide +kernel), List.mem_of_getElem? (i := 1330) (by decide +kernel), List.mem_of_getElem? (i := 1331) (by decide +kernel)⟩
theorem lw_p44 : lw_okq (⟨"RoughStonesModel", "wrong", "(I)V"⟩, 58) := ⟨⟨by decide +kernel, by decide +kernel⟩, List.mem_of_getElem? (i := 1104) (by decide +kernel), List.mem_of_getElem? (i := 1334) (by decide +kernel), List.mem_of_getElem? (i := 1335) (by decide +kernel)⟩
theorem lw_p45 : lw_okq (⟨"RoughStonesModel", "need", "(I)V"⟩, 58) := ⟨⟨by decide +kernel, by decide +kernel⟩, List.mem_of_getElem? (i := 1104) (by decide +kernel), List.mem_of_getElem? (i := 1338) (by decide +kernel), List.mem_of_getElem? (i := 1339) (by decide +kernel)⟩
theorem lw_p46 : lw_okq (⟨"RoughStonesModel", "isMore", "()Z"⟩, 58) := ⟨⟨by decide +kernel, by decide +kernel⟩, List.mem_of_getElem? (i := 1104) (by decide +kernel), List.mem_of_getElem? (i := 1342) (by decide +kernel), List.mem_of_getElem? (i := 1343) (by decide +kernel)⟩
theorem lw_p47 : lw_okq (⟨"RoughStonesModel", "worthOf", "(I)I"⟩, 58) := ⟨⟨by decide +kernel, by decide +kernel⟩, List.mem_of_getElem? (i := 1104) (by decide +kernel), List.mem_of_getElem? (i := 1354) (by decide +kernel), List.mem_of_getElem? (i := 1355) (by decide +kernel)⟩
def lw_privs_3 : List (MethodName × Nat) := [(⟨"RoughStones$Wheel", "through", "(III)I"⟩, 3), (⟨"RoughStones$Wheel", "follow", "(LRoughStones$Stone;I)V"⟩, 3), (⟨"RoughStones$Wheel", "firstOfShortest", "(III)I"⟩, 3), (⟨"RoughStones", "stoneBits", "(II)J"⟩, 10), (⟨"RoughStones", "hasTaken", "(J)Z"⟩, 10), (⟨"RoughStones", "partsPair", "(J)Z"⟩, 10), (⟨"RoughStonesModel", "isRough", "(I)Z"⟩, 58), (⟨"RoughStonesModel", "may", "(ZI)Z"⟩, 58), (⟨"RoughStonesModel", "layer", "()V"⟩, 58), (⟨"RoughStonesModel", "digit", "(II)I"⟩, 58), (⟨"RoughStonesModel", "fine", "()Z"⟩, 58), (⟨"RoughStonesModel", "here", "()I"⟩, 58), (⟨"RoughStonesModel", "wrong", "(I)V"⟩, 58), (⟨"RoughStonesModel", "need", "(I)V"⟩, 58), (⟨"RoughStonesModel", "isMore", "()Z"⟩, 58), (⟨"RoughStonesModel", "worthOf", "(I)I"⟩, 58)]
theorem lw_r3 : ∀ q ∈ lw_privs_3, lw_okq q := List.forall_mem_cons.mpr ⟨lw_p32, List.forall_mem_cons.mpr ⟨lw_p33, List.forall_mem_cons.mpr ⟨lw_p34, List.forall_mem_cons.mpr ⟨lw_p35, List.forall_mem_cons.mpr ⟨lw_p36, List.forall_mem_cons.mpr ⟨lw_p37, List.forall_mem_cons.mpr ⟨lw_p38, List.forall_mem_cons.mpr ⟨lw_p39, List.forall_mem_cons.mpr ⟨lw_p40, List.forall_mem_cons.mpr ⟨lw_p41, List.forall_mem_cons.mpr ⟨lw_p42, List.forall_mem_cons.mpr ⟨lw_p43, List.forall_mem_cons.mpr ⟨lw_p44, List.forall_mem_cons.mpr ⟨lw_p45, List.forall_mem_cons.mpr ⟨lw_p46, List.forall_mem_cons.mpr ⟨lw_p47, fun _ h => absurd h List.not_mem_nil⟩⟩⟩⟩⟩⟩⟩⟩⟩⟩⟩⟩⟩⟩⟩⟩
theorem lw_p48 : lw_okq (⟨"RoughStonesModel", "isModel", "(I)Z"⟩, 58) := ⟨⟨by decide +kernel, by decide +kernel⟩, List.mem_of_getElem? (i := 1104) (by decide +kernel), List.mem_of_getElem? (i := 1362) (by decide +kernel), List.mem_of_getElem? (i := 1363) (by decide +kernel)⟩
theorem lw_p49 : lw_okq (⟨"RoughStonesModel", "setPart", "(IIII)V"⟩, 58) := ⟨⟨by decide +kernel, by decide +kernel⟩, List.mem_of_getElem? (i := 1104) (by decide +kernel), List.mem_of_getElem? (i := 1366) (by decide +kernel), List.mem_of_getElem? (i := 1367) (by decide +kernel)⟩
theorem lw_p50 : lw_okq (⟨"RoughStonesModel", "isFitting", "(III)Z"⟩, 58) := ⟨⟨by decide +kernel, by decide +kernel⟩, List.mem_of_getElem? (i := 1104) (by decide +kernel), List.mem_of_getElem? (i := 1370) (by decide +kernel), List.mem_of_getElem? (i := 1371) (by decide +kernel)⟩
theorem lw_p51 : lw_okq (⟨"RoughStonesModel", "laid", "(III)I"⟩, 58) := ⟨⟨by decide +kernel, by decide +kernel⟩, List.mem_of_getElem? (i := 1104) (by decide +kernel), List.mem_of_getElem? (i := 1374) (by decide +kernel), List.mem_of_getElem? (i := 1375) (by decide +kernel)⟩
theorem lw_p52 : lw_okq (⟨"RoughStonesModel", "isThere", "(IIIIII)Z"⟩, 58) := ⟨⟨by decide +kernel, by decide +kernel⟩, List.mem_of_getElem? (i := 1104) (by decide +kernel), List.mem_of_getElem? (i := 1378) (by decide +kernel), List.mem_of_getElem? (i := 1379) (by decide +kernel)⟩
theorem lw_p53 : lw_okq (⟨"RoughStonesModel", "findBest", "(I)V"⟩, 58) := ⟨⟨by decide +kernel, by decide +kernel⟩, List.mem_of_getElem? (i := 1104) (by decide +kernel), List.mem_of_getElem? (i := 1386) (by decide +kernel), List.mem_of_getElem? (i := 1387) (by decide +kernel)⟩
theorem lw_p54 : lw_okq (⟨"RoughStonesModel", "findCut", "()I"⟩, 58) := ⟨⟨by decide +kernel, by decide +kernel⟩, List.mem_of_getElem? (i := 1104) (by decide +kernel), List.mem_of_getElem? (i := 1390) (by decide +kernel), List.mem_of_getElem? (i := 1391) (by decide +kernel)⟩
theorem lw_p55 : lw_okq (⟨"RoughStonesModel", "keepCut", "([I)V"⟩, 58) := ⟨⟨by decide +kernel, by decide +kernel⟩, List.mem_of_getElem? (i := 1104) (by decide +kernel), List.mem_of_getElem? (i := 1394) (by decide +kernel), List.mem_of_getElem? (i := 1395) (by decide +kernel)⟩
theorem lw_p56 : lw_okq (⟨"RoughStonesModel", "isStone", "(I)Z"⟩, 58) := ⟨⟨by decide +kernel, by decide +kernel⟩, List.mem_of_getElem? (i := 1104) (by decide +kernel), List.mem_of_getElem? (i := 1414) (by decide +kernel), List.mem_of_getElem? (i := 1415) (by decide +kernel)⟩
theorem lw_p57 : lw_okq (⟨"RoughStonesModel", "findPlan", "(I)I"⟩, 58) := ⟨⟨by decide +kernel, by decide +kernel⟩, List.mem_of_getElem? (i := 1104) (by decide +kernel), List.mem_of_getElem? (i := 1422) (by decide +kernel), List.mem_of_getElem? (i := 1423) (by decide +kernel)⟩
theorem lw_p58 : lw_okq (⟨"RoughStonesModel", "between", "(III)I"⟩, 58) := ⟨⟨by decide +kernel, by decide +kernel⟩, List.mem_of_getElem? (i := 1104) (by decide +kernel), List.mem_of_getElem? (i := 1427) (by decide +kernel), List.mem_of_getElem? (i := 1428) (by decide +kernel)⟩
theorem lw_p59 : lw_okq (⟨"RoughStonesModel", "first", "(II)I"⟩, 58) := ⟨⟨by decide +kernel, by decide +kernel⟩, List.mem_of_getElem? (i := 1104) (by decide +kernel), List.mem_of_getElem? (i := 1437) (by decide +kernel), List.mem_of_getElem? (i := 1438) (by decide +kernel)⟩
theorem lw_p60 : lw_okq (⟨"RoughStonesModel", "tryPairs", "(III)V"⟩, 58) := ⟨⟨by decide +kernel, by decide +kernel⟩, List.mem_of_getElem? (i := 1104) (by decide +kernel), List.mem_of_getElem? (i := 1457) (by decide +kernel), List.mem_of_getElem? (i := 1458) (by decide +kernel)⟩
theorem lw_p61 : lw_okq (⟨"RoughStonesModel", "isAhead", "()Z"⟩, 58) := ⟨⟨by decide +kernel, by decide +kernel⟩, List.mem_of_getElem? (i := 1104) (by decide +kernel), List.mem_of_getElem? (i := 1461) (by decide +kernel), List.mem_of_getElem? (i := 1462) (by decide +kernel)⟩
theorem lw_p62 : lw_okq (⟨"RoughStonesModel", "isPair", "(II)Z"⟩, 58) := ⟨⟨by decide +kernel, by decide +kernel⟩, List.mem_of_getElem? (i := 1104) (by decide +kernel), List.mem_of_getElem? (i := 1465) (by decide +kernel), List.mem_of_getElem? (i := 1466) (by decide +kernel)⟩
def lw_privs_4 : List (MethodName × Nat) := [(⟨"RoughStonesModel", "isModel", "(I)Z"⟩, 58), (⟨"RoughStonesModel", "setPart", "(IIII)V"⟩, 58), (⟨"RoughStonesModel", "isFitting", "(III)Z"⟩, 58), (⟨"RoughStonesModel", "laid", "(III)I"⟩, 58), (⟨"RoughStonesModel", "isThere", "(IIIIII)Z"⟩, 58), (⟨"RoughStonesModel", "findBest", "(I)V"⟩, 58), (⟨"RoughStonesModel", "findCut", "()I"⟩, 58), (⟨"RoughStonesModel", "keepCut", "([I)V"⟩, 58), (⟨"RoughStonesModel", "isStone", "(I)Z"⟩, 58), (⟨"RoughStonesModel", "findPlan", "(I)I"⟩, 58), (⟨"RoughStonesModel", "between", "(III)I"⟩, 58), (⟨"RoughStonesModel", "first", "(II)I"⟩, 58), (⟨"RoughStonesModel", "tryPairs", "(III)V"⟩, 58), (⟨"RoughStonesModel", "isAhead", "()Z"⟩, 58), (⟨"RoughStonesModel", "isPair", "(II)Z"⟩, 58)]
theorem lw_r4 : ∀ q ∈ lw_privs_4, lw_okq q := List.forall_mem_cons.mpr ⟨lw_p48, List.forall_mem_cons.mpr ⟨lw_p49, List.forall_mem_cons.mpr ⟨lw_p50, List.forall_mem_cons.mpr ⟨lw_p51, List.forall_mem_cons.mpr ⟨lw_p52, List.forall_mem_cons.mpr ⟨lw_p53, List.forall_mem_cons.mpr ⟨lw_p54, List.forall_mem_cons.mpr ⟨lw_p55, List.forall_mem_cons.mpr ⟨lw_p56, List.forall_mem_cons.mpr ⟨lw_p57, List.forall_mem_cons.mpr ⟨lw_p58, List.forall_mem_cons.mpr ⟨lw_p59, List.forall_mem_cons.mpr ⟨lw_p60, List.forall_mem_cons.mpr ⟨lw_p61, List.forall_mem_cons.mpr ⟨lw_p62, fun _ h => absurd h List.not_mem_nil⟩⟩⟩⟩⟩⟩⟩⟩⟩⟩⟩⟩⟩⟩⟩
def lw_privs : List (MethodName × Nat) := lw_privs_1 ++ (lw_privs_2 ++ (lw_privs_3 ++ (lw_privs_4)))
def lw_tbl : List Cond := k2_sels lw_privs ++ tables_1
theorem lw_privs_ok : ∀ q ∈ lw_privs, lw_okq q := by
  show ∀ q ∈ lw_privs_1 ++ (lw_privs_2 ++ (lw_privs_3 ++ (lw_privs_4))), lw_okq q
  exact List.forall_mem_append.mpr ⟨lw_r1, List.forall_mem_append.mpr ⟨lw_r2, List.forall_mem_append.mpr ⟨lw_r3, lw_r4⟩⟩⟩
end
section
/-- an array over arrays of a type: the word of the tables -/
def va_AOA (ty : FieldType) (U : State) : Prop := (Cond.arrayOver (.array ty)).before #[] U = true
theorem va_AOA.use {ty : FieldType} {A : Array Value} {U : State} (h : va_AOA ty U) : (Cond.arrayOver (.array ty)).before A U = true := h
/-! ===== BEGIN words of one list among another's, by their places ===== -/
theorem goodIn_r {big : List Cond} (ws : List Cond) (ps : List Nat) (hp : ws = ps.filterMap (fun i => big[i]?)) (h : ws.all goodWord = true) : GoodIn big ws := by
  intro w hw
  have h1 := List.all_eq_true.mp h w hw
  rw [hp] at hw
  obtain ⟨i, -, hi⟩ := List.mem_filterMap.mp hw
  have hm : w ∈ big := by first | exact List.mem_of_getElem? hi | exact List.getElem?_mem hi
  exact ⟨hm, good_of_word h1⟩
theorem goodIn_app {big a b : List Cond} (ha : GoodIn big a) (hb : GoodIn big b) : GoodIn big (a ++ b) := fun w h => (List.mem_append.mp h).elim (ha w) (hb w)
theorem goodIn_ca {big a b : List Cond} {c : Cond} (ha : GoodIn big (c :: a)) (hb : GoodIn big b) : GoodIn big (c :: (a ++ b)) := fun w h => (List.mem_cons.mp h).elim (fun e => ha w (List.mem_cons.mpr (Or.inl e))) (fun h => (List.mem_append.mp h).elim (fun h => ha w (List.mem_cons.mpr (Or.inr h))) (hb w))
theorem goodIn_sub {big ws : List Cond} (hm : ∀ w ∈ ws, w ∈ big) (h : ws.all goodWord = true) : GoodIn big ws := fun w hw => ⟨hm w hw, good_of_word (List.all_eq_true.mp h w hw)⟩
/-! ===== END ===== -/

/-! ===== BEGIN new T[n][m]: the outer array a place, the inner ones among the pooled ===== -/
/-- f, but v at every address of l -/
def vr_up {α : Type} (f : Nat → α) (l : List Nat) (v : α) : Nat → α := fun a => if a ∈ l then v else f a
theorem vr_up_in {α : Type} {f : Nat → α} {l : List Nat} {v : α} {a : Nat} (h : a ∈ l) : vr_up f l v a = v := if_pos h
theorem vr_up_ne {α : Type} {f : Nat → α} {l : List Nat} {v : α} {a : Nat} (h : a ∉ l) : vr_up f l v a = f a := if_neg h
theorem vr_rows {L l : List Nat} {f : Nat → va_E} {e : va_E} (h : ∀ a, a ∈ l → a ∉ L) : va_pl L f ++ l.map (fun a => (a, e)) = va_pl (L ++ l) (vr_up f l e) := by
  unfold va_pl
  rw [List.map_append]
  congr 1
  · apply List.map_congr_left
    intro a ha
    rw [vr_up_ne (fun q => h a q ha)]
  · apply List.map_congr_left
    intro a ha
    rw [vr_up_in ha]
theorem vr_lay {X rows : va_W} {x : Nat × va_E} {pl : va_W} {D : va_G} {cl : List vw_C} {H : Heap} (hP : va_P D cl (((X ++ pl) ++ [x]) ++ rows) H) : va_P D cl ((X ++ [x]) ++ (pl ++ rows)) H := by
  rw [List.append_assoc (X ++ pl)] at hP
  have h := va_P.swap hP
  rw [← List.append_assoc X] at h
  have h2 := va_P.swap h
  rw [List.append_assoc (X ++ [x])] at h2
  exact h2
theorem vr_layD {X rows : va_W} {x : Nat × va_E} {pl : va_W} {A : Nat → Prop} (hD : va_D A (((X ++ pl) ++ [x]) ++ rows)) : va_D A ((X ++ [x]) ++ (pl ++ rows)) := by
  rw [List.append_assoc (X ++ pl)] at hD
  have h := va_D.swap hD
  rw [← List.append_assoc X] at h
  have h2 := va_D.swap h
  rw [List.append_assoc (X ++ [x])] at h2
  exact h2
theorem vr_outer (c : ClassId) (N h0 : Nat) : ∀ i : Nat, Jvm.Free.Multi.outerC c N h0 i = arrV c N (fun j => va_rf (if j < i then some (h0 + 1 + j) else none))
  | 0 => by
    show ({ cls := c, slots := Array.replicate N .null, vm := .none } : Cell) = _
    rw [arrV_new]
    refine congrArg (arrV c N) (funext fun j => ?_)
    simp [va_rf]
  | i + 1 => by
    show (Jvm.Free.Multi.outerC c N h0 i).setSlot i (.ref (h0 + 1 + i)) = _
    rw [vr_outer c N h0 i, arrV_store]
    refine congrArg (arrV c N) (funext fun j => ?_)
    by_cases e : j = i
    · subst e
      simp [updV, va_rf]
    · by_cases h : j < i
      · simp [updV, e, h, Nat.lt_succ_of_lt h]
      · simp [updV, e, h, show ¬ j < i + 1 by omega]
section VGM
variable {p : Program} {l : Launch} {e : Env} {R : Room} {s : State} {m : MethodId} {args : Array Value} {below : List Frame} {meth : Method} {c : Code} {H : Heap} {locs : List Loc} {cells slots : Nat} {Q : State → Prop}
variable {cc : ByteArray} {pc : Nat} {ls : Array Slot} {rest : List Value} {D : va_G} {cl : List vw_C} {A : Nat → Prop} {a : Nat} {tys : List (ClassId × FieldType)} {ws : va_W} {H0 : Heap}
theorem va_mna {X : va_W} {L : List Nat} {f : Nat → va_E} {cc : ByteArray} (hexec : p.tables.exec = Jvm.exec) (hb : c.code = cc) {own : String} {index : Nat} {ty : FieldType} {cy : ClassId} (hown : s.vm.findClass own = some m.cls) (hclink : (Cond.classLink own index ("[" ++ (FieldType.array ty).toString)).before args s = true) (hover : va_AOA ty s) (harr : (Cond.arrayClass ty).before args s = true) (hcy : s.vm.findClass (FieldType.array ty).toString = some cy)
    (hK : va_K D cl tys s) (hP : va_P D cl (X ++ va_pl L f) H) (hD : va_D A (X ++ va_pl L f)) (hS : va_S A H0 H locs) (hA : ∀ q, H0.size ≤ q → A q) {n k : Int32} {N' K' : Nat} {z : vp_A} (hn : ¬ n < 0) (hk : ¬ k < 0) (hN : n.toNatClampNeg = N') (hM : k.toNatClampNeg = K')
    (hb1 : N' * 4 ≤ 536870912) (hb2 : K' * componentBytes ty ≤ 536870912) (hb3 : K' ≤ 536870912) (hdf : fits ty (defaultValue ty) = true) (hdd : (defaultValue ty).isDefault = true) (hcells : cells + (1 + N') ≤ R.cells) (hslots : slots + (N' + N' * K') ≤ R.slots) (hz : ∀ c : ClassId, Jvm.Free.Multi.innerC c K' (defaultValue ty) = vp_cell c z) (hdg : decode cc pc = .ok (.multianewarray index 2, 4))
    (kk : ∀ (q : Nat) (r : Nat → Nat) (cA : ClassId) (H1 : Heap), (∀ i j : Nat, i < N' → j < N' → r i = r j → i = j) → (∀ i : Nat, i < N' → r i ∉ L) → va_K D cl (tys ++ [(cA, .array ty)]) s →
      va_P D cl ((X ++ [(q, .inl (cA, N', .inr (.inr (.inr (.inr (fun i => if i < N' then some (r i) else none))))))]) ++ va_pl (L ++ (List.range N').map r) (vr_up f ((List.range N').map r) (.inl (cy, z)))) H1 → va_D A ((X ++ [(q, .inl (cA, N', .inr (.inr (.inr (.inr (fun i => if i < N' then some (r i) else none))))))]) ++ va_pl (L ++ (List.range N').map r) (vr_up f ((List.range N').map r) (.inl (cy, z)))) → va_S A H0 H1 locs →
      W p l e R s m args below meth c H1 locs (cells + 1 + N') (slots + N' + N' * K') Q (F0 m (pc + 4) ls (.ref q :: rest))) : W p l e R s m args below meth c H locs cells slots Q (F0 m pc ls (.int k :: .int n :: rest)) := by
  subst hN
  subst hM
  intro T hT Xs
  obtain ⟨vm₁, cA, comp, -, fA, fC, hO, -, X', step⟩ := Xs.multianewarray2F hexec hown hclink (va_AOA.use hover) harr (g := F0 m pc ls (.int k :: .int n :: rest)) rfl (by rw [hb]; exact hdg) rfl hn hk hb1 hb2 hb3 hdf hdd hcells hslots
  have ec : some cy = some comp := hcy.symm.trans fC
  cases ec
  generalize hF : Jvm.Free.Multi.fill (T.setVm vm₁) cA cy n.toNatClampNeg k.toNatClampNeg (defaultValue ty) n.toNatClampNeg = F at X' step
  have hTh : (T.setVm vm₁).heap = H := hT
  obtain ⟨f1, f2, -, -⟩ := Jvm.Free.Multi.fill_facts (T.setVm vm₁) cA cy n.toNatClampNeg k.toNatClampNeg (defaultValue ty) n.toNatClampNeg
  rw [hF, hTh] at f1 f2
  have hold : ∀ x : Nat, x < H.size → F.heap[x]? = H[x]? := fun x hx => by
    have := Jvm.Free.Multi.fill_old (T.setVm vm₁) cA cy n.toNatClampNeg k.toNatClampNeg (defaultValue ty) (a := x) (by rw [hTh]; exact hx) n.toNatClampNeg
    rw [hF, hTh] at this
    exact this
  have hrow : ∀ j : Nat, j < n.toNatClampNeg → F.heap[H.size + 1 + j]? = some (vp_cell cy z) := fun j hj => by
    have := Jvm.Free.Multi.fill_inner (T.setVm vm₁) cA cy n.toNatClampNeg k.toNatClampNeg (defaultValue ty) n.toNatClampNeg j hj
    rw [hF, hTh, hz] at this
    exact this
  have hout : Jvm.Free.Multi.outerC cA n.toNatClampNeg H.size n.toNatClampNeg = vp_cell cA (n.toNatClampNeg, .inr (.inr (.inr (.inr (fun i => if i < n.toNatClampNeg then some (H.size + 1 + i) else none))))) := by
    rw [vp_cell_q]
    exact vr_outer cA n.toNatClampNeg H.size n.toNatClampNeg
  rw [hout] at f2
  have hlt : ∀ a, a ∈ L → a < H.size := fun a ha => by
    obtain ⟨k9, hk9⟩ := va_pl_get (X := X) (f := f) ha
    exact (hP k9 _ hk9).lt
  have hnl : ∀ i : Nat, i < n.toNatClampNeg → H.size + 1 + i ∉ L := fun i _ h => by
    have := hlt _ h
    omega
  have hnm : ∀ a, a ∈ (List.range n.toNatClampNeg).map (fun i => H.size + 1 + i) → a ∉ L := fun a ha h => by
    obtain ⟨i, -, rfl⟩ := List.mem_map.mp ha
    have := hlt _ h
    omega
  have hP0 : va_P D cl (X ++ va_pl L f) F.heap := hP.kept (fun k9 x hx => hold x.1 ((hP k9 x hx).lt))
  have hP1 : va_P D cl ((X ++ va_pl L f) ++ [(H.size, .inl (cA, n.toNatClampNeg, .inr (.inr (.inr (.inr (fun i => if i < n.toNatClampNeg then some (H.size + 1 + i) else none))))))]) F.heap := hP0.app (fun k9 x hx => by
    have h0 : k9 < 1 := (List.getElem?_eq_some_iff.mp hx).1
    rw [show k9 = 0 by omega] at hx
    cases hx
    exact f2)
  have hP2 : va_P D cl (((X ++ va_pl L f) ++ [(H.size, .inl (cA, n.toNatClampNeg, .inr (.inr (.inr (.inr (fun i => if i < n.toNatClampNeg then some (H.size + 1 + i) else none))))))]) ++ ((List.range n.toNatClampNeg).map (fun i => H.size + 1 + i)).map (fun a => (a, .inl (cy, z)))) F.heap := hP1.app (fun k9 x hx => by
    obtain ⟨a, ha, rfl⟩ := List.mem_map.mp (List.mem_of_getElem? hx)
    obtain ⟨i, hi, rfl⟩ := List.mem_map.mp ha
    exact hrow i (List.mem_range.mp hi))
  have hD2 : va_D A (((X ++ va_pl L f) ++ [(H.size, .inl (cA, n.toNatClampNeg, .inr (.inr (.inr (.inr (fun i => if i < n.toNatClampNeg then some (H.size + 1 + i) else none))))))]) ++ ((List.range n.toNatClampNeg).map (fun i => H.size + 1 + i)).map (fun a => (a, .inl (cy, z)))) := by
    have hD1 := hD.push (e := .inl (cA, n.toNatClampNeg, .inr (.inr (.inr (.inr (fun i => if i < n.toNatClampNeg then some (H.size + 1 + i) else none)))))) hP rfl (hA _ hS.1)
    generalize hW1 : (X ++ va_pl L f) ++ [(H.size, .inl (cA, n.toNatClampNeg, .inr (.inr (.inr (.inr (fun i => if i < n.toNatClampNeg then some (H.size + 1 + i) else none))))))] = W1 at hD1 hP1 ⊢
    have hle : ∀ (k9 : Nat) (x : Nat × va_E), W1[k9]? = some x → x.1 ≤ H.size := fun k9 x hx => by
      rw [← hW1] at hx
      by_cases hl : k9 < (X ++ va_pl L f).length
      · rw [List.getElem?_append_left hl] at hx
        exact Nat.le_of_lt ((hP k9 x hx).lt)
      · rw [List.getElem?_append_right (by omega)] at hx
        have h0 : k9 - (X ++ va_pl L f).length < 1 := (List.getElem?_eq_some_iff.mp hx).1
        rw [show k9 - (X ++ va_pl L f).length = 0 by omega] at hx
        cases hx
        exact Nat.le_refl _
    have hr : ∀ (k9 : Nat) (x : Nat × va_E), (((List.range n.toNatClampNeg).map (fun i => H.size + 1 + i)).map (fun a => ((a, .inl (cy, z)) : Nat × va_E)))[k9]? = some x → x.1 = H.size + 1 + k9 := fun k9 x hx => by
      rw [List.getElem?_map, List.getElem?_map] at hx
      by_cases h9 : k9 < n.toNatClampNeg
      · rw [List.getElem?_range h9] at hx
        cases hx
        rfl
      · have hn0 : (List.range n.toNatClampNeg)[k9]? = none := List.getElem?_eq_none (by rw [List.length_range]; omega)
        rw [hn0] at hx
        cases hx
    refine ⟨fun i j x y hi hj hxy => ?_, fun k9 x hx => ?_⟩
    · by_cases h1 : i < W1.length <;> by_cases h2 : j < W1.length
      · rw [List.getElem?_append_left h1] at hi
        rw [List.getElem?_append_left h2] at hj
        exact hD1.1 i j x y hi hj hxy
      · rw [List.getElem?_append_left h1] at hi
        rw [List.getElem?_append_right (by omega)] at hj
        have := hle _ _ hi
        have := hr _ _ hj
        omega
      · rw [List.getElem?_append_right (by omega)] at hi
        rw [List.getElem?_append_left h2] at hj
        have := hle _ _ hj
        have := hr _ _ hi
        omega
      · rw [List.getElem?_append_right (by omega)] at hi hj
        have := hr _ _ hi
        have := hr _ _ hj
        omega
    · by_cases h1 : k9 < W1.length
      · rw [List.getElem?_append_left h1] at hx
        exact hD1.2 k9 x hx
      · rw [List.getElem?_append_right (by omega)] at hx
        have := hr _ _ hx
        exact hA _ (by have := hS.1; omega)
  have hAr : ArrOfT s cA (.array ty) := fun N9 z9 => by
    obtain ⟨-, k9, hk9, cm9, hkk9⟩ := (hO 0 0 0).1
    exact ⟨(fun q hq => by cases hq), k9, hk9, cm9, hkk9⟩
  have hK2 : va_K D cl (tys ++ [(cA, .array ty)]) s := ⟨hK.1, fun k9 x hx => by
    by_cases hl : k9 < tys.length
    · rw [List.getElem?_append_left hl] at hx
      exact hK.2 k9 x hx
    · rw [List.getElem?_append_right (by omega)] at hx
      have h0 : k9 - tys.length < 1 := (List.getElem?_eq_some_iff.mp hx).1
      rw [show k9 - tys.length = 0 by omega] at hx
      cases hx
      exact ⟨hAr, fA⟩⟩
  obtain ⟨t, a1, b1⟩ := kk H.size (fun i => H.size + 1 + i) cA F.heap (fun i j _ _ h => by have h9 : H.size + 1 + i = H.size + 1 + j := h; omega) hnl hK2 (by rw [← vr_rows hnm]; exact vr_lay hP2) (by rw [← vr_rows hnm]; exact vr_layD hD2) ⟨by rw [f1]; have := hS.1; omega, fun x h1 h2 => (hold x (Nat.lt_of_lt_of_le h1 hS.1)).trans (hS.2.1 x h1 h2), hS.2.2⟩ F rfl X'
  refine ⟨t, step t ?_, b1⟩
  have e : T.heap.size = H.size := by rw [hT]
  rw [e]
  exact a1
end VGM
/-! ===== END ===== -/

/-! ===== BEGIN exceptions that leave a method, and their catching by the caller (launches without stack traces) ===== -/
section VXA
/-! The laws vx_back, vx_callV, vx_callS, vx_callSW, vx_throw0, vx_throwS follow proofs of the library, with one case more: JvmDerived/Free/Laws.lean (Back.of_free), Shelf42/LK1.lean (callV, callS), Shelf/KitTraced.lean (throwNew0V, throwNewS). -/
/-- where a method has thrown q: the class by its name, the cell, what was written, the world -/
def vx_T (XC : String → State → State → Prop) (st : State) (q : Addr) (t : State) (mc ms : Nat) (free : Addr → Prop) : Prop :=
  ∃ (E : String) (ce : Cell) (L : List Loc), XC E st t ∧ t.heap[q]? = some ce ∧ ce.vm = .none ∧ st.vm.findClass E = some ce.cls ∧ st.WarmedH t.vm ∧ st.sameButNew ({ t with vm := st.vm } : State) L mc ms ∧ ∀ z ∈ L, free z.base
def vx_Q (Qc : Array Value → State → Outcome → State → Prop) (XC : String → State → State → Prop) (mc ms : Nat) (free : Addr → Prop) : Array Value → State → Outcome → State → Prop := fun a st o t =>
  (Qc a st o t ∧ ∃ L, FrameEnd st o t L mc ms ∧ ∀ q ∈ L, free q.base) ∨ ∃ q, o = .threw q ∧ vx_T XC st q t mc ms free
/-- a callee that returns or throws -/
def vx_Met (l : Launch) (y : MethodName) (ws : List Cond) (rm : Room) (Pc : Array Value → State → Prop) (Qc : Array Value → State → Outcome → State → Prop) (XC : String → State → State → Prop) (mc ms : Nat) (free : Addr → Prop) : Prop :=
  MetFree l y (headSpec ws rm) Pc (fun _ _ _ _ _ => True) (vx_Q Qc XC mc ms free)
def vx_Post (XC : String → State → State → Prop) (mc ms : Nat) (free : Addr → Prop) : Pt → Array Value → Addr → Pt → Prop := fun A a q B =>
  ∃ (g : JFrame) (mk : MethodId) (t : State) (L : List Loc) (E : String) (ce : Cell), B.U.heap = t.heap ∧ B.U.vm = t.vm ∧ XC E (A.U.calling g mk a) t ∧ t.heap[q]? = some ce ∧ ce.vm = .none ∧ A.U.vm.findClass E = some ce.cls ∧ B.locs = A.locs ++ L ∧ (∀ z ∈ L, free z.base) ∧ B.cells = A.cells + mc ∧ B.slots = A.slots + ms
def vx_Back (l : Launch) (R : Room) (p : Program) (e : Env) (below : List Frame) (s : State) (sargs : Array Value) (y : MethodName) (len W9 : Nat)
    (Pre : Pt → Array Value → Prop) (Post : Pt → Array Value → Option Value → Pt → Prop) (PostX : Pt → Array Value → Addr → Pt → Prop) : Prop :=
  ∀ (m : MethodId) (meth : Method) (c : Code) (A : Pt) (g : JFrame) (ig : Instr) (mk : MethodId) (a : Array Value),
    Stand p l e R s m sargs below meth c A.U A.locs A.cells A.slots → g.method = m → g.locals.size = c.maxLocals → decode c.code g.pc = .ok (ig, len) →
    2 * g.monitorRoom + (g.stack.map fun v => v.category).sum ≤ W9 → A.U.methodNamed? y = some mk → Pre A a →
    (∃ (v : Option Value) (B : Pt), Stand p l e R s m sargs below meth c B.U B.locs B.cells B.slots ∧ Post A a v B ∧
      Steps p.tables e below (doInvoke e (A.U.setTop g) [] mk a).1 (B.U.setTop { g with pc := g.pc + len, stack := v.toList ++ g.stack })) ∨
    (∃ (q : Addr) (B : Pt), Stand p l e R s m sargs below meth c B.U B.locs B.cells B.slots ∧ PostX A a q B ∧
      Steps p.tables e below (doInvoke e (A.U.setTop g) [] mk a).1 ((B.U.setTop g).pushFrame (.throwing q)))
section Payer
variable {l : Launch} {R : Room} {p : Program} {e : Env} {below : List Frame} {s : State} {sargs : Array Value} {y : MethodName} {len W9 : Nat}
theorem vx_back {ws : List Cond} {rm : Room} {Pc : Array Value → State → Prop} {Qc : Array Value → State → Outcome → State → Prop} {XC : String → State → State → Prop} {mc ms : Nat} {free : Addr → Prop} {bytes : ByteArray} {maxL : Nat} {ret : Option FieldType}
    (hM : vx_Met l y ws rm Pc Qc XC mc ms free) (hblind : FrameBlind Pc) (hrc : rm.cells = mc) (hrs : rm.slots = ms)
    (hframes : rm.frames + 1 ≤ R.frames) (hlocals : W9 + (maxL + 11) + rm.locals ≤ R.locals)
    (hws : ∀ w ∈ ws, ∀ a' U, s.WarmedH U.vm → w.before a' U = true) (hcode : Cond.code y bytes maxL ret ∈ ws) (hinit : ∀ a' U, s.WarmedH U.vm → (Cond.initialized y.cls).before a' U = true) :
    vx_Back l R p e below s sargs y len W9 (PreOf R mc ms Pc) (PostOf Qc mc ms free) (vx_Post XC mc ms free) := by
  intro m meth c A g ig mk a X hg hsize hdg hW hn hp
  have h1 : (headSpec ws rm).pre.before a A.U = true := atoms_intro fun w hw => hws w hw _ _ X.warmed
  have h2 : (Cond.code y bytes maxL ret).before a A.U = true := hws _ hcode _ _ X.warmed
  have h3 : (Cond.initialized y.cls).before a A.U = true := hinit _ _ X.warmed
  have h4 : A.cells + (headSpec ws rm).room.cells ≤ R.cells := by rw [show (headSpec ws rm).room.cells = mc from hrc]; exact hp.1
  have h5 : A.slots + (headSpec ws rm).room.slots ≤ R.slots := by rw [show (headSpec ws rm).room.slots = ms from hrs]; exact hp.2.1
  have hPc : Pc a (A.U.calling g mk a) := hblind _ _ _ _ hp.2.2
  obtain ⟨U, Ls, c0, s0⟩ := A
  dsimp only [Pt.U, Pt.locs, Pt.cells, Pt.slots] at h1 h2 h3 h4 h5 X hn hPc ⊢
  obtain ⟨methY, cY, hmY, hcY, -, hlY, -, -, -, -⟩ := Cond.code_spec hn h2
  obtain ⟨kY, hkY, -⟩ := className_of_methodNamed hn
  have hinitY : kY.init = .initialized := Cond.initialized_spec (findClass_of_methodNamed hn) hkY h3
  have h : At U g.method c below := by rw [hg]; exact X.here
  have hlocals9 : W9 + (maxL + 11) + (headSpec ws rm).room.locals ≤ R.locals := hlocals
  have happ : (headSpec ws rm).appliesLoose y e.platform (U.calling g mk a) = true :=
    Spec.appliesLoose_calling (g := g) h hdg hn hkY hinitY
      (X.room_calling (g := g) (R' := (headSpec ws rm).room) hsize hmY hcY hframes (by rw [hlY]; omega) h4 h5) h1
  obtain ⟨mid, hmid⟩ := h.above
  have hfr : (U.setTop g).frames = (.java g :: mid) ++ below := by rw [State.frames_setTop' g h.top, hmid]; rfl
  obtain ⟨o, s₂, hsteps, -, hend, hq⟩ := Steps.callFree hM p X.admits X.cas X.clock (acts := []) hfr happ hPc trivial
  have hq' : vx_Q Qc XC mc ms free a (U.calling g mk a) o s₂ := hq
  rw [State.frames_setTop' g h.top] at hend
  obtain ⟨g₀, hg0⟩ := Option.isSome_iff_exists.mp h.top
  obtain ⟨r, hr⟩ := State.topJava?_eq_some.mp hg0
  have hr' : (({ U with heap := s₂.heap, slotsUsed := s₂.slotsUsed } : State).setVm s₂.vm).frames = .java g₀ :: r := hr
  rcases hq' with ⟨hqc, L, hfe, hL⟩ | ⟨q, rfl, E, ce, L, hx, hce, hcv, hcl, hW₂, hsm, hL⟩
  · obtain ⟨⟨v, rfl⟩, hW₂, e2, q2, q3, q4, q5, q6⟩ := id hfe
    have e3 : s₂ = ({ (U.calling g mk a).setFrames s₂.frames with heap := s₂.heap, slotsUsed := s₂.slotsUsed } : State).setVm s₂.vm := by
      have : s₂ = ({ s₂ with vm := (U.calling g mk a).vm } : State).setVm s₂.vm := rfl
      rw [e2] at this
      exact this
    obtain ⟨c₂, i₂, len₂, hc₂, hd₂, hf₂⟩ := hend
    have hW' : U.WarmedH s₂.vm := hW₂
    have hcc : c₂ = c := by
      have h1 : s₂.code? g.method = U.code? g.method := by
        rw [State.code?_eq, State.code?_eq, hW'.alike.method?]
      exact Option.some.inj (hc₂.symm.trans (h1.trans h.code))
    subst hcc
    have hlen : len₂ = len := by rw [hdg] at hd₂; cases hd₂; rfl
    subst hlen
    have hs₂ : s₂ = (({ U with heap := s₂.heap, slotsUsed := s₂.slotsUsed } : State).setVm s₂.vm).setTop { g with pc := g.pc + len₂, stack := v.toList ++ g.stack } := by
      refine e3.trans ?_
      rw [hf₂, State.calling_eq h.top, State.setFrames_setFrames, State.setTop_of_frames _ hr', hr]
      rfl
    have hsame : U.sameButNew ({ U with heap := s₂.heap, slotsUsed := s₂.slotsUsed } : State) L mc ms := by
      refine ⟨?_, q2, q3, q4, q5, q6⟩
      obtain ⟨t, ht, -⟩ := State.frames_cons hr
      show ({ U with heap := s₂.heap, slotsUsed := s₂.slotsUsed } : State) = { U.setFrames U.frames with heap := s₂.heap, slotsUsed := s₂.slotsUsed }
      rw [State.setFrames_self ht]
    subst hg
    refine Or.inl ⟨v, ⟨(({ U with heap := s₂.heap, slotsUsed := s₂.slotsUsed } : State).setVm s₂.vm), Ls ++ L, c0 + mc, s0 + ms⟩,
      ⟨X.admits, X.cas, X.clock, X.frames, X.room, X.hears, X.method, X.code, (X.here.setHeapUsed s₂.heap s₂.slotsUsed).setVm hW'.alike, X.tail, State.WarmedH.trans X.warmed hW', X.limits, X.bytes, X.same.trans (hsame.setVm s.vm)⟩,
      ⟨g, mk, s₂, L, rfl, rfl, hqc, rfl, hL, rfl, rfl⟩, ?_⟩
    show Steps p.tables e below _ ((({ U with heap := s₂.heap, slotsUsed := s₂.slotsUsed } : State).setVm s₂.vm).setTop { g with pc := g.pc + len₂, stack := v.toList ++ g.stack })
    rw [← hs₂]
    exact hsteps
  · obtain ⟨e2, q2, q3, q4, q5, q6⟩ := id hsm
    have e3 : s₂ = ({ (U.calling g mk a).setFrames s₂.frames with heap := s₂.heap, slotsUsed := s₂.slotsUsed } : State).setVm s₂.vm := by
      have : s₂ = ({ s₂ with vm := (U.calling g mk a).vm } : State).setVm s₂.vm := rfl
      rw [e2] at this
      exact this
    have hf₂ : s₂.frames = .throwing q :: .java g :: U.frames.tail := hend
    have hW' : U.WarmedH s₂.vm := hW₂
    have hs₂ : s₂ = ((({ U with heap := s₂.heap, slotsUsed := s₂.slotsUsed } : State).setVm s₂.vm).setTop g).pushFrame (.throwing q) := by
      refine e3.trans ?_
      rw [hf₂, State.calling_eq h.top, State.setFrames_setFrames, State.pushFrame, State.frames_setTop _ hr', State.setTop_of_frames _ hr', State.setFrames_setFrames, hr]
      rfl
    have hsame : U.sameButNew ({ U with heap := s₂.heap, slotsUsed := s₂.slotsUsed } : State) L mc ms := by
      refine ⟨?_, q2, q3, q4, q5, q6⟩
      obtain ⟨t, ht, -⟩ := State.frames_cons hr
      show ({ U with heap := s₂.heap, slotsUsed := s₂.slotsUsed } : State) = { U.setFrames U.frames with heap := s₂.heap, slotsUsed := s₂.slotsUsed }
      rw [State.setFrames_self ht]
    subst hg
    refine Or.inr ⟨q, ⟨(({ U with heap := s₂.heap, slotsUsed := s₂.slotsUsed } : State).setVm s₂.vm), Ls ++ L, c0 + mc, s0 + ms⟩,
      ⟨X.admits, X.cas, X.clock, X.frames, X.room, X.hears, X.method, X.code, (X.here.setHeapUsed s₂.heap s₂.slotsUsed).setVm hW'.alike, X.tail, State.WarmedH.trans X.warmed hW', X.limits, X.bytes, X.same.trans (hsame.setVm s.vm)⟩,
      ⟨g, mk, s₂, L, E, ce, rfl, rfl, hx, hce, hcv, hcl, rfl, hL, rfl, rfl⟩, ?_⟩
    show Steps p.tables e below _ (((({ U with heap := s₂.heap, slotsUsed := s₂.slotsUsed } : State).setVm s₂.vm).setTop g).pushFrame (.throwing q))
    rw [← hs₂]
    exact hsteps
end Payer
section Calls
variable {p : Program} {l : Launch} {e : Env} {R : Room} {s : State} {m : MethodId} {args : Array Value} {below : List Frame} {meth : Method} {c : Code} {T : State} {locs : List Loc} {cells slots : Nat}
theorem vx_callV (X : Stand p l e R s m args below meth c T locs cells slots) (hexec : p.tables.exec = Jvm.exec) {own C : String} {index : Nat} {y : MethodName} {bytes : ByteArray} {maxL : Nat} {ret : Option FieldType}
    (hown : s.vm.findClass own = some m.cls) (hlink : (Cond.methodLink own index y).before args s = true) (hinst : (Cond.instanceMethod y).before args s = true) (hsel : (Cond.selects C y y).before args s = true)
    (hcode : (Cond.code y bytes maxL ret).before args s = true) (hy : y.cls ≠ "java/lang/invoke/MethodHandle" ∧ y.cls ≠ "java/lang/invoke/VarHandle")
    {W9 : Nat} {Pre : Pt → Array Value → Prop} {Post : Pt → Array Value → Option Value → Pt → Prop} {PostX : Pt → Array Value → Addr → Pt → Prop} (hK : vx_Back l R p e below s args y 3 W9 Pre Post PostX)
    {b : Addr} {cellB : Cell} (hcell : T.heap[b]? = some cellB) (hobj : cellB.vm.isStatics = false) (hcls : s.vm.findClass C = some cellB.cls)
    {g : JFrame} (hg : g.method = m) (hsize : g.locals.size = c.maxLocals) {argsL rest : List Value} (hlen : ∀ sig, parseMethodDescriptor y.desc = some sig → argsL.length = sig.parameters.length)
    (hstack : g.stack = argsL.reverse ++ .ref b :: rest) (hW : 2 * g.monitorRoom + (rest.map fun v => v.category).sum ≤ W9) (hdg : decode c.code g.pc = .ok (.invokevirtual index, 3))
    (hpre : ∀ vm₁, s.WarmedH vm₁ → Pre ⟨T.setVm vm₁, locs, cells, slots⟩ (Value.ref b :: argsL).toArray) :
    (∃ (v : Option Value) (vm₁ : Vm) (B : Pt), s.WarmedH vm₁ ∧ Stand p l e R s m args below meth c B.U B.locs B.cells B.slots ∧ Post ⟨T.setVm vm₁, locs, cells, slots⟩ (Value.ref b :: argsL).toArray v B ∧
      ∀ target, Steps p.tables e below (B.U.setTop { g with pc := g.pc + 3, stack := v.toList ++ rest }) target → Steps p.tables e below (T.setTop g) target) ∨
    (∃ (q : Addr) (vm₁ : Vm) (B : Pt), s.WarmedH vm₁ ∧ Stand p l e R s m args below meth c B.U B.locs B.cells B.slots ∧ PostX ⟨T.setVm vm₁, locs, cells, slots⟩ (Value.ref b :: argsL).toArray q B ∧
      Steps p.tables e below (T.setTop g) ((B.U.setTop { g with stack := rest }).pushFrame (.throwing q))) := by
  obtain ⟨mk, methM, hnamed, hmethM, hstM, habM⟩ := Cond.instanceMethod_spec hinst
  obtain ⟨methM', cM, hmethM', -, -, -, -, -, -, hsigM⟩ := Cond.code_spec hnamed hcode
  cases hmethM.symm.trans hmethM'
  obtain ⟨c2, r2, m2, q1, q2, q3, q4, kP, hkP, hkPi⟩ := Cond.selects_spec hsel
  cases hcls.symm.trans q1
  cases (State.methodFound?_of_named hnamed hy).symm.trans q2
  cases hnamed.symm.trans q3
  have hselP : selectMethod e.platform s.vm cellB.cls mk = .method mk := by rw [Launch.admits_selectMethod X.admits]; exact q4
  obtain ⟨vm₁, X₁, hstep₁⟩ := X.invokevirtual hexec hown hlink hnamed hmethM hstM hkP hkPi hy (a := b) (cell := cellB) hcell
    (fun z h => by rw [h] at hobj; cases hobj) hselP hmethM habM hkP hkPi (g := g) hg (argsL := argsL) (rest := rest) (hlen _ hsigM) hstack hdg
  rcases hK m meth c ⟨T.setVm vm₁, locs, cells, slots⟩ { g with stack := rest } (.invokevirtual index) mk (Value.ref b :: argsL).toArray X₁ hg hsize hdg hW (X₁.named hnamed) (hpre vm₁ X₁.warmed) with ⟨v, B, X', hpost, hsteps⟩ | ⟨q, B, X', hpost, hsteps⟩
  · exact Or.inl ⟨v, vm₁, B, X₁.warmed, X', hpost, fun target h => hstep₁ _ fun acts => by rw [doInvoke_state]; exact hsteps.trans h⟩
  · exact Or.inr ⟨q, vm₁, B, X₁.warmed, X', hpost, hstep₁ _ fun acts => by rw [doInvoke_state]; exact hsteps⟩
theorem vx_callS (X : Stand p l e R s m args below meth c T locs cells slots) (hexec : p.tables.exec = Jvm.exec) {own : String} {index : Nat} {y : MethodName} {bytes : ByteArray} {maxL : Nat} {ret : Option FieldType}
    (hown : s.vm.findClass own = some m.cls) (hlink : (Cond.methodLink own index y).before args s = true) (hstat : (Cond.static y).before args s = true) (hinit : (Cond.initialized y.cls).before args s = true)
    (hcode : (Cond.code y bytes maxL ret).before args s = true) (hy : y.cls ≠ "java/lang/invoke/MethodHandle" ∧ y.cls ≠ "java/lang/invoke/VarHandle")
    {W9 : Nat} {Pre : Pt → Array Value → Prop} {Post : Pt → Array Value → Option Value → Pt → Prop} {PostX : Pt → Array Value → Addr → Pt → Prop} (hK : vx_Back l R p e below s args y 3 W9 Pre Post PostX)
    {g : JFrame} (hg : g.method = m) (hsize : g.locals.size = c.maxLocals) {argsL rest : List Value} (hlen : ∀ sig, parseMethodDescriptor y.desc = some sig → argsL.length = sig.parameters.length)
    (hstack : g.stack = argsL.reverse ++ rest) (hW : 2 * g.monitorRoom + (rest.map fun v => v.category).sum ≤ W9) (hdg : decode c.code g.pc = .ok (.invokestatic index, 3))
    (hpre : ∀ vm₁, s.WarmedH vm₁ → Pre ⟨T.setVm vm₁, locs, cells, slots⟩ argsL.toArray) :
    (∃ (v : Option Value) (vm₁ : Vm) (B : Pt), s.WarmedH vm₁ ∧ Stand p l e R s m args below meth c B.U B.locs B.cells B.slots ∧ Post ⟨T.setVm vm₁, locs, cells, slots⟩ argsL.toArray v B ∧
      ∀ target, Steps p.tables e below (B.U.setTop { g with pc := g.pc + 3, stack := v.toList ++ rest }) target → Steps p.tables e below (T.setTop g) target) ∨
    (∃ (q : Addr) (vm₁ : Vm) (B : Pt), s.WarmedH vm₁ ∧ Stand p l e R s m args below meth c B.U B.locs B.cells B.slots ∧ PostX ⟨T.setVm vm₁, locs, cells, slots⟩ argsL.toArray q B ∧
      Steps p.tables e below (T.setTop g) ((B.U.setTop { g with stack := rest }).pushFrame (.throwing q))) := by
  obtain ⟨mk, hnamed⟩ := Cond.code_named hcode
  obtain ⟨methM, cM, hmethM, -, -, -, -, -, -, hsigM⟩ := Cond.code_spec hnamed hcode
  have hstatic : methM.isStatic = true := Cond.static_spec hnamed hmethM hstat
  obtain ⟨kP, hkP, -⟩ := className_of_methodNamed hnamed
  have hinitP : kP.init = .initialized := Cond.initialized_spec (findClass_of_methodNamed hnamed) hkP hinit
  obtain ⟨vm₁, X₁, hstep₁⟩ := X.invokestatic hexec hown hlink hnamed hmethM hstatic hkP hinitP hy (g := g) hg (argsL := argsL) (rest := rest) (hlen _ hsigM) hstack hdg
  rcases hK m meth c ⟨T.setVm vm₁, locs, cells, slots⟩ { g with stack := rest } (.invokestatic index) mk argsL.toArray X₁ hg hsize hdg hW (X₁.named hnamed) (hpre vm₁ X₁.warmed) with ⟨v, B, X', hpost, hsteps⟩ | ⟨q, B, X', hpost, hsteps⟩
  · exact Or.inl ⟨v, vm₁, B, X₁.warmed, X', hpost, fun target h => hstep₁ _ fun acts => by rw [doInvoke_state]; exact hsteps.trans h⟩
  · exact Or.inr ⟨q, vm₁, B, X₁.warmed, X', hpost, hstep₁ _ fun acts => by rw [doInvoke_state]; exact hsteps⟩
end Calls
theorem vx_cls {s : State} {T : State} {vm₁ : Vm} {E : String} {k : ClassId} (hW : s.WarmedH vm₁) (h : (T.setVm vm₁).vm.findClass E = some k) : s.vm.findClass E = some k := by
  have h1 : vm₁.findClass E = some k := h
  rw [hW.alike.findClass] at h1
  exact h1
/-- the method's frame g, with q thrown over it -/
def vx_W (p : Program) (l : Launch) (e : Env) (R : Room) (s : State) (m : MethodId) (args : Array Value) (below : List Frame) (meth : Method) (c : Code) (H : Heap) (locs : List Loc) (cells slots : Nat) (Q : State → Prop) (g : JFrame) (q : Addr) : Prop :=
  ∀ T : State, T.heap = H → Stand p l e R s m args below meth c T locs cells slots → ∃ t, Steps p.tables e below ((T.setTop g).pushFrame (.throwing q)) t ∧ Q t
def vx_Run (p : Program) (l : Launch) (e : Env) (R : Room) (s : State) (m : MethodId) (args : Array Value) (below : List Frame) (meth : Method) (c : Code) (H : Heap) (locs : List Loc) (cells slots mc ms : Nat) (g : JFrame) (rest : List Value) (Qa : State → Outcome → State → Prop) (XC : String → State → State → Prop) (free : Addr → Prop) : Prop :=
  ∀ T : State, T.heap = H → Stand p l e R s m args below meth c T locs cells slots →
    (∃ (v : Option Value) (st₀ t T' : State) (L : List Loc), st₀.heap = H ∧ Stand p l e R s m args below meth c T' (locs ++ L) (cells + mc) (slots + ms) ∧ (∀ q ∈ L, free q.base) ∧ T'.heap = t.heap ∧ T'.vm = t.vm ∧ Qa st₀ (.returned v) t ∧
      Goes p e below T g T' { g with pc := g.pc + 3, stack := v.toList ++ rest }) ∨
    (∃ (q : Addr) (st₀ t T' : State) (L : List Loc) (E : String) (ce : Cell), st₀.heap = H ∧ Stand p l e R s m args below meth c T' (locs ++ L) (cells + mc) (slots + ms) ∧ (∀ z ∈ L, free z.base) ∧ T'.heap = t.heap ∧ T'.vm = t.vm ∧ XC E st₀ t ∧ t.heap[q]? = some ce ∧ ce.vm = .none ∧ s.vm.findClass E = some ce.cls ∧
      Steps p.tables e below (T.setTop g) ((T'.setTop { g with stack := rest }).pushFrame (.throwing q)))
def vx_X {S : Type} (px : S → Prop) (B : String → S → State → Prop) (A : Nat → Prop) : String → State → State → Prop := fun E st t => ∃ u : S, px u ∧ B E u t ∧ va_F A st t
section Runs
variable {p : Program} {l : Launch} {e : Env} {R : Room} {s : State} {m : MethodId} {args : Array Value} {below : List Frame} {meth : Method} {c : Code} {H : Heap} {locs : List Loc} {cells slots : Nat}
variable {y : MethodName} {bytes cc : ByteArray} {maxL nL mc ms n index : Nat} {ret : Option FieldType} {ws : List Cond} {rm : Room} {Pc : Array Value → State → Prop} {Qc : Array Value → State → Outcome → State → Prop} {XC : String → State → State → Prop} {free : Addr → Prop} {Ts : List Cond} {own C : String} {b : Addr} {As rest : List Value} {g : JFrame}
theorem vx_callBack (cb : CallB R s args own index y bytes maxL ret ws rm mc ms n) (hM : vx_Met l y ws rm Pc Qc XC mc ms free) (hbl : FrameBlind Pc) : vx_Back l R p e below s args y 3 8 (PreOf R mc ms Pc) (PostOf Qc mc ms free) (vx_Post XC mc ms free) := by
  obtain ⟨hrc, hrs, hfr, hlo, hws, hcw, -, hini, -⟩ := cb
  exact vx_back (bytes := bytes) (maxL := maxL) (ret := ret) hM hbl hrc hrs hfr hlo hws hcw (fun a' U hW => word_at hW (Or.inl (by first | rfl | simp [Cond.onTables, Cond.keeps, Cond.steady])) hini)
theorem vx_runV (S : CallFix p m c cc nL s args Ts own) (hM : vx_Met l y ws rm Pc Qc XC mc ms free) (cw : CallW R s args own C index y bytes maxL ret ws rm mc ms n) (hp : PreV s H C b Pc As)
    (hg : g.method = m) (hn : As.length = n) (hsize : g.locals.size = nL) (hstack : g.stack = As.reverse ++ .ref b :: rest) (hW : 2 * g.monitorRoom + (rest.map fun v => v.category).sum ≤ 8) (hdg : decode cc g.pc = .ok (.invokevirtual index, 3)) (hf : cells + mc ≤ R.cells ∧ slots + ms ≤ R.slots) :
    vx_Run p l e R s m args below meth c H locs cells slots mc ms g rest (Qc (Value.ref b :: As).toArray) XC free := by
  have hK : vx_Back l R p e below s args y 3 8 (PreOf R mc ms Pc) (PostOf Qc mc ms free) (vx_Post XC mc ms free) := vx_callBack cw.1 hM hp.1
  obtain ⟨⟨-, -, -, -, -, -, hcode, -, hy, hlen, hl⟩, hin, hse⟩ := cw
  obtain ⟨hx, hb, hml, ho, -⟩ := S
  obtain ⟨-, ⟨cellB, hcB, hoB, hclB⟩, hPc⟩ := hp
  intro T hT X
  rcases vx_callV X hx (C := C) (bytes := bytes) (maxL := maxL) (ret := ret) ho hl hin hse hcode hy hK (by rw [hT]; exact hcB) hoB hclB hg (hsize.trans hml.symm) (argsL := As) (rest := rest) (fun sig h => hn.trans (hlen sig h)) hstack hW (by rw [hb]; exact hdg)
    (fun vm₁ hW₁ => ⟨hf.1, hf.2, hPc (T.setVm vm₁) hT hW₁⟩) with ⟨v, vm₁, ⟨U', l2, c2, s2⟩, hW₁, X', ⟨g', mk, t, L, e1, e2, hq, h1, hL, h2, h3⟩, st⟩ | ⟨q, vm₁, ⟨U', l2, c2, s2⟩, hW₁, X', ⟨g', mk, t, L, E, ce, e1, e2, hq, hce, hcv, hcl, h1, hL, h2, h3⟩, st⟩
  · dsimp only [Pt.U, Pt.locs, Pt.cells, Pt.slots] at X' e1 e2 h1 h2 h3 st
    subst h1; subst h2; subst h3
    exact Or.inl ⟨v, (T.setVm vm₁).calling g' mk (Value.ref b :: As).toArray, t, U', L, hT, X', hL, e1, e2, hq, st⟩
  · dsimp only [Pt.U, Pt.locs, Pt.cells, Pt.slots] at X' e1 e2 h1 h2 h3 st hcl
    subst h1; subst h2; subst h3
    exact Or.inr ⟨q, (T.setVm vm₁).calling g' mk (Value.ref b :: As).toArray, t, U', L, E, ce, hT, X', hL, e1, e2, hq, hce, hcv, vx_cls hW₁ hcl, st⟩
theorem vx_runS (S : CallFix p m c cc nL s args Ts own) (hM : vx_Met l y ws rm Pc Qc XC mc ms free) (cw : CallB R s args own index y bytes maxL ret ws rm mc ms n ∧ (Cond.static y).before args s = true) (hp : PreS s H Pc As)
    (hg : g.method = m) (hn : As.length = n) (hsize : g.locals.size = nL) (hstack : g.stack = As.reverse ++ rest) (hW : 2 * g.monitorRoom + (rest.map fun v => v.category).sum ≤ 8) (hdg : decode cc g.pc = .ok (.invokestatic index, 3)) (hf : cells + mc ≤ R.cells ∧ slots + ms ≤ R.slots) :
    vx_Run p l e R s m args below meth c H locs cells slots mc ms g rest (Qc As.toArray) XC free := by
  have hK : vx_Back l R p e below s args y 3 8 (PreOf R mc ms Pc) (PostOf Qc mc ms free) (vx_Post XC mc ms free) := vx_callBack cw.1 hM hp.1
  obtain ⟨⟨-, -, -, -, -, -, hcode, hini, hy, hlen, hl⟩, hstt⟩ := cw
  obtain ⟨hx, hb, hml, ho, -⟩ := S
  intro T hT X
  rcases vx_callS X hx (bytes := bytes) (maxL := maxL) (ret := ret) ho hl hstt hini hcode hy hK hg (hsize.trans hml.symm) (argsL := As) (rest := rest) (fun sig h => hn.trans (hlen sig h)) hstack hW (by rw [hb]; exact hdg)
    (fun vm₁ hW₁ => ⟨hf.1, hf.2, hp.2 (T.setVm vm₁) hT hW₁⟩) with ⟨v, vm₁, ⟨U', l2, c2, s2⟩, hW₁, X', ⟨g', mk, t, L, e1, e2, hq, h1, hL, h2, h3⟩, st⟩ | ⟨q, vm₁, ⟨U', l2, c2, s2⟩, hW₁, X', ⟨g', mk, t, L, E, ce, e1, e2, hq, hce, hcv, hcl, h1, hL, h2, h3⟩, st⟩
  · dsimp only [Pt.U, Pt.locs, Pt.cells, Pt.slots] at X' e1 e2 h1 h2 h3 st
    subst h1; subst h2; subst h3
    exact Or.inl ⟨v, (T.setVm vm₁).calling g' mk As.toArray, t, U', L, hT, X', hL, e1, e2, hq, st⟩
  · dsimp only [Pt.U, Pt.locs, Pt.cells, Pt.slots] at X' e1 e2 h1 h2 h3 st hcl
    subst h1; subst h2; subst h3
    exact Or.inr ⟨q, (T.setVm vm₁).calling g' mk As.toArray, t, U', L, E, ce, hT, X', hL, e1, e2, hq, hce, hcv, vx_cls hW₁ hcl, st⟩
end Runs
section Rows
variable {p : Program} {l : Launch} {e : Env} {R : Room} {s : State} {m : MethodId} {args : Array Value} {below : List Frame} {meth : Method} {c : Code} {H : Heap} {locs : List Loc} {cells slots : Nat} {Q : State → Prop}
variable {mc ms : Nat} {free : Addr → Prop} {A0 A1 : Nat → Prop} {H0 : Heap} {a : Array Value} {pc : Nat} {ls : Array Slot} {st0 rest : List Value}
theorem vx_keep {st₀ t T' : State} {L : List Loc} (h0 : st₀.heap = H) (e1 : T'.heap = t.heap) (hS : va_S A0 H0 H locs) (hA : ∀ q, q < H.size → A1 q → A0 q) (hf : ∀ q, free q → A0 q) (hL : ∀ q ∈ L, free q.base) (hF : va_F A1 st₀ t) :
    H.size ≤ T'.heap.size ∧ (∀ q : Nat, q < H.size → ¬ A1 q → T'.heap[q]? = H[q]?) ∧ va_S A0 H0 T'.heap (locs ++ L) := by
  obtain ⟨hz, hk⟩ := hF
  rw [h0] at hz hk
  exact ⟨by rw [e1]; exact hz, fun q h1 h2 => by rw [e1]; exact hk q h1 h2,
    ⟨Nat.le_trans hS.1 (by rw [e1]; exact hz), fun q h1 h2 => by rw [e1, hk q (Nat.lt_of_lt_of_le h1 hS.1) (fun z => h2 (hA q (Nat.lt_of_lt_of_le h1 hS.1) z))]; exact hS.2.1 q h1 h2, fun q hq => by
      rcases List.mem_append.mp hq with h | h
      · exact hS.2.2 q h
      · exact hf _ (hL q h)⟩⟩
theorem vx_calli {S SX : Type} {post : Int32 → S → Prop} {px : SX → Prop} {B : S → State → Prop} {BX : String → SX → State → Prop} {AX : Nat → Prop} (hr : vx_Run p l e R s m args below meth c H locs cells slots mc ms (F0 m pc ls st0) rest (va_Qi post B A1 a) (vx_X px BX AX) free) (hS : va_S A0 H0 H locs) (hA : ∀ q, q < H.size → A1 q → A0 q) (hf : ∀ q, free q → A0 q) (hAX : ∀ q, q < H.size → AX q → A0 q)
    (kx : ∀ (E : String) (ce : Cell) (q9 : Addr) (u : SX) (t : State) (H1 : Heap) (locs1 : List Loc), t.heap = H1 → s.vm.Alike t.vm → px u → BX E u t → H.size ≤ H1.size → (∀ q : Nat, q < H.size → ¬ AX q → H1[q]? = H[q]?) → va_S A0 H0 H1 locs1 → H1[q9]? = some ce → ce.vm = .none → s.vm.findClass E = some ce.cls → vx_W p l e R s m args below meth c H1 locs1 (cells + mc) (slots + ms) Q (F0 m pc ls rest) q9)
    (kk : ∀ (r : Int32) (u : S) (t : State) (H1 : Heap) (locs1 : List Loc), t.heap = H1 → s.vm.Alike t.vm → post r u → B u t → H.size ≤ H1.size → (∀ q : Nat, q < H.size → ¬ A1 q → H1[q]? = H[q]?) → va_S A0 H0 H1 locs1 → W p l e R s m args below meth c H1 locs1 (cells + mc) (slots + ms) Q (F0 m (pc + 3) ls (.int r :: rest))) : W p l e R s m args below meth c H locs cells slots Q (F0 m pc ls st0) := by
  intro T hT X
  rcases hr T hT X with ⟨v, st₀, t, T', L, h0, X', hL, e1, e2, ⟨⟨r, u, hv, hp, hb⟩, hF⟩, st⟩ | ⟨q, st₀, t, T', L, E, ce, h0, X', hL, e1, e2, ⟨u, hp, hb, hF⟩, hce, hcv, hcl, st⟩
  · cases hv
    obtain ⟨k1, k2, k3⟩ := vx_keep h0 e1 hS hA hf hL hF
    obtain ⟨t2, a1, b1⟩ := kk r u t T'.heap (locs ++ L) e1.symm (by rw [← e2]; exact X'.warmed.alike) hp hb k1 k2 k3 T' rfl X'
    exact ⟨t2, st t2 a1, b1⟩
  · obtain ⟨k1, k2, k3⟩ := vx_keep h0 e1 hS hAX hf hL hF
    obtain ⟨t2, a1, b1⟩ := kx E ce q u t T'.heap (locs ++ L) e1.symm (by rw [← e2]; exact X'.warmed.alike) hp hb k1 k2 k3 (by rw [e1]; exact hce) hcv hcl T' rfl X'
    exact ⟨t2, st.trans a1, b1⟩
theorem vx_calll {S SX : Type} {post : Int64 → S → Prop} {px : SX → Prop} {B : S → State → Prop} {BX : String → SX → State → Prop} {AX : Nat → Prop} (hr : vx_Run p l e R s m args below meth c H locs cells slots mc ms (F0 m pc ls st0) rest (va_Ql post B A1 a) (vx_X px BX AX) free) (hS : va_S A0 H0 H locs) (hA : ∀ q, q < H.size → A1 q → A0 q) (hf : ∀ q, free q → A0 q) (hAX : ∀ q, q < H.size → AX q → A0 q)
    (kx : ∀ (E : String) (ce : Cell) (q9 : Addr) (u : SX) (t : State) (H1 : Heap) (locs1 : List Loc), t.heap = H1 → s.vm.Alike t.vm → px u → BX E u t → H.size ≤ H1.size → (∀ q : Nat, q < H.size → ¬ AX q → H1[q]? = H[q]?) → va_S A0 H0 H1 locs1 → H1[q9]? = some ce → ce.vm = .none → s.vm.findClass E = some ce.cls → vx_W p l e R s m args below meth c H1 locs1 (cells + mc) (slots + ms) Q (F0 m pc ls rest) q9)
    (kk : ∀ (r : Int64) (u : S) (t : State) (H1 : Heap) (locs1 : List Loc), t.heap = H1 → s.vm.Alike t.vm → post r u → B u t → H.size ≤ H1.size → (∀ q : Nat, q < H.size → ¬ A1 q → H1[q]? = H[q]?) → va_S A0 H0 H1 locs1 → W p l e R s m args below meth c H1 locs1 (cells + mc) (slots + ms) Q (F0 m (pc + 3) ls (.long r :: rest))) : W p l e R s m args below meth c H locs cells slots Q (F0 m pc ls st0) := by
  intro T hT X
  rcases hr T hT X with ⟨v, st₀, t, T', L, h0, X', hL, e1, e2, ⟨⟨r, u, hv, hp, hb⟩, hF⟩, st⟩ | ⟨q, st₀, t, T', L, E, ce, h0, X', hL, e1, e2, ⟨u, hp, hb, hF⟩, hce, hcv, hcl, st⟩
  · cases hv
    obtain ⟨k1, k2, k3⟩ := vx_keep h0 e1 hS hA hf hL hF
    obtain ⟨t2, a1, b1⟩ := kk r u t T'.heap (locs ++ L) e1.symm (by rw [← e2]; exact X'.warmed.alike) hp hb k1 k2 k3 T' rfl X'
    exact ⟨t2, st t2 a1, b1⟩
  · obtain ⟨k1, k2, k3⟩ := vx_keep h0 e1 hS hAX hf hL hF
    obtain ⟨t2, a1, b1⟩ := kx E ce q u t T'.heap (locs ++ L) e1.symm (by rw [← e2]; exact X'.warmed.alike) hp hb k1 k2 k3 (by rw [e1]; exact hce) hcv hcl T' rfl X'
    exact ⟨t2, st.trans a1, b1⟩
theorem vx_callf {S SX : Type} {post : UInt32 → S → Prop} {px : SX → Prop} {B : S → State → Prop} {BX : String → SX → State → Prop} {AX : Nat → Prop} (hr : vx_Run p l e R s m args below meth c H locs cells slots mc ms (F0 m pc ls st0) rest (va_Qf post B A1 a) (vx_X px BX AX) free) (hS : va_S A0 H0 H locs) (hA : ∀ q, q < H.size → A1 q → A0 q) (hf : ∀ q, free q → A0 q) (hAX : ∀ q, q < H.size → AX q → A0 q)
    (kx : ∀ (E : String) (ce : Cell) (q9 : Addr) (u : SX) (t : State) (H1 : Heap) (locs1 : List Loc), t.heap = H1 → s.vm.Alike t.vm → px u → BX E u t → H.size ≤ H1.size → (∀ q : Nat, q < H.size → ¬ AX q → H1[q]? = H[q]?) → va_S A0 H0 H1 locs1 → H1[q9]? = some ce → ce.vm = .none → s.vm.findClass E = some ce.cls → vx_W p l e R s m args below meth c H1 locs1 (cells + mc) (slots + ms) Q (F0 m pc ls rest) q9)
    (kk : ∀ (r : UInt32) (u : S) (t : State) (H1 : Heap) (locs1 : List Loc), t.heap = H1 → s.vm.Alike t.vm → post r u → B u t → H.size ≤ H1.size → (∀ q : Nat, q < H.size → ¬ A1 q → H1[q]? = H[q]?) → va_S A0 H0 H1 locs1 → W p l e R s m args below meth c H1 locs1 (cells + mc) (slots + ms) Q (F0 m (pc + 3) ls (.float r :: rest))) : W p l e R s m args below meth c H locs cells slots Q (F0 m pc ls st0) := by
  intro T hT X
  rcases hr T hT X with ⟨v, st₀, t, T', L, h0, X', hL, e1, e2, ⟨⟨r, u, hv, hp, hb⟩, hF⟩, st⟩ | ⟨q, st₀, t, T', L, E, ce, h0, X', hL, e1, e2, ⟨u, hp, hb, hF⟩, hce, hcv, hcl, st⟩
  · cases hv
    obtain ⟨k1, k2, k3⟩ := vx_keep h0 e1 hS hA hf hL hF
    obtain ⟨t2, a1, b1⟩ := kk r u t T'.heap (locs ++ L) e1.symm (by rw [← e2]; exact X'.warmed.alike) hp hb k1 k2 k3 T' rfl X'
    exact ⟨t2, st t2 a1, b1⟩
  · obtain ⟨k1, k2, k3⟩ := vx_keep h0 e1 hS hAX hf hL hF
    obtain ⟨t2, a1, b1⟩ := kx E ce q u t T'.heap (locs ++ L) e1.symm (by rw [← e2]; exact X'.warmed.alike) hp hb k1 k2 k3 (by rw [e1]; exact hce) hcv hcl T' rfl X'
    exact ⟨t2, st.trans a1, b1⟩
theorem vx_calld {S SX : Type} {post : UInt64 → S → Prop} {px : SX → Prop} {B : S → State → Prop} {BX : String → SX → State → Prop} {AX : Nat → Prop} (hr : vx_Run p l e R s m args below meth c H locs cells slots mc ms (F0 m pc ls st0) rest (va_Qd post B A1 a) (vx_X px BX AX) free) (hS : va_S A0 H0 H locs) (hA : ∀ q, q < H.size → A1 q → A0 q) (hf : ∀ q, free q → A0 q) (hAX : ∀ q, q < H.size → AX q → A0 q)
    (kx : ∀ (E : String) (ce : Cell) (q9 : Addr) (u : SX) (t : State) (H1 : Heap) (locs1 : List Loc), t.heap = H1 → s.vm.Alike t.vm → px u → BX E u t → H.size ≤ H1.size → (∀ q : Nat, q < H.size → ¬ AX q → H1[q]? = H[q]?) → va_S A0 H0 H1 locs1 → H1[q9]? = some ce → ce.vm = .none → s.vm.findClass E = some ce.cls → vx_W p l e R s m args below meth c H1 locs1 (cells + mc) (slots + ms) Q (F0 m pc ls rest) q9)
    (kk : ∀ (r : UInt64) (u : S) (t : State) (H1 : Heap) (locs1 : List Loc), t.heap = H1 → s.vm.Alike t.vm → post r u → B u t → H.size ≤ H1.size → (∀ q : Nat, q < H.size → ¬ A1 q → H1[q]? = H[q]?) → va_S A0 H0 H1 locs1 → W p l e R s m args below meth c H1 locs1 (cells + mc) (slots + ms) Q (F0 m (pc + 3) ls (.double r :: rest))) : W p l e R s m args below meth c H locs cells slots Q (F0 m pc ls st0) := by
  intro T hT X
  rcases hr T hT X with ⟨v, st₀, t, T', L, h0, X', hL, e1, e2, ⟨⟨r, u, hv, hp, hb⟩, hF⟩, st⟩ | ⟨q, st₀, t, T', L, E, ce, h0, X', hL, e1, e2, ⟨u, hp, hb, hF⟩, hce, hcv, hcl, st⟩
  · cases hv
    obtain ⟨k1, k2, k3⟩ := vx_keep h0 e1 hS hA hf hL hF
    obtain ⟨t2, a1, b1⟩ := kk r u t T'.heap (locs ++ L) e1.symm (by rw [← e2]; exact X'.warmed.alike) hp hb k1 k2 k3 T' rfl X'
    exact ⟨t2, st t2 a1, b1⟩
  · obtain ⟨k1, k2, k3⟩ := vx_keep h0 e1 hS hAX hf hL hF
    obtain ⟨t2, a1, b1⟩ := kx E ce q u t T'.heap (locs ++ L) e1.symm (by rw [← e2]; exact X'.warmed.alike) hp hb k1 k2 k3 (by rw [e1]; exact hce) hcv hcl T' rfl X'
    exact ⟨t2, st.trans a1, b1⟩
theorem vx_callv {S SX : Type} {post : S → Prop} {px : SX → Prop} {B : S → State → Prop} {BX : String → SX → State → Prop} {AX : Nat → Prop} (hr : vx_Run p l e R s m args below meth c H locs cells slots mc ms (F0 m pc ls st0) rest (va_Qv post B A1 a) (vx_X px BX AX) free) (hS : va_S A0 H0 H locs) (hA : ∀ q, q < H.size → A1 q → A0 q) (hf : ∀ q, free q → A0 q) (hAX : ∀ q, q < H.size → AX q → A0 q)
    (kx : ∀ (E : String) (ce : Cell) (q9 : Addr) (u : SX) (t : State) (H1 : Heap) (locs1 : List Loc), t.heap = H1 → s.vm.Alike t.vm → px u → BX E u t → H.size ≤ H1.size → (∀ q : Nat, q < H.size → ¬ AX q → H1[q]? = H[q]?) → va_S A0 H0 H1 locs1 → H1[q9]? = some ce → ce.vm = .none → s.vm.findClass E = some ce.cls → vx_W p l e R s m args below meth c H1 locs1 (cells + mc) (slots + ms) Q (F0 m pc ls rest) q9)
    (kk : ∀ (u : S) (t : State) (H1 : Heap) (locs1 : List Loc), t.heap = H1 → s.vm.Alike t.vm → post u → B u t → H.size ≤ H1.size → (∀ q : Nat, q < H.size → ¬ A1 q → H1[q]? = H[q]?) → va_S A0 H0 H1 locs1 → W p l e R s m args below meth c H1 locs1 (cells + mc) (slots + ms) Q (F0 m (pc + 3) ls (rest))) : W p l e R s m args below meth c H locs cells slots Q (F0 m pc ls st0) := by
  intro T hT X
  rcases hr T hT X with ⟨v, st₀, t, T', L, h0, X', hL, e1, e2, ⟨⟨u, hv, hp, hb⟩, hF⟩, st⟩ | ⟨q, st₀, t, T', L, E, ce, h0, X', hL, e1, e2, ⟨u, hp, hb, hF⟩, hce, hcv, hcl, st⟩
  · cases hv
    obtain ⟨k1, k2, k3⟩ := vx_keep h0 e1 hS hA hf hL hF
    obtain ⟨t2, a1, b1⟩ := kk u t T'.heap (locs ++ L) e1.symm (by rw [← e2]; exact X'.warmed.alike) hp hb k1 k2 k3 T' rfl X'
    exact ⟨t2, st t2 a1, b1⟩
  · obtain ⟨k1, k2, k3⟩ := vx_keep h0 e1 hS hAX hf hL hF
    obtain ⟨t2, a1, b1⟩ := kx E ce q u t T'.heap (locs ++ L) e1.symm (by rw [← e2]; exact X'.warmed.alike) hp hb k1 k2 k3 (by rw [e1]; exact hce) hcv hcl T' rfl X'
    exact ⟨t2, st.trans a1, b1⟩
/-- caught by the row x of this method's table; the rows ahead don't take it -/
theorem vx_catch {own name : String} {E : String} {ce : Cell} {q : Addr} (hown : s.vm.findClass own = some m.cls) (pre : List ExceptionTableEntry) (x : ExceptionTableEntry) (suf : List ExceptionTableEntry) (hsplit : c.exceptionTable.toList = pre ++ x :: suf)
    (hpass : ∀ z ∈ pre, covers z pc = false ∨ (z.catchType ≠ 0 ∧ ∃ nm : String, (Cond.classLink own z.catchType nm).before args s = true ∧ va_Nc E nm s)) (hx : covers x pc = true) (h0 : x.catchType ≠ 0)
    (hlink : (Cond.classLink own x.catchType name).before args s = true) (hcast : (Cond.castable E name).before args s = true) (hcell : H[q]? = some ce) (hv : ce.vm = .none) (hcl : s.vm.findClass E = some ce.cls)
    (kk : W p l e R s m args below meth c H locs cells slots Q (F0 m x.handlerPc ls [.ref q])) : vx_W p l e R s m args below meth c H locs cells slots Q (F0 m pc ls rest) q := by
  intro T hT X
  have hpl : e.platform.magicAccessors = ({} : Platform).magicAccessors := by rw [X.admits.platform]
  obtain ⟨c3, c4, hc3, hc4, hasg⟩ := Cond.castable_spec hcast
  cases Option.some.inj (hc3.symm.trans hcl)
  obtain ⟨c5, hc5, hcl5⟩ := Cond.classLink_spec hown hlink e.platform hpl
  cases Option.some.inj (hc4.symm.trans hc5)
  obtain ⟨vm', X', st⟩ := X.thenCaughtThrough q (g := F0 m pc ls rest) rfl (Steps.refl _) (by rw [hT]; exact hcell) (by rw [hv]; rfl) (by obtain ⟨k9, h9, -⟩ := Vm.findClass_spec hcl; exact ⟨k9, h9⟩) pre x suf hsplit
    (fun z hz => by
      rcases hpass z hz with h | ⟨hz0, nm, hl1, hn1⟩
      · exact Or.inl h
      · obtain ⟨c6, hc6, hcl6⟩ := Cond.classLink_spec hown hl1 e.platform hpl
        obtain ⟨a8, b8, h1, h2, h3⟩ := hn1
        cases Option.some.inj (h1.symm.trans hcl)
        cases Option.some.inj (h2.symm.trans hc6)
        exact Or.inr ⟨hz0, _, hcl6, h3⟩) hx (Or.inr ⟨h0, c4, hcl5, hasg⟩)
  obtain ⟨t, a1, b1⟩ := kk (T.setVm vm') hT X'
  exact ⟨t, st.trans a1, b1⟩
end Rows
section Ends
variable {p : Program} {l : Launch} {e : Env} {R : Room} {s : State} {m : MethodId} {args : Array Value} {below : List Frame} {meth : Method} {c : Code} {H : Heap} {locs : List Loc} {cells slots : Nat} {Q : State → Prop}
variable {mc ms : Nat} {free : Addr → Prop} {A0 A1 : Nat → Prop} {H0 : Heap} {a : Array Value} {ls : Array Slot} {st0 rest : List Value}
variable {Qc : Array Value → State → Outcome → State → Prop} {XC : String → State → State → Prop}
/-- what a body that may throw owes at its end -/
def vx_MQ (below : List Frame) (Qc : Array Value → State → Outcome → State → Prop) (XC : String → State → State → Prop) (a : Array Value) (s : State) (mc ms : Nat) (free : Addr → Prop) : State → Prop := fun t =>
  ∃ o, t.status = .running ∧ Ended t below o ∧ vx_Q Qc XC mc ms free a s o t
theorem vx_ret {g : JFrame} {mc ms : Nat} (k : W p l e R s m args below meth c H locs cells slots (MQ below Qc args s mc ms free) g) : W p l e R s m args below meth c H locs cells slots (vx_MQ below Qc XC args s mc ms free) g := by
  intro T hT X
  obtain ⟨t, a1, o, b1, b2, b3, b4⟩ := k T hT X
  exact ⟨t, a1, o, b1, b2, Or.inl ⟨b3, b4⟩⟩
/-- not caught here: it goes on to the caller -/
theorem vx_widen {g : JFrame} {q : Addr} {k n : Nat} (h1 : cells ≤ k) (h2 : slots ≤ n) (kk : vx_W p l e R s m args below meth c H locs k n Q g q) : vx_W p l e R s m args below meth c H locs cells slots Q g q := fun T hT X => kk T hT (stand_widen X h1 h2)
theorem vx_out {pc : Nat} {E : String} {ce : Cell} {q : Addr} {mc ms : Nat} (hout : ∀ x ∈ c.exceptionTable.toList, covers x pc = false) (hlocks : meth.locks = false) (hcell : H[q]? = some ce) (hv : ce.vm = .none) (hcl : s.vm.findClass E = some ce.cls)
    (hx : ∀ t : State, t.heap = H → s.vm.Alike t.vm → XC E s t) (hf : ∀ z ∈ locs, free z.base) (hc : cells ≤ mc) (hs : slots ≤ ms) :
    vx_W p l e R s m args below meth c H locs cells slots (vx_MQ below Qc XC args s mc ms free) (F0 m pc ls rest) q := by
  intro T hT X
  obtain ⟨st1, hrun, hend, hW, hsm⟩ := X.leaveThrown q (g := F0 m pc ls rest) rfl rfl rfl hout hlocks
  have hcell9 : (T.setFrames (.throwing q :: below)).heap[q]? = some ce := by
    show T.heap[q]? = some ce
    rw [hT]; exact hcell
  exact ⟨_, st1, .threw q, hrun, hend, Or.inr ⟨q, rfl, E, ce, locs, hx _ hT hW.alike, hcell9, hv, hcl, hW, hsm.mono hc hs, hf⟩⟩
theorem vx_frame {U : State} {k n : Nat} (h : s.sameButNew ({ U with vm := s.vm } : State) locs k n) : s.heap.size ≤ U.heap.size ∧ ∀ q : Nat, q < s.heap.size → (∀ z ∈ locs, z.base ≠ q) → U.heap[q]? = s.heap[q]? := by
  obtain ⟨-, h2, -, -, -, h6⟩ := h
  refine ⟨h2, fun q hq hz => ?_⟩
  obtain ⟨c9, e1, e2, e3, e4⟩ := h6 q _ (Array.getElem?_eq_getElem hq)
  have hs : c9.slots = (s.heap[q]).slots := Array.ext_getElem? fun i => e4 i fun hm => hz _ hm rfl
  have h9 : c9 = s.heap[q] := by
    rw [hs] at e2
    exact e2
  have e5 : U.heap[q]? = some c9 := e1
  rw [e5, h9, Array.getElem?_eq_getElem hq]
/-- the words of a throw but the four that speak of the heap -/
def vx_no (w : Cond) : Bool := decide (w ≠ .isRef (.static Bundle.tN "UNASSIGNED_STACK" Bundle.steD)) && decide (w ≠ .isRef (.static Bundle.tN "SUPPRESSED_SENTINEL" Bundle.listD)) && decide (w ≠ .laysStatic Bundle.tN "UNASSIGNED_STACK" Bundle.steD) && decide (w ≠ .laysStatic Bundle.tN "SUPPRESSED_SENTINEL" Bundle.listD)
def vx_at0 (own : String) (ic : Nat) (X : String) (names : List String) : List Cond := (Bundle.ownAtoms0 own ic X names).filter vx_no
def vx_atS (own : String) (ic : Nat) (X : String) (names : List String) : List Cond := (Bundle.ownAtoms own ic X names).filter vx_no
/-- a word that the tables alone decide, or a good one -/
def vx_ot (w : Cond) : Bool := w.onTables || goodWord w
theorem vx_ot_at {args a' : Array Value} {s U : State} {w : Cond} (hW : s.WarmedH U.vm) (hvm : s.vm = U.vm) (hg : vx_ot w = true) (h : w.before args s = true) : w.before a' U = true := by
  simp only [vx_ot, Bool.or_eq_true] at hg
  rcases hg with hg | hg
  · exact va_tabs hg hvm h
  · exact word_at hW (good_of_word hg) h
/-- a list's words: the good ones out of the method's own list, the others by premises of their own -/
theorem vx_hat {args : Array Value} {s : State} {L B : List Cond} (h1 : ∀ w ∈ L.filter goodWord, w.before args s = true) (h2 : ∀ w ∈ L.filter (fun w => !goodWord w), w ∈ B) (h3 : ∀ w ∈ B, w.before args s = true) : ∀ w ∈ L, w.before args s = true := by
  intro w hw
  by_cases g : goodWord w = true
  · exact h1 w (List.mem_filter.mpr ⟨hw, g⟩)
  · refine h3 w (h2 w (List.mem_filter.mpr ⟨hw, ?_⟩))
    show (!goodWord w) = true
    cases hgw : goodWord w
    · rfl
    · exact absurd hgw g
theorem vx_c {args : Array Value} {s : State} {w : Cond} {B : List Cond} (h : w.before args s = true) (t : ∀ w ∈ B, w.before args s = true) : ∀ w' ∈ w :: B, w'.before args s = true := fun w' h' => (List.mem_cons.mp h').elim (fun e => by rw [e]; exact h) (t w')
theorem vx_n {args : Array Value} {s : State} : ∀ w ∈ ([] : List Cond), w.before args s = true := fun _ h => nomatch h
theorem vx_own {args : Array Value} {s : State} {L : List Cond} (h1 : ∀ w ∈ L.filter vx_no, w.before args s = true)
    (hU : (Cond.isRef (.static Bundle.tN "UNASSIGNED_STACK" Bundle.steD)).before args s = true) (hN : (Cond.isRef (.static Bundle.tN "SUPPRESSED_SENTINEL" Bundle.listD)).before args s = true)
    (lU : (Cond.laysStatic Bundle.tN "UNASSIGNED_STACK" Bundle.steD).before args s = true) (lN : (Cond.laysStatic Bundle.tN "SUPPRESSED_SENTINEL" Bundle.listD).before args s = true) : ∀ w ∈ L, w.before args s = true := by
  intro w hw
  by_cases e1 : w = .isRef (.static Bundle.tN "UNASSIGNED_STACK" Bundle.steD)
  · rw [e1]; exact hU
  · by_cases e2 : w = .isRef (.static Bundle.tN "SUPPRESSED_SENTINEL" Bundle.listD)
    · rw [e2]; exact hN
    · by_cases e3 : w = .laysStatic Bundle.tN "UNASSIGNED_STACK" Bundle.steD
      · rw [e3]; exact lU
      · by_cases e4 : w = .laysStatic Bundle.tN "SUPPRESSED_SENTINEL" Bundle.listD
        · rw [e4]; exact lN
        · exact h1 w (List.mem_filter.mpr ⟨hw, by unfold vx_no; rw [decide_eq_true e1, decide_eq_true e2, decide_eq_true e3, decide_eq_true e4]; rfl⟩)
/-- where a static field lies, its class's statics cell in H -/
def vx_L (C n d : String) (A : Nat → Prop) (U : State) (H : Heap) : Prop := ∃ (c : ClassId) (k : Class) (i : Nat) (f : Field) (a : Nat) (cell : Cell), U.vm.findClass C = some c ∧ U.fieldFound? C n d = some (c, k, i, f) ∧ f.isStatic = true ∧ k.statics = some a ∧ H[a]? = some cell ∧ cell.vm.isStatics = true ∧ cell.cls = c ∧ f.slot < cell.slots.size ∧ k.staticTypes[f.slot]? = some f.type ∧ ¬ A a
theorem vx_L.moved {C n d : String} {A : Nat → Prop} {u U : State} {H : Heap} (hvm : u.vm.Alike U.vm) (h : vx_L C n d A u H) : vx_L C n d A U H := by
  obtain ⟨c, k, i, f, a, cell, h1, h2, h3, h4, h5, h6, h7, h8, h9, h10⟩ := h
  obtain ⟨k', hi', he⟩ := State.fieldFound?_setVm hvm h2
  exact ⟨c, k', i, f, a, cell, by rw [hvm.findClass]; exact h1, hi', h3, by rw [he]; exact h4, h5, h6, h7, h8, by rw [he]; exact h9, h10⟩
theorem vx_L.kept {C n d : String} {A : Nat → Prop} {U : State} {H H1 : Heap} (h : vx_L C n d A U H) (hq : ∀ a : Nat, a < H.size → ¬ A a → H1[a]? = H[a]?) : vx_L C n d A U H1 := by
  obtain ⟨c, k, i, f, a, cell, h1, h2, h3, h4, h5, h6, h7, h8, h9, h10⟩ := h
  exact ⟨c, k, i, f, a, cell, h1, h2, h3, h4, by rw [hq a (Array.getElem?_eq_some_iff.mp h5).1 h10]; exact h5, h6, h7, h8, h9, h10⟩
theorem vx_L.narrow {C n d : String} {A B : Nat → Prop} {U : State} {H : Heap} (h : vx_L C n d A U H) (hAB : ∀ q, B q → A q) : vx_L C n d B U H := by
  obtain ⟨c, k, i, f, a, cell, h1, h2, h3, h4, h5, h6, h7, h8, h9, h10⟩ := h
  exact ⟨c, k, i, f, a, cell, h1, h2, h3, h4, h5, h6, h7, h8, h9, fun z => h10 (hAB _ z)⟩
theorem vx_L.word {C n d : String} {A : Nat → Prop} {s : State} {args : Array Value} (h : vx_L C n d A s s.heap) : (Cond.laysStatic C n d).before args s = true := by
  obtain ⟨c, k, i, f, a, cell, h1, h2, h3, h4, h5, h6, h7, h8, h9, -⟩ := h
  show (Cond.laysStatic C n d).holds args s none s [] = true
  exact Cond.laysStatic_of h1 h2 h3 h4 h5 h6 h7 h8 h9
/-- .. and what it holds: null or some reference -/
def vx_Zq (C n d : String) (A : Nat → Prop) (U : State) (H : Heap) : Prop := va_Zq C n d A U H ∧ vx_L C n d A U H
theorem vx_Zq.moved {C n d : String} {A : Nat → Prop} {u U : State} {H : Heap} (hvm : u.vm.Alike U.vm) (h : vx_Zq C n d A u H) : vx_Zq C n d A U H := ⟨va_Zq.moved hvm h.1, vx_L.moved hvm h.2⟩
theorem vx_Zq.kept {C n d : String} {A : Nat → Prop} {U : State} {H H1 : Heap} (h : vx_Zq C n d A U H) (hq : ∀ a : Nat, a < H.size → ¬ A a → H1[a]? = H[a]?) : vx_Zq C n d A U H1 := ⟨va_Zq.kept h.1 hq, vx_L.kept h.2 hq⟩
theorem vx_Zq.narrow {C n d : String} {A B : Nat → Prop} {U : State} {H : Heap} (h : vx_Zq C n d A U H) (hAB : ∀ q, B q → A q) : vx_Zq C n d B U H := ⟨va_Zq.narrow h.1 hAB, vx_L.narrow h.2 hAB⟩
theorem vx_Zqof {args : Array Value} {s : State} {C n d : String} {A : Nat → Prop} (hl : (Cond.laysStatic C n d).before args s = true) (hini : (Cond.initialized C).before args s = true) (h : (Cond.isRef (.static C n d)).before args s = true) (hA : ∀ a : Nat, a < s.heap.size → ¬ A a) : vx_Zq C n d A s s.heap := by
  refine ⟨va_Zqof hl hini h hA, ?_⟩
  obtain ⟨c, k, i, f, a, cell, h1, h2, h3, h4, h5, h6, h7, h8, h9⟩ := Cond.laysStatic_spec hl
  exact ⟨c, k, i, f, a, cell, h1, h2, h3, h4, h5, h6, h7, h8, h9, hA a (Array.getElem?_eq_some_iff.mp h5).1⟩
theorem vx_isRef {C n d : String} {v : Value} {A : Nat → Prop} {s : State} {args : Array Value} (h : va_Z C n d v A s s.heap) (hv : v.isRef = true) : (Cond.isRef (.static C n d)).before args s = true := by
  obtain ⟨cf, kf, fi, f, a, cell, h1, h2, h3, h4, h5, h6, h7, -⟩ := h
  have he : (Term.static C n d).eval args s none [] s = some v := by
    simp [Term.eval, State.fieldNamed?, h1, h2, h4, h5, h6, h7]
  simp only [Cond.before, Cond.holds, Cond.value, he]
  cases v <;> simp_all [Value.isRef]
theorem vx_isRefq {C n d : String} {A : Nat → Prop} {s : State} {args : Array Value} (h : va_Zq C n d A s s.heap) : (Cond.isRef (.static C n d)).before args s = true := by
  rcases h with h | ⟨t, h⟩
  · exact vx_isRef h rfl
  · exact vx_isRef h rfl
/-- the same frame, seen from here: as if the method were called anew in this heap -/
theorem vx_rebase {T : State} (X : Stand p l e R s m args below meth c T locs cells slots) {R' : Room} (hf : R'.frames ≤ R.frames) (hl : R'.locals ≤ R.locals) (hc : cells + R'.cells ≤ R.cells) (hs : slots + R'.slots ≤ R.slots) :
    Stand p l e R' ((T.setVm s.vm).setFrames (.invoking m args :: below)) m args below meth c T [] 0 0 := by
  have htop : (T.setVm s.vm).topJava?.isSome := X.here.top
  have hF : ((T.setVm s.vm).setFrames (.invoking m args :: below)).frames = .invoking m args :: below := State.frames_setFrames _ (State.cur_lt_of_top htop)
  obtain ⟨g₀, hg0⟩ := Option.isSome_iff_exists.mp htop
  obtain ⟨r, hr⟩ := State.topJava?_eq_some.mp hg0
  have hl9 : e.platform.stackLimits (T.setVm s.vm).me = e.platform.stackLimits s.me := X.limits
  have hb9 : (T.setVm s.vm).me.stackBytes = s.me.stackBytes := X.bytes
  refine ⟨X.admits, X.cas, X.clock, hF, ?_, X.hears, X.method, X.code, X.here, X.tail, X.warmed, ?_, ?_, ?_⟩
  · have h := X.room
    have hU : ((T.setVm s.vm).setFrames (.invoking m args :: below)).localsInUse = s.localsInUse := by
      rw [State.localsInUse_invoking hF (meth := meth) (c := c) X.method X.code, State.localsInUse_invoking X.frames X.method X.code]
    simp only [State.hasRoom, Bool.and_eq_true, decide_eq_true_eq] at h ⊢
    obtain ⟨⟨⟨⟨h1, h2, h3, h4, h5, h6⟩, h7⟩, h8⟩, h9⟩ := h
    rw [X.frames, List.length_cons] at h2 h3
    have q1 := X.heapSize
    have q2 := X.used
    simp only [hF, hU, List.length_cons, State.stackLimits_setFrames, State.stackBytes_setFrames, hl9, hb9]
    refine ⟨⟨⟨⟨by omega, by omega, by omega, by omega, by omega, h6⟩, ?_⟩, ?_⟩, X.book⟩
    · show T.heap.size + R'.cells ≤ e.platform.maxCells
      omega
    · show T.slotsUsed + R'.slots ≤ e.platform.maxSlots
      omega
  · rw [State.stackLimits_setFrames]; rfl
  · rw [State.stackBytes_setFrames]; rfl
  · refine ⟨?_, Nat.le_refl _, Nat.le_refl _, ?_, ?_, fun a c9 h9 => ⟨c9, h9, rfl, rfl, fun _ _ => rfl⟩⟩
    · obtain ⟨t, ht, -⟩ := State.frames_cons hr
      show T.setVm s.vm = { ((T.setVm s.vm).setFrames (.invoking m args :: below)).setFrames (T.setVm s.vm).frames with heap := T.heap, slotsUsed := T.slotsUsed }
      rw [State.setFrames_setFrames, State.setFrames_self ht]
      rfl
    · show T.slotsUsed = T.slotsUsed + ((T.heap.toList.drop T.heap.size).map (·.slots.size)).sum
      rw [List.drop_eq_nil_of_le (Nat.le_of_eq Array.length_toList)]
      rfl
    · show ((T.heap.toList.drop T.heap.size).map (·.slots.size)).sum ≤ 0
      rw [List.drop_eq_nil_of_le (Nat.le_of_eq Array.length_toList)]
      exact Nat.le_refl _
/-- 'throw new E()': new; dup; invokespecial; athrow -/
theorem vx_throw0 {cc : ByteArray} {pc : Nat} (hexec : p.tables.exec = Jvm.exec) (hb : c.code = cc) (hl : l.stackTraces = false) {own cls : String} {names : List String} {ik ic mc ms : Nat} {A : Nat → Prop}
    (hown : s.vm.findClass own = some m.cls) (hcls : Bundle.fit cls = true) (hnames : ∀ n ∈ names, Bundle.fit n = true)
    (hk : (Cond.classLink own ik cls).before args s = true) (hini : (Cond.initialized cls).before args s = true) (hat : ∀ w ∈ vx_at0 own ic cls names, w.before args s = true)
    (hgood : ∀ w ∈ Cond.classLink own ik cls :: Cond.initialized cls :: vx_at0 own ic cls names, vx_ot w = true)
    (hU : vx_Zq Bundle.tN "UNASSIGNED_STACK" Bundle.steD A s s.heap) (hN : vx_Zq Bundle.tN "SUPPRESSED_SENTINEL" Bundle.listD A s s.heap) (hS : va_S A s.heap H locs) (hsize : ls.size = c.maxLocals)
    (d0 : decode cc pc = .ok (.new ik, 3)) (d3 : decode cc (pc + 3) = .ok (.dup, 1)) (d4 : decode cc (pc + 4) = .ok (.invokespecial ic, 3)) (d7 : decode cc (pc + 7) = .ok (.athrow, 1))
    (hout : ∀ x ∈ c.exceptionTable.toList, covers x (pc + 7) = false)
    (hRframes : names.length + 3 < R.frames) (hRlocals : (rest.map fun v => v.category).sum + (13 * (names.length + 1) + 42) ≤ R.locals) (hRcells : cells + 1 ≤ R.cells) (hRslots : slots + 6 ≤ R.slots) (hlocks : meth.locks = false)
    (hx : ∀ t : State, s.vm.Alike t.vm → H.size ≤ t.heap.size → (∀ q : Nat, q < H.size → t.heap[q]? = H[q]?) → XC cls s t)
    (hf : ∀ z ∈ locs, free z.base) (hc : cells + 1 ≤ mc) (hs : slots + 6 ≤ ms) :
    W p l e R s m args below meth c H locs cells slots (vx_MQ below Qc XC args s mc ms free) (F0 m pc ls rest) := by
  intro T hT X
  have htr : e.platform.stackTraces = false := (show e.platform.stackTraces = l.stackTraces by rw [X.admits.platform]).trans hl
  have Y := vx_rebase X (R' := { frames := R.frames, locals := R.locals, cells := 1, slots := 6 }) (Nat.le_refl _) (Nat.le_refl _) hRcells hRslots
  obtain ⟨s', hA⟩ : ∃ z, z = (T.setVm s.vm).setFrames (.invoking m args :: below) := ⟨_, rfl⟩
  rw [← hA] at Y
  have hvm : s'.vm = s.vm := by rw [hA]; rfl
  have hhp : s'.heap = H := by rw [hA]; exact hT
  have hW0 : s.WarmedH s'.vm := by rw [hvm]; exact State.WarmedH.refl s
  have hat' : ∀ w ∈ vx_at0 own ic cls names, w.before args s' = true := fun w hw => vx_ot_at hW0 hvm.symm (hgood w (List.mem_cons_of_mem _ (List.mem_cons_of_mem _ hw))) (hat w hw)
  have hk' : (Cond.classLink own ik cls).before args s' = true := vx_ot_at hW0 hvm.symm (hgood _ List.mem_cons_self) hk
  have hini' : (Cond.initialized cls).before args s' = true := vx_ot_at hW0 hvm.symm (hgood _ (List.mem_cons_of_mem _ List.mem_cons_self)) hini
  have hU' : vx_Zq Bundle.tN "UNASSIGNED_STACK" Bundle.steD A s' s'.heap := by rw [hhp]; exact vx_Zq.moved hW0.alike (hU.kept hS.2.1)
  have hN' : vx_Zq Bundle.tN "SUPPRESSED_SENTINEL" Bundle.listD A s' s'.heap := by rw [hhp]; exact vx_Zq.moved hW0.alike (hN.kept hS.2.1)
  have h : ∀ w ∈ Bundle.ownAtoms0 own ic cls names, w.before args s' = true := vx_own hat' (vx_isRefq hU'.1) (vx_isRefq hN'.1) hU'.2.word hN'.2.word
  have hown' : s'.vm.findClass own = some m.cls := by rw [hvm]; exact hown
  have hins : (Cond.instantiable cls 6).before args s' = true := h _ (by simp [Bundle.ownAtoms0])
  obtain ⟨vm₁, cX, kX, hfX, hkX, -, -, X₁, st1⟩ := Y.newCold hexec (own := own) (C := cls) (index := ik) (n := 6) hown' hk' hins hini'
    (g := F0 m pc ls rest) rfl (by rw [hb]; exact d0) (Nat.le_refl _) (Nat.le_refl _)
  generalize hT1 : (T.setVm vm₁).pushCell { cls := cX, slots := kX.instanceTypes.map defaultValue, vm := .none } = T1 at X₁ st1
  have hcat : (Value.ref T.heap.size).category = 1 := rfl
  have hcellA : T1.heap[T.heap.size]? = some (freshCell cX kX) := by rw [← hT1]; exact State.heap_pushCell_size _ _
  have d3' : decode c.code (pc + 3) = .ok (.dup, 1) := by rw [hb]; exact d3
  obtain ⟨U, hsteps, hrun, hend, hW, hsame, ce, hce, hO⟩ := X₁.ctorThrow0 hexec htr (own := own) (cls := cls) (names := names) (ic := ic) hown' hcls hnames h (fun x hx => nomatch hx) hfX hkX hcellA (by rw [hhp, hT]; exact Nat.le_refl _)
    (g := { method := m, pc := pc + 4, locals := ls, stack := .ref T.heap.size :: .ref T.heap.size :: rest, locked := none }) rfl hsize rfl rfl (rest := rest) rfl
    (by rw [hb]; exact d4) (by rw [hb]; exact d7) hout hRframes (by simp only [List.map_cons, List.sum_cons, hcat]; omega) hlocks
  obtain ⟨f1, f2⟩ := vx_frame hsame
  rw [hhp] at f1 f2
  have hWs : s.WarmedH U.vm := State.WarmedH.trans hW0 hW
  have hcl : s.vm.findClass cls = some ce.cls := by
    have h9 := hO.cls
    rw [hvm] at h9
    exact h9
  have hall : s.sameButNew ({ U with vm := s.vm } : State) locs mc ms := by
    subst hA
    obtain ⟨e1, e2⟩ := hsame
    rw [State.setFrames_setFrames] at e1
    have h2 : (T.setVm s.vm).sameButNew ({ U with vm := s.vm } : State) [] (0 + 1) (0 + 6) := ⟨e1, e2⟩
    have h3 := X.same.trans h2
    rw [List.append_nil] at h3
    exact h3.mono hc hs
  refine ⟨U, ?_, .threw T.heap.size, hrun, hend, Or.inr ⟨T.heap.size, rfl, cls, ce, locs, hx U hWs.alike f1 (fun q hq => f2 q hq (fun z hz => nomatch hz)), hce, hO.vm, hcl, hWs, hall, hf⟩⟩
  refine st1 _ ?_
  show Steps p.tables e below (T1.setTop { method := m, pc := pc + 3, locals := ls, stack := .ref T.heap.size :: rest, locked := none }) _
  jvm_step X₁.here [X₁.here.top, hexec, d3', Value.category]
  exact hsteps
/-- 'throw new E("text")': new; dup; ldc; invokespecial; athrow -/
theorem vx_throwS {cc : ByteArray} {pc : Nat} (hexec : p.tables.exec = Jvm.exec) (hb : c.code = cc) (hl : l.stackTraces = false) {own cls text : String} {names : List String} {ik is ic mc ms sa : Nat} {A : Nat → Prop}
    (hown : s.vm.findClass own = some m.cls) (hcls : Bundle.fit cls = true) (hnames : ∀ n ∈ names, Bundle.fit n = true)
    (hk : (Cond.classLink own ik cls).before args s = true) (hini : (Cond.initialized cls).before args s = true) (hstr : vk_R own is text sa s) (hat : ∀ w ∈ vx_atS own ic cls names, w.before args s = true)
    (hgood : ∀ w ∈ Cond.classLink own ik cls :: Cond.initialized cls :: vx_atS own ic cls names, vx_ot w = true)
    (hU : vx_Zq Bundle.tN "UNASSIGNED_STACK" Bundle.steD A s s.heap) (hN : vx_Zq Bundle.tN "SUPPRESSED_SENTINEL" Bundle.listD A s s.heap) (hS : va_S A s.heap H locs) (hsize : ls.size = c.maxLocals)
    (d0 : decode cc pc = .ok (.new ik, 3)) (d3 : decode cc (pc + 3) = .ok (.dup, 1)) (d4 : decode cc (pc + 4) = .ok (.ldc is, 2)) (d6 : decode cc (pc + 6) = .ok (.invokespecial ic, 3)) (d9 : decode cc (pc + 9) = .ok (.athrow, 1))
    (hout : ∀ x ∈ c.exceptionTable.toList, covers x (pc + 9) = false)
    (hRframes : names.length + 3 < R.frames) (hRlocals : (rest.map fun v => v.category).sum + (13 * (names.length + 1) + 43) ≤ R.locals) (hRcells : cells + 1 ≤ R.cells) (hRslots : slots + 6 ≤ R.slots) (hlocks : meth.locks = false)
    (hx : ∀ t : State, s.vm.Alike t.vm → H.size ≤ t.heap.size → (∀ q : Nat, q < H.size → t.heap[q]? = H[q]?) → XC cls s t)
    (hf : ∀ z ∈ locs, free z.base) (hc : cells + 1 ≤ mc) (hs : slots + 6 ≤ ms) :
    W p l e R s m args below meth c H locs cells slots (vx_MQ below Qc XC args s mc ms free) (F0 m pc ls rest) := by
  intro T hT X
  have htr : e.platform.stackTraces = false := (show e.platform.stackTraces = l.stackTraces by rw [X.admits.platform]).trans hl
  have Y := vx_rebase X (R' := { frames := R.frames, locals := R.locals, cells := 1, slots := 6 }) (Nat.le_refl _) (Nat.le_refl _) hRcells hRslots
  obtain ⟨s', hA⟩ : ∃ z, z = (T.setVm s.vm).setFrames (.invoking m args :: below) := ⟨_, rfl⟩
  rw [← hA] at Y
  have hvm : s'.vm = s.vm := by rw [hA]; rfl
  have hhp : s'.heap = H := by rw [hA]; exact hT
  have hW0 : s.WarmedH s'.vm := by rw [hvm]; exact State.WarmedH.refl s
  have hat' : ∀ w ∈ vx_atS own ic cls names, w.before args s' = true := fun w hw => vx_ot_at hW0 hvm.symm (hgood w (List.mem_cons_of_mem _ (List.mem_cons_of_mem _ hw))) (hat w hw)
  have hk' : (Cond.classLink own ik cls).before args s' = true := vx_ot_at hW0 hvm.symm (hgood _ List.mem_cons_self) hk
  have hini' : (Cond.initialized cls).before args s' = true := vx_ot_at hW0 hvm.symm (hgood _ (List.mem_cons_of_mem _ List.mem_cons_self)) hini
  have hU' : vx_Zq Bundle.tN "UNASSIGNED_STACK" Bundle.steD A s' s'.heap := by rw [hhp]; exact vx_Zq.moved hW0.alike (hU.kept hS.2.1)
  have hN' : vx_Zq Bundle.tN "SUPPRESSED_SENTINEL" Bundle.listD A s' s'.heap := by rw [hhp]; exact vx_Zq.moved hW0.alike (hN.kept hS.2.1)
  have h : ∀ w ∈ Bundle.ownAtoms own ic cls names, w.before args s' = true := vx_own hat' (vx_isRefq hU'.1) (vx_isRefq hN'.1) hU'.2.word hN'.2.word
  have hown' : s'.vm.findClass own = some m.cls := by rw [hvm]; exact hown
  have hins : (Cond.instantiable cls 6).before args s' = true := h _ (by simp [Bundle.ownAtoms])
  obtain ⟨vm₁, cX, kX, hfX, hkX, -, -, X₁, st1⟩ := Y.newCold hexec (own := own) (C := cls) (index := ik) (n := 6) hown' hk' hins hini'
    (g := F0 m pc ls rest) rfl (by rw [hb]; exact d0) (Nat.le_refl _) (Nat.le_refl _)
  generalize hT1 : (T.setVm vm₁).pushCell { cls := cX, slots := kX.instanceTypes.map defaultValue, vm := .none } = T1 at X₁ st1
  have hcat : (Value.ref T.heap.size).category = 1 := rfl
  have hcellA : T1.heap[T.heap.size]? = some (freshCell cX kX) := by rw [← hT1]; exact State.heap_pushCell_size _ _
  have d3' : decode c.code (pc + 3) = .ok (.dup, 1) := by rw [hb]; exact d3
  have d4' : decode c.code (pc + 4) = .ok (.ldc is, 2) := by rw [hb]; exact d4
  have hstr' : vk_R own is text sa s' := vk_R.warm hW0 hstr
  obtain ⟨U, hsteps, hrun, hend, hW, hsame, ce, hce, hO⟩ := X₁.ctorThrowS hexec htr (own := own) (cls := cls) (names := names) (ic := ic) hown' hcls hnames h (fun x hx => nomatch hx) hfX hkX hcellA (by rw [hhp, hT]; exact Nat.le_refl _) (msg := .ref sa) rfl
    (g := { method := m, pc := pc + 6, locals := ls, stack := .ref sa :: .ref T.heap.size :: .ref T.heap.size :: rest, locked := none }) rfl hsize rfl rfl (rest := rest) rfl
    (by rw [hb]; exact d6) (by rw [hb]; exact d9) hout hRframes (by simp only [List.map_cons, List.sum_cons, hcat]; omega) hlocks
  obtain ⟨f1, f2⟩ := vx_frame hsame
  rw [hhp] at f1 f2
  have hWs : s.WarmedH U.vm := State.WarmedH.trans hW0 hW
  have hcl : s.vm.findClass cls = some ce.cls := by
    have h9 := hO.cls
    rw [hvm] at h9
    exact h9
  have hall : s.sameButNew ({ U with vm := s.vm } : State) locs mc ms := by
    subst hA
    obtain ⟨e1, e2⟩ := hsame
    rw [State.setFrames_setFrames] at e1
    have h2 : (T.setVm s.vm).sameButNew ({ U with vm := s.vm } : State) [] (0 + 1) (0 + 6) := ⟨e1, e2⟩
    have h3 := X.same.trans h2
    rw [List.append_nil] at h3
    exact h3.mono hc hs
  refine ⟨U, ?_, .threw T.heap.size, hrun, hend, Or.inr ⟨T.heap.size, rfl, cls, ce, locs, hx U hWs.alike f1 (fun q hq => f2 q hq (fun z hz => nomatch hz)), hce, hO.vm, hcl, hWs, hall, hf⟩⟩
  refine st1 _ ?_
  show Steps p.tables e below (T1.setTop { method := m, pc := pc + 3, locals := ls, stack := .ref T.heap.size :: rest, locked := none }) _
  jvm_step X₁.here [X₁.here.top, hexec, d3', Value.category]
  exact X₁.ldcString hexec (own := own) (text := text) (index := is) (a := sa) hown' hstr'.1 hstr'.2
    (g := { method := m, pc := pc + 4, locals := ls, stack := .ref T.heap.size :: .ref T.heap.size :: rest, locked := none }) rfl d4' _ hsteps
/-- 'throw new E("text")', the text by a wide index -/
theorem vx_throwSW {cc : ByteArray} {pc : Nat} (hexec : p.tables.exec = Jvm.exec) (hb : c.code = cc) (hl : l.stackTraces = false) {own cls text : String} {names : List String} {ik is ic mc ms sa : Nat} {A : Nat → Prop}
    (hown : s.vm.findClass own = some m.cls) (hcls : Bundle.fit cls = true) (hnames : ∀ n ∈ names, Bundle.fit n = true)
    (hk : (Cond.classLink own ik cls).before args s = true) (hini : (Cond.initialized cls).before args s = true) (hstr : vk_R own is text sa s) (hat : ∀ w ∈ vx_atS own ic cls names, w.before args s = true)
    (hgood : ∀ w ∈ Cond.classLink own ik cls :: Cond.initialized cls :: vx_atS own ic cls names, vx_ot w = true)
    (hU : vx_Zq Bundle.tN "UNASSIGNED_STACK" Bundle.steD A s s.heap) (hN : vx_Zq Bundle.tN "SUPPRESSED_SENTINEL" Bundle.listD A s s.heap) (hS : va_S A s.heap H locs) (hsize : ls.size = c.maxLocals)
    (d0 : decode cc pc = .ok (.new ik, 3)) (d3 : decode cc (pc + 3) = .ok (.dup, 1)) (d4 : decode cc (pc + 4) = .ok (.ldc_w is, 3)) (d7 : decode cc (pc + 7) = .ok (.invokespecial ic, 3)) (d10 : decode cc (pc + 10) = .ok (.athrow, 1))
    (hout : ∀ x ∈ c.exceptionTable.toList, covers x (pc + 10) = false)
    (hRframes : names.length + 3 < R.frames) (hRlocals : (rest.map fun v => v.category).sum + (13 * (names.length + 1) + 43) ≤ R.locals) (hRcells : cells + 1 ≤ R.cells) (hRslots : slots + 6 ≤ R.slots) (hlocks : meth.locks = false)
    (hx : ∀ t : State, s.vm.Alike t.vm → H.size ≤ t.heap.size → (∀ q : Nat, q < H.size → t.heap[q]? = H[q]?) → XC cls s t)
    (hf : ∀ z ∈ locs, free z.base) (hc : cells + 1 ≤ mc) (hs : slots + 6 ≤ ms) :
    W p l e R s m args below meth c H locs cells slots (vx_MQ below Qc XC args s mc ms free) (F0 m pc ls rest) := by
  intro T hT X
  have htr : e.platform.stackTraces = false := (show e.platform.stackTraces = l.stackTraces by rw [X.admits.platform]).trans hl
  have Y := vx_rebase X (R' := { frames := R.frames, locals := R.locals, cells := 1, slots := 6 }) (Nat.le_refl _) (Nat.le_refl _) hRcells hRslots
  obtain ⟨s', hA⟩ : ∃ z, z = (T.setVm s.vm).setFrames (.invoking m args :: below) := ⟨_, rfl⟩
  rw [← hA] at Y
  have hvm : s'.vm = s.vm := by rw [hA]; rfl
  have hhp : s'.heap = H := by rw [hA]; exact hT
  have hW0 : s.WarmedH s'.vm := by rw [hvm]; exact State.WarmedH.refl s
  have hat' : ∀ w ∈ vx_atS own ic cls names, w.before args s' = true := fun w hw => vx_ot_at hW0 hvm.symm (hgood w (List.mem_cons_of_mem _ (List.mem_cons_of_mem _ hw))) (hat w hw)
  have hk' : (Cond.classLink own ik cls).before args s' = true := vx_ot_at hW0 hvm.symm (hgood _ List.mem_cons_self) hk
  have hini' : (Cond.initialized cls).before args s' = true := vx_ot_at hW0 hvm.symm (hgood _ (List.mem_cons_of_mem _ List.mem_cons_self)) hini
  have hU' : vx_Zq Bundle.tN "UNASSIGNED_STACK" Bundle.steD A s' s'.heap := by rw [hhp]; exact vx_Zq.moved hW0.alike (hU.kept hS.2.1)
  have hN' : vx_Zq Bundle.tN "SUPPRESSED_SENTINEL" Bundle.listD A s' s'.heap := by rw [hhp]; exact vx_Zq.moved hW0.alike (hN.kept hS.2.1)
  have h : ∀ w ∈ Bundle.ownAtoms own ic cls names, w.before args s' = true := vx_own hat' (vx_isRefq hU'.1) (vx_isRefq hN'.1) hU'.2.word hN'.2.word
  have hown' : s'.vm.findClass own = some m.cls := by rw [hvm]; exact hown
  have hins : (Cond.instantiable cls 6).before args s' = true := h _ (by simp [Bundle.ownAtoms])
  obtain ⟨vm₁, cX, kX, hfX, hkX, -, -, X₁, st1⟩ := Y.newCold hexec (own := own) (C := cls) (index := ik) (n := 6) hown' hk' hins hini'
    (g := F0 m pc ls rest) rfl (by rw [hb]; exact d0) (Nat.le_refl _) (Nat.le_refl _)
  generalize hT1 : (T.setVm vm₁).pushCell { cls := cX, slots := kX.instanceTypes.map defaultValue, vm := .none } = T1 at X₁ st1
  have hcat : (Value.ref T.heap.size).category = 1 := rfl
  have hcellA : T1.heap[T.heap.size]? = some (freshCell cX kX) := by rw [← hT1]; exact State.heap_pushCell_size _ _
  have d3' : decode c.code (pc + 3) = .ok (.dup, 1) := by rw [hb]; exact d3
  have d4' : decode c.code (pc + 4) = .ok (.ldc_w is, 3) := by rw [hb]; exact d4
  have hstr' : vk_R own is text sa s' := vk_R.warm hW0 hstr
  obtain ⟨U, hsteps, hrun, hend, hW, hsame, ce, hce, hO⟩ := X₁.ctorThrowS hexec htr (own := own) (cls := cls) (names := names) (ic := ic) hown' hcls hnames h (fun x hx => nomatch hx) hfX hkX hcellA (by rw [hhp, hT]; exact Nat.le_refl _) (msg := .ref sa) rfl
    (g := { method := m, pc := pc + 7, locals := ls, stack := .ref sa :: .ref T.heap.size :: .ref T.heap.size :: rest, locked := none }) rfl hsize rfl rfl (rest := rest) rfl
    (by rw [hb]; exact d7) (by rw [hb]; exact d10) hout hRframes (by simp only [List.map_cons, List.sum_cons, hcat]; omega) hlocks
  obtain ⟨f1, f2⟩ := vx_frame hsame
  rw [hhp] at f1 f2
  have hWs : s.WarmedH U.vm := State.WarmedH.trans hW0 hW
  have hcl : s.vm.findClass cls = some ce.cls := by
    have h9 := hO.cls
    rw [hvm] at h9
    exact h9
  have hall : s.sameButNew ({ U with vm := s.vm } : State) locs mc ms := by
    subst hA
    obtain ⟨e1, e2⟩ := hsame
    rw [State.setFrames_setFrames] at e1
    have h2 : (T.setVm s.vm).sameButNew ({ U with vm := s.vm } : State) [] (0 + 1) (0 + 6) := ⟨e1, e2⟩
    have h3 := X.same.trans h2
    rw [List.append_nil] at h3
    exact h3.mono hc hs
  refine ⟨U, ?_, .threw T.heap.size, hrun, hend, Or.inr ⟨T.heap.size, rfl, cls, ce, locs, hx U hWs.alike f1 (fun q hq => f2 q hq (fun z hz => nomatch hz)), hce, hO.vm, hcl, hWs, hall, hf⟩⟩
  refine st1 _ ?_
  show Steps p.tables e below (T1.setTop { method := m, pc := pc + 3, locals := ls, stack := .ref T.heap.size :: rest, locked := none }) _
  jvm_step X₁.here [X₁.here.top, hexec, d3', Value.category]
  exact X₁.ldcStringW hexec (own := own) (text := text) (index := is) (a := sa) hown' hstr'.1 hstr'.2
    (g := { method := m, pc := pc + 4, locals := ls, stack := .ref T.heap.size :: .ref T.heap.size :: rest, locked := none }) rfl d4' _ hsteps
end Ends
section Bodies
variable {l : Launch}
theorem vx_ofW {y : MethodName} {ws ws' : List Cond} {rm : Room} {Pc : Array Value → State → Prop} {Qc : Array Value → State → Outcome → State → Prop} {XC : String → State → State → Prop} {mc ms : Nat} {free : Addr → Prop} {cc : ByteArray} {maxL : Nat} {ret : Option FieldType}
    (hy : plainName y.cls = true) (hw : ws = Cond.code y cc maxL ret :: ws')
    (body : ∀ p e s m args below meth c s₁, BodyLoose p l y (headSpec ws rm) cc maxL ret e s m args below meth c s₁ → c.maxLocals = maxL → (∀ x ∈ c.exceptionTable.toList, False) → Pc args s →
      W p l e (headSpec ws rm).room s m args below meth c s.heap [] 0 0 (vx_MQ below Qc XC args s mc ms free) (entryFrame m args maxL)) : vx_Met l y ws rm Pc Qc XC mc ms free := by
  refine MetFree.of_bodyS (code := cc) (maxLocals := maxL) (ret := ret) hy ?_ ?_
  · intro args s m h hn
    obtain ⟨meth, c, h1, h2, h3, h4, h5, h6, -, -⟩ := Cond.code_spec hn (atoms_spec (ws := ws) h _ (by rw [hw]; exact List.mem_cons_self))
    exact ⟨meth, c, h1, h2, h3, h4, h5, h6⟩
  · intro p e s m args below meth c s₁ B hml hP _
    have hh0 : s₁.heap = s.heap := by rw [B.state]; rfl
    have ht : ∀ x ∈ c.exceptionTable.toList, False := by
      obtain ⟨meth9, c9, h1, h2, -, -, -, -, h7, -⟩ := Cond.code_spec B.named (atoms_spec (ws := ws) B.pre _ (by rw [hw]; exact List.mem_cons_self))
      cases Option.some.inj (h1.symm.trans B.method)
      cases Option.some.inj (h2.symm.trans (Stand.of_body B).code)
      intro x hx
      rw [Array.isEmpty_iff.mp h7] at hx
      cases hx
    obtain ⟨t, a1, o, b1, b2, b3⟩ := body p e s m args below meth c s₁ B hml ht hP s₁ hh0 (Stand.of_body B)
    exact ⟨t, o, a1, b1, b2, b3⟩
/-- the table of a body with handlers -/
theorem vx_table {p : Program} {x y : MethodName} {S : Spec} {cc bytes : ByteArray} {maxL maxL' : Nat} {ret ret' : Option FieldType} {e : Env} {s s₁ : State} {m : MethodId} {args : Array Value} {below : List Frame} {meth : Method} {c : Code} {hh : List (Nat × Nat × Nat × Nat)}
    (B : BodyLoose p l y S cc maxL ret e s m args below meth c s₁) (h : (Cond.codeWith y bytes maxL' ret' hh).before args s = true) : c.exceptionTable.toList = tableOf hh := by
  obtain ⟨m9, meth9, c9, hn9, h1, h2, -, -, h6, -⟩ := Cond.codeWith_spec h
  cases Option.some.inj (hn9.symm.trans B.named)
  cases Option.some.inj (h1.symm.trans B.method)
  cases Option.some.inj (h2.symm.trans (Stand.of_body B).code)
  rw [← h6, table_eq]
end Bodies
end VXA
/-! ===== END ===== -/
/-! ===== BEGIN a static call of a method with an exception table ===== -/
section VXS
variable {p : Program} {l : Launch} {e : Env} {R : Room} {s : State} {m : MethodId} {args : Array Value} {below : List Frame} {meth : Method} {c : Code} {T : State} {H : Heap} {locs : List Loc} {cells slots : Nat}
abbrev vx_CSW (R : Room) (s : State) (args : Array Value) (own : String) (index : Nat) (y : MethodName) (bytes : ByteArray) (maxL : Nat) (ret : Option FieldType) (hh : List (Nat × Nat × Nat × Nat)) (ws : List Cond) (rm : Room) (mc ms n : Nat) : Prop :=
  (rm.cells = mc ∧ rm.slots = ms ∧ rm.frames + 1 ≤ R.frames ∧ 8 + (maxL + 11) + rm.locals ≤ R.locals ∧ (∀ w ∈ ws, ∀ (a' : Array Value) (U : State), s.WarmedH U.vm → w.before a' U = true) ∧ Cond.codeWith y bytes maxL ret hh ∈ ws) ∧
  (Cond.codeWith y bytes maxL ret hh).before args s = true ∧ (Cond.initialized y.cls).before args s = true ∧ (y.cls ≠ "java/lang/invoke/MethodHandle" ∧ y.cls ≠ "java/lang/invoke/VarHandle") ∧
  (∀ sig, parseMethodDescriptor y.desc = some sig → n = sig.parameters.length) ∧ (Cond.methodLink own index y).before args s = true ∧ (Cond.static y).before args s = true
theorem vx_cwSW {own : String} {index maxL mc ms : Nat} {y : MethodName} {bytes : ByteArray} {ret : Option FieldType} {hh : List (Nat × Nat × Nat × Nat)} {Ts ws ws' : List Cond} {rm : Room} (n : Nat) (ht : ∀ w ∈ Ts, w.before args s = true) (hT : GoodIn Ts (va_wsS own index y ws)) (hw : ws = Cond.codeWith y bytes maxL ret hh :: ws') (hrc : rm.cells = mc) (hrs : rm.slots = ms)
    (hd : y.cls ≠ "java/lang/invoke/MethodHandle" ∧ y.cls ≠ "java/lang/invoke/VarHandle" ∧ (parseMethodDescriptor y.desc).map (fun d => d.parameters.length) = some n) (hR : rm.frames + 1 ≤ R.frames ∧ 8 + (maxL + 11) + rm.locals ≤ R.locals) :
    vx_CSW R s args own index y bytes maxL ret hh ws rm mc ms n := by
  have ok : ∀ w ∈ va_wsS own index y ws, w.before args s = true := fun w h => ht w (hT w h).1
  have hG : GoodIn Ts ws := fun w h => hT w (by unfold va_wsS; exact List.mem_append_right _ h)
  have hc : Cond.codeWith y bytes maxL ret hh ∈ ws := by rw [hw]; exact List.mem_cons_self
  refine ⟨⟨hrc, hrs, hR.1, hR.2, pay_in ht hG, hc⟩, ht _ (hG _ hc).1, ok _ (by simp [va_wsS]), ⟨hd.1, hd.2.1⟩, fun sig h => ?_, ok _ (by simp [va_wsS]), ok _ (by simp [va_wsS])⟩
  have h2 := hd.2.2
  rw [h] at h2
  exact (Option.some.inj h2).symm
theorem vx_callSW (X : Stand p l e R s m args below meth c T locs cells slots) (hexec : p.tables.exec = Jvm.exec) {own : String} {index : Nat} {y : MethodName} {bytes : ByteArray} {maxL : Nat} {ret : Option FieldType} {hh : List (Nat × Nat × Nat × Nat)}
    (hown : s.vm.findClass own = some m.cls) (hlink : (Cond.methodLink own index y).before args s = true) (hstat : (Cond.static y).before args s = true) (hinit : (Cond.initialized y.cls).before args s = true)
    (hcode : (Cond.codeWith y bytes maxL ret hh).before args s = true) (hy : y.cls ≠ "java/lang/invoke/MethodHandle" ∧ y.cls ≠ "java/lang/invoke/VarHandle")
    {W9 : Nat} {Pre : Pt → Array Value → Prop} {Post : Pt → Array Value → Option Value → Pt → Prop} (hK : Back l R p e below s args y 3 W9 Pre Post)
    {g : JFrame} (hg : g.method = m) (hsize : g.locals.size = c.maxLocals) {argsL rest : List Value} (hlen : ∀ sig, parseMethodDescriptor y.desc = some sig → argsL.length = sig.parameters.length)
    (hstack : g.stack = argsL.reverse ++ rest) (hW : 2 * g.monitorRoom + (rest.map fun v => v.category).sum ≤ W9) (hdg : decode c.code g.pc = .ok (.invokestatic index, 3))
    (hpre : ∀ vm₁, s.WarmedH vm₁ → Pre ⟨T.setVm vm₁, locs, cells, slots⟩ argsL.toArray) :
    ∃ (v : Option Value) (vm₁ : Vm) (B : Pt), s.WarmedH vm₁ ∧ Stand p l e R s m args below meth c B.U B.locs B.cells B.slots ∧ Post ⟨T.setVm vm₁, locs, cells, slots⟩ argsL.toArray v B ∧
      ∀ target, Steps p.tables e below (B.U.setTop { g with pc := g.pc + 3, stack := v.toList ++ rest }) target → Steps p.tables e below (T.setTop g) target := by
  obtain ⟨mk, methM, cM, hnamed, hmethM, -, -, -, -, -, -, hsigM⟩ := Cond.codeWith_spec hcode
  have hstatic : methM.isStatic = true := Cond.static_spec hnamed hmethM hstat
  obtain ⟨kP, hkP, -⟩ := className_of_methodNamed hnamed
  have hinitP : kP.init = .initialized := Cond.initialized_spec (findClass_of_methodNamed hnamed) hkP hinit
  obtain ⟨vm₁, X₁, hstep₁⟩ := X.invokestatic hexec hown hlink hnamed hmethM hstatic hkP hinitP hy (g := g) hg (argsL := argsL) (rest := rest) (hlen _ hsigM) hstack hdg
  obtain ⟨v, B, X', hpost, hsteps⟩ := hK m meth c ⟨T.setVm vm₁, locs, cells, slots⟩ { g with stack := rest } (.invokestatic index) mk argsL.toArray X₁ hg hsize hdg hW (X₁.named hnamed) (hpre vm₁ X₁.warmed)
  exact ⟨v, vm₁, B, X₁.warmed, X', hpost, fun target h => hstep₁ _ fun acts => by rw [doInvoke_state]; exact hsteps.trans h⟩
theorem vx_runSW {y : MethodName} {bytes cc : ByteArray} {maxL nL mc ms n index : Nat} {ret : Option FieldType} {hh : List (Nat × Nat × Nat × Nat)} {ws : List Cond} {rm : Room} {Pc : Array Value → State → Prop} {Qc : Array Value → State → Outcome → State → Prop} {free : Addr → Prop} {Ts : List Cond} {own : String} {As rest : List Value} {g : JFrame}
    (S : CallFix p m c cc nL s args Ts own) (hM : Met l y ws rm Pc Qc mc ms free) (cw : vx_CSW R s args own index y bytes maxL ret hh ws rm mc ms n) (hp : PreS s H Pc As)
    (hg : g.method = m) (hn : As.length = n) (hsize : g.locals.size = nL) (hstack : g.stack = As.reverse ++ rest) (hW : 2 * g.monitorRoom + (rest.map fun v => v.category).sum ≤ 8) (hdg : decode cc g.pc = .ok (.invokestatic index, 3)) (hf : cells + mc ≤ R.cells ∧ slots + ms ≤ R.slots) :
    va_Run p l e R s m args below meth c H locs cells slots mc ms g rest (Qc As.toArray) (free) := by
  obtain ⟨⟨hrc, hrs, hfr, hlo, hws, hcw⟩, hcode, hini, hy, hlen, hl, hstt⟩ := cw
  have hK : Back l R p e below s args y 3 8 (PreOf R mc ms Pc) (PostOf Qc mc ms free) := va_backW (hh := hh) (bytes := bytes) (maxL := maxL) (ret := ret) hM hp.1 hrc hrs hfr hlo hws hcw (fun a' U hW => word_at hW (Or.inl (by first | rfl | simp [Cond.onTables, Cond.keeps, Cond.steady])) hini)
  obtain ⟨hx, hb, hml, ho, -⟩ := S
  intro T hT X
  obtain ⟨v, vm₁, ⟨U', l2, c2, s2⟩, hW₁, X', ⟨g', mk, t, L, e1, e2, hq, h1, hL, h2, h3⟩, st⟩ := vx_callSW X hx (hh := hh) (bytes := bytes) (maxL := maxL) (ret := ret) ho hl hstt hini hcode hy hK hg (hsize.trans hml.symm) (argsL := As) (rest := rest) (fun sig h => hn.trans (hlen sig h)) hstack hW (by rw [hb]; exact hdg)
    (fun vm₁ hW₁ => ⟨hf.1, hf.2, hp.2 (T.setVm vm₁) hT hW₁⟩)
  dsimp only [Pt.U, Pt.locs, Pt.cells, Pt.slots] at X' e1 e2 h1 h2 h3 st
  subst h1; subst h2; subst h3
  exact ⟨v, (T.setVm vm₁).calling g' mk As.toArray, t, U', L, hT, X', hL, e1, e2, hq, st⟩
/-- not caught here, past rows that name other classes: it goes on to the caller -/
theorem vx_outP {p : Program} {l : Launch} {e : Env} {R : Room} {s : State} {m : MethodId} {args : Array Value} {below : List Frame} {meth : Method} {c : Code} {H : Heap} {locs : List Loc} {cells slots : Nat} {free : Addr → Prop} {ls : Array Slot} {rest : List Value} {Qc : Array Value → State → Outcome → State → Prop} {XC : String → State → State → Prop}
    {pc : Nat} {own E : String} {ce : Cell} {q : Addr} {mc ms : Nat} (hown : s.vm.findClass own = some m.cls) (hlocks : meth.locks = false)
    (hpass : ∀ z ∈ c.exceptionTable.toList, covers z pc = false ∨ (z.catchType ≠ 0 ∧ ∃ nm : String, (Cond.classLink own z.catchType nm).before args s = true ∧ va_Nc E nm s)) (hcell : H[q]? = some ce) (hv : ce.vm = .none) (hcl : s.vm.findClass E = some ce.cls)
    (hx : ∀ t : State, t.heap = H → s.vm.Alike t.vm → XC E s t) (hf : ∀ z ∈ locs, free z.base) (hc : cells ≤ mc) (hs : slots ≤ ms) :
    vx_W p l e R s m args below meth c H locs cells slots (vx_MQ below Qc XC args s mc ms free) (F0 m pc ls rest) q := by
  intro T hT X
  have hpl : e.platform.magicAccessors = ({} : Platform).magicAccessors := by rw [X.admits.platform]
  obtain ⟨vm', hW', X', st⟩ := X.outThrough hlocks q (g := F0 m pc ls rest) rfl rfl rfl (cell := ce) (by rw [hT]; exact hcell) (by rw [hv]; rfl)
    (by obtain ⟨k9, h9, -⟩ := Vm.findClass_spec hcl; exact ⟨k9, h9⟩) (fun z hz => by
      rcases hpass z hz with h | ⟨hz0, nm, hl1, hn1⟩
      · exact Or.inl h
      · obtain ⟨c6, hc6, hcl6⟩ := Cond.classLink_spec hown hl1 e.platform hpl
        obtain ⟨a8, b8, h1, h2, h3⟩ := hn1
        cases Option.some.inj (h1.symm.trans hcl)
        cases Option.some.inj (h2.symm.trans hc6)
        exact Or.inr ⟨hz0, _, hcl6, h3⟩)
  obtain ⟨g₀, hfr⟩ := X'.frames_eq
  have hcell9 : ((T.setVm vm').setFrames (.throwing q :: below)).heap[q]? = some ce := by
    show T.heap[q]? = some ce
    rw [hT]; exact hcell
  have hend : Ended ((T.setVm vm').setFrames (.throwing q :: below)) below (.threw q) := State.frames_setFrames _ (State.cur_lt_of_frames hfr)
  refine ⟨(T.setVm vm').setFrames (.throwing q :: below), ?_, .threw q, X'.here.running, hend, Or.inr ⟨q, rfl, E, ce, locs, hx _ hT (X'.ends _).1.alike, hcell9, hv, hcl, (X'.ends _).1, (X'.ends _).2.mono hc hs, hf⟩⟩
  rw [X.pushThrowing_eq]
  exact st
/-- a thing of a world lies in the heap -/
theorem vx_lt {D : va_G} {cl : List vw_C} {ws : va_W} {H1 : Heap} (h : va_P D cl ws H1) {k : Nat} {q : Nat × va_E} (hk : ws[k]? = some q) : q.1 < H1.size := (h k q hk).lt
end VXS
/-! ===== END ===== -/
/-! ===== BEGIN methods with a table of their own: called by a name, returning or throwing ===== -/
section VXH
/-! vx_backW, vx_callVX, vx_callSX, vx_callVW, vx_runVW, vx_runVX, vx_runSX, vx_ofWH follow the same proofs as their sisters above (Free/Laws.lean, Shelf42/LK1.lean); vx_outP calls Shelf42/NT130.lean (outThrough). -/
section
variable {l : Launch} {R : Room} {p : Program} {e : Env} {below : List Frame} {s : State} {sargs : Array Value} {y : MethodName} {len W9 : Nat}
theorem vx_backW {ws : List Cond} {rm : Room} {Pc : Array Value → State → Prop} {Qc : Array Value → State → Outcome → State → Prop} {XC : String → State → State → Prop} {mc ms : Nat} {free : Addr → Prop} {bytes : ByteArray} {maxL : Nat} {ret : Option FieldType} {hh : List (Nat × Nat × Nat × Nat)}
    (hM : vx_Met l y ws rm Pc Qc XC mc ms free) (hblind : FrameBlind Pc) (hrc : rm.cells = mc) (hrs : rm.slots = ms)
    (hframes : rm.frames + 1 ≤ R.frames) (hlocals : W9 + (maxL + 11) + rm.locals ≤ R.locals)
    (hws : ∀ w ∈ ws, ∀ a' U, s.WarmedH U.vm → w.before a' U = true) (hcode : Cond.codeWith y bytes maxL ret hh ∈ ws) (hinit : ∀ a' U, s.WarmedH U.vm → (Cond.initialized y.cls).before a' U = true) :
    vx_Back l R p e below s sargs y len W9 (PreOf R mc ms Pc) (PostOf Qc mc ms free) (vx_Post XC mc ms free) := by
  intro m meth c A g ig mk a X hg hsize hdg hW hn hp
  have h1 : (headSpec ws rm).pre.before a A.U = true := atoms_intro fun w hw => hws w hw _ _ X.warmed
  have h2 : (Cond.codeWith y bytes maxL ret hh).before a A.U = true := hws _ hcode _ _ X.warmed
  have h3 : (Cond.initialized y.cls).before a A.U = true := hinit _ _ X.warmed
  have h4 : A.cells + (headSpec ws rm).room.cells ≤ R.cells := by rw [show (headSpec ws rm).room.cells = mc from hrc]; exact hp.1
  have h5 : A.slots + (headSpec ws rm).room.slots ≤ R.slots := by rw [show (headSpec ws rm).room.slots = ms from hrs]; exact hp.2.1
  have hPc : Pc a (A.U.calling g mk a) := hblind _ _ _ _ hp.2.2
  obtain ⟨U, Ls, c0, s0⟩ := A
  dsimp only [Pt.U, Pt.locs, Pt.cells, Pt.slots] at h1 h2 h3 h4 h5 X hn hPc ⊢
  obtain ⟨m9, methY, cY, hn9, hmY, hcY, -, hlY, -⟩ := Cond.codeWith_spec h2
  cases Option.some.inj (hn9.symm.trans hn)
  obtain ⟨kY, hkY, -⟩ := className_of_methodNamed hn
  have hinitY : kY.init = .initialized := Cond.initialized_spec (findClass_of_methodNamed hn) hkY h3
  have h : At U g.method c below := by rw [hg]; exact X.here
  have hlocals9 : W9 + (maxL + 11) + (headSpec ws rm).room.locals ≤ R.locals := hlocals
  have happ : (headSpec ws rm).appliesLoose y e.platform (U.calling g mk a) = true :=
    Spec.appliesLoose_calling (g := g) h hdg hn hkY hinitY
      (X.room_calling (g := g) (R' := (headSpec ws rm).room) hsize hmY hcY hframes (by rw [hlY]; omega) h4 h5) h1
  obtain ⟨mid, hmid⟩ := h.above
  have hfr : (U.setTop g).frames = (.java g :: mid) ++ below := by rw [State.frames_setTop' g h.top, hmid]; rfl
  obtain ⟨o, s₂, hsteps, -, hend, hq⟩ := Steps.callFree hM p X.admits X.cas X.clock (acts := []) hfr happ hPc trivial
  have hq' : vx_Q Qc XC mc ms free a (U.calling g mk a) o s₂ := hq
  rw [State.frames_setTop' g h.top] at hend
  obtain ⟨g₀, hg0⟩ := Option.isSome_iff_exists.mp h.top
  obtain ⟨r, hr⟩ := State.topJava?_eq_some.mp hg0
  have hr' : (({ U with heap := s₂.heap, slotsUsed := s₂.slotsUsed } : State).setVm s₂.vm).frames = .java g₀ :: r := hr
  rcases hq' with ⟨hqc, L, hfe, hL⟩ | ⟨q, rfl, E, ce, L, hx, hce, hcv, hcl, hW₂, hsm, hL⟩
  · obtain ⟨⟨v, rfl⟩, hW₂, e2, q2, q3, q4, q5, q6⟩ := id hfe
    have e3 : s₂ = ({ (U.calling g mk a).setFrames s₂.frames with heap := s₂.heap, slotsUsed := s₂.slotsUsed } : State).setVm s₂.vm := by
      have : s₂ = ({ s₂ with vm := (U.calling g mk a).vm } : State).setVm s₂.vm := rfl
      rw [e2] at this
      exact this
    obtain ⟨c₂, i₂, len₂, hc₂, hd₂, hf₂⟩ := hend
    have hW' : U.WarmedH s₂.vm := hW₂
    have hcc : c₂ = c := by
      have h1 : s₂.code? g.method = U.code? g.method := by
        rw [State.code?_eq, State.code?_eq, hW'.alike.method?]
      exact Option.some.inj (hc₂.symm.trans (h1.trans h.code))
    subst hcc
    have hlen : len₂ = len := by rw [hdg] at hd₂; cases hd₂; rfl
    subst hlen
    have hs₂ : s₂ = (({ U with heap := s₂.heap, slotsUsed := s₂.slotsUsed } : State).setVm s₂.vm).setTop { g with pc := g.pc + len₂, stack := v.toList ++ g.stack } := by
      refine e3.trans ?_
      rw [hf₂, State.calling_eq h.top, State.setFrames_setFrames, State.setTop_of_frames _ hr', hr]
      rfl
    have hsame : U.sameButNew ({ U with heap := s₂.heap, slotsUsed := s₂.slotsUsed } : State) L mc ms := by
      refine ⟨?_, q2, q3, q4, q5, q6⟩
      obtain ⟨t, ht, -⟩ := State.frames_cons hr
      show ({ U with heap := s₂.heap, slotsUsed := s₂.slotsUsed } : State) = { U.setFrames U.frames with heap := s₂.heap, slotsUsed := s₂.slotsUsed }
      rw [State.setFrames_self ht]
    subst hg
    refine Or.inl ⟨v, ⟨(({ U with heap := s₂.heap, slotsUsed := s₂.slotsUsed } : State).setVm s₂.vm), Ls ++ L, c0 + mc, s0 + ms⟩,
      ⟨X.admits, X.cas, X.clock, X.frames, X.room, X.hears, X.method, X.code, (X.here.setHeapUsed s₂.heap s₂.slotsUsed).setVm hW'.alike, X.tail, State.WarmedH.trans X.warmed hW', X.limits, X.bytes, X.same.trans (hsame.setVm s.vm)⟩,
      ⟨g, mk, s₂, L, rfl, rfl, hqc, rfl, hL, rfl, rfl⟩, ?_⟩
    show Steps p.tables e below _ ((({ U with heap := s₂.heap, slotsUsed := s₂.slotsUsed } : State).setVm s₂.vm).setTop { g with pc := g.pc + len₂, stack := v.toList ++ g.stack })
    rw [← hs₂]
    exact hsteps
  · obtain ⟨e2, q2, q3, q4, q5, q6⟩ := id hsm
    have e3 : s₂ = ({ (U.calling g mk a).setFrames s₂.frames with heap := s₂.heap, slotsUsed := s₂.slotsUsed } : State).setVm s₂.vm := by
      have : s₂ = ({ s₂ with vm := (U.calling g mk a).vm } : State).setVm s₂.vm := rfl
      rw [e2] at this
      exact this
    have hf₂ : s₂.frames = .throwing q :: .java g :: U.frames.tail := hend
    have hW' : U.WarmedH s₂.vm := hW₂
    have hs₂ : s₂ = ((({ U with heap := s₂.heap, slotsUsed := s₂.slotsUsed } : State).setVm s₂.vm).setTop g).pushFrame (.throwing q) := by
      refine e3.trans ?_
      rw [hf₂, State.calling_eq h.top, State.setFrames_setFrames, State.pushFrame, State.frames_setTop _ hr', State.setTop_of_frames _ hr', State.setFrames_setFrames, hr]
      rfl
    have hsame : U.sameButNew ({ U with heap := s₂.heap, slotsUsed := s₂.slotsUsed } : State) L mc ms := by
      refine ⟨?_, q2, q3, q4, q5, q6⟩
      obtain ⟨t, ht, -⟩ := State.frames_cons hr
      show ({ U with heap := s₂.heap, slotsUsed := s₂.slotsUsed } : State) = { U.setFrames U.frames with heap := s₂.heap, slotsUsed := s₂.slotsUsed }
      rw [State.setFrames_self ht]
    subst hg
    refine Or.inr ⟨q, ⟨(({ U with heap := s₂.heap, slotsUsed := s₂.slotsUsed } : State).setVm s₂.vm), Ls ++ L, c0 + mc, s0 + ms⟩,
      ⟨X.admits, X.cas, X.clock, X.frames, X.room, X.hears, X.method, X.code, (X.here.setHeapUsed s₂.heap s₂.slotsUsed).setVm hW'.alike, X.tail, State.WarmedH.trans X.warmed hW', X.limits, X.bytes, X.same.trans (hsame.setVm s.vm)⟩,
      ⟨g, mk, s₂, L, E, ce, rfl, rfl, hx, hce, hcv, hcl, rfl, hL, rfl, rfl⟩, ?_⟩
    show Steps p.tables e below _ (((({ U with heap := s₂.heap, slotsUsed := s₂.slotsUsed } : State).setVm s₂.vm).setTop g).pushFrame (.throwing q))
    rw [← hs₂]
    exact hsteps
end
variable {p : Program} {l : Launch} {e : Env} {R : Room} {s : State} {m : MethodId} {args : Array Value} {below : List Frame} {meth : Method} {c : Code} {T : State} {H : Heap} {locs : List Loc} {cells slots : Nat}
theorem vx_callVX (X : Stand p l e R s m args below meth c T locs cells slots) (hexec : p.tables.exec = Jvm.exec) {own C : String} {index : Nat} {y : MethodName} {bytes : ByteArray} {maxL : Nat} {ret : Option FieldType} {hh : List (Nat × Nat × Nat × Nat)}
    (hown : s.vm.findClass own = some m.cls) (hlink : (Cond.methodLink own index y).before args s = true) (hinst : (Cond.instanceMethod y).before args s = true) (hsel : (Cond.selects C y y).before args s = true)
    (hcode : (Cond.codeWith y bytes maxL ret hh).before args s = true) (hy : y.cls ≠ "java/lang/invoke/MethodHandle" ∧ y.cls ≠ "java/lang/invoke/VarHandle")
    {W9 : Nat} {Pre : Pt → Array Value → Prop} {Post : Pt → Array Value → Option Value → Pt → Prop} {PostX : Pt → Array Value → Addr → Pt → Prop} (hK : vx_Back l R p e below s args y 3 W9 Pre Post PostX)
    {b : Addr} {cellB : Cell} (hcell : T.heap[b]? = some cellB) (hobj : cellB.vm.isStatics = false) (hcls : s.vm.findClass C = some cellB.cls)
    {g : JFrame} (hg : g.method = m) (hsize : g.locals.size = c.maxLocals) {argsL rest : List Value} (hlen : ∀ sig, parseMethodDescriptor y.desc = some sig → argsL.length = sig.parameters.length)
    (hstack : g.stack = argsL.reverse ++ .ref b :: rest) (hW : 2 * g.monitorRoom + (rest.map fun v => v.category).sum ≤ W9) (hdg : decode c.code g.pc = .ok (.invokevirtual index, 3))
    (hpre : ∀ vm₁, s.WarmedH vm₁ → Pre ⟨T.setVm vm₁, locs, cells, slots⟩ (Value.ref b :: argsL).toArray) :
    (∃ (v : Option Value) (vm₁ : Vm) (B : Pt), s.WarmedH vm₁ ∧ Stand p l e R s m args below meth c B.U B.locs B.cells B.slots ∧ Post ⟨T.setVm vm₁, locs, cells, slots⟩ (Value.ref b :: argsL).toArray v B ∧
      ∀ target, Steps p.tables e below (B.U.setTop { g with pc := g.pc + 3, stack := v.toList ++ rest }) target → Steps p.tables e below (T.setTop g) target) ∨
    (∃ (q : Addr) (vm₁ : Vm) (B : Pt), s.WarmedH vm₁ ∧ Stand p l e R s m args below meth c B.U B.locs B.cells B.slots ∧ PostX ⟨T.setVm vm₁, locs, cells, slots⟩ (Value.ref b :: argsL).toArray q B ∧
      Steps p.tables e below (T.setTop g) ((B.U.setTop { g with stack := rest }).pushFrame (.throwing q))) := by
  obtain ⟨mk, methM, hnamed, hmethM, hstM, habM⟩ := Cond.instanceMethod_spec hinst
  obtain ⟨m8, methM', cM, hn8, hmethM', -, -, -, -, -, -, hsigM⟩ := Cond.codeWith_spec hcode
  cases Option.some.inj (hn8.symm.trans hnamed)
  cases hmethM.symm.trans hmethM'
  obtain ⟨c2, r2, m2, q1, q2, q3, q4, kP, hkP, hkPi⟩ := Cond.selects_spec hsel
  cases hcls.symm.trans q1
  cases (State.methodFound?_of_named hnamed hy).symm.trans q2
  cases hnamed.symm.trans q3
  have hselP : selectMethod e.platform s.vm cellB.cls mk = .method mk := by rw [Launch.admits_selectMethod X.admits]; exact q4
  obtain ⟨vm₁, X₁, hstep₁⟩ := X.invokevirtual hexec hown hlink hnamed hmethM hstM hkP hkPi hy (a := b) (cell := cellB) hcell
    (fun z h => by rw [h] at hobj; cases hobj) hselP hmethM habM hkP hkPi (g := g) hg (argsL := argsL) (rest := rest) (hlen _ hsigM) hstack hdg
  rcases hK m meth c ⟨T.setVm vm₁, locs, cells, slots⟩ { g with stack := rest } (.invokevirtual index) mk (Value.ref b :: argsL).toArray X₁ hg hsize hdg hW (X₁.named hnamed) (hpre vm₁ X₁.warmed) with ⟨v, B, X', hpost, hsteps⟩ | ⟨q, B, X', hpost, hsteps⟩
  · exact Or.inl ⟨v, vm₁, B, X₁.warmed, X', hpost, fun target h => hstep₁ _ fun acts => by rw [doInvoke_state]; exact hsteps.trans h⟩
  · exact Or.inr ⟨q, vm₁, B, X₁.warmed, X', hpost, hstep₁ _ fun acts => by rw [doInvoke_state]; exact hsteps⟩
theorem vx_callSX (X : Stand p l e R s m args below meth c T locs cells slots) (hexec : p.tables.exec = Jvm.exec) {own : String} {index : Nat} {y : MethodName} {bytes : ByteArray} {maxL : Nat} {ret : Option FieldType} {hh : List (Nat × Nat × Nat × Nat)}
    (hown : s.vm.findClass own = some m.cls) (hlink : (Cond.methodLink own index y).before args s = true) (hstat : (Cond.static y).before args s = true) (hinit : (Cond.initialized y.cls).before args s = true)
    (hcode : (Cond.codeWith y bytes maxL ret hh).before args s = true) (hy : y.cls ≠ "java/lang/invoke/MethodHandle" ∧ y.cls ≠ "java/lang/invoke/VarHandle")
    {W9 : Nat} {Pre : Pt → Array Value → Prop} {Post : Pt → Array Value → Option Value → Pt → Prop} {PostX : Pt → Array Value → Addr → Pt → Prop} (hK : vx_Back l R p e below s args y 3 W9 Pre Post PostX)
    {g : JFrame} (hg : g.method = m) (hsize : g.locals.size = c.maxLocals) {argsL rest : List Value} (hlen : ∀ sig, parseMethodDescriptor y.desc = some sig → argsL.length = sig.parameters.length)
    (hstack : g.stack = argsL.reverse ++ rest) (hW : 2 * g.monitorRoom + (rest.map fun v => v.category).sum ≤ W9) (hdg : decode c.code g.pc = .ok (.invokestatic index, 3))
    (hpre : ∀ vm₁, s.WarmedH vm₁ → Pre ⟨T.setVm vm₁, locs, cells, slots⟩ argsL.toArray) :
    (∃ (v : Option Value) (vm₁ : Vm) (B : Pt), s.WarmedH vm₁ ∧ Stand p l e R s m args below meth c B.U B.locs B.cells B.slots ∧ Post ⟨T.setVm vm₁, locs, cells, slots⟩ argsL.toArray v B ∧
      ∀ target, Steps p.tables e below (B.U.setTop { g with pc := g.pc + 3, stack := v.toList ++ rest }) target → Steps p.tables e below (T.setTop g) target) ∨
    (∃ (q : Addr) (vm₁ : Vm) (B : Pt), s.WarmedH vm₁ ∧ Stand p l e R s m args below meth c B.U B.locs B.cells B.slots ∧ PostX ⟨T.setVm vm₁, locs, cells, slots⟩ argsL.toArray q B ∧
      Steps p.tables e below (T.setTop g) ((B.U.setTop { g with stack := rest }).pushFrame (.throwing q))) := by
  obtain ⟨mk, methM, cM, hnamed, hmethM, -, -, -, -, -, -, hsigM⟩ := Cond.codeWith_spec hcode
  have hstatic : methM.isStatic = true := Cond.static_spec hnamed hmethM hstat
  obtain ⟨kP, hkP, -⟩ := className_of_methodNamed hnamed
  have hinitP : kP.init = .initialized := Cond.initialized_spec (findClass_of_methodNamed hnamed) hkP hinit
  obtain ⟨vm₁, X₁, hstep₁⟩ := X.invokestatic hexec hown hlink hnamed hmethM hstatic hkP hinitP hy (g := g) hg (argsL := argsL) (rest := rest) (hlen _ hsigM) hstack hdg
  rcases hK m meth c ⟨T.setVm vm₁, locs, cells, slots⟩ { g with stack := rest } (.invokestatic index) mk argsL.toArray X₁ hg hsize hdg hW (X₁.named hnamed) (hpre vm₁ X₁.warmed) with ⟨v, B, X', hpost, hsteps⟩ | ⟨q, B, X', hpost, hsteps⟩
  · exact Or.inl ⟨v, vm₁, B, X₁.warmed, X', hpost, fun target h => hstep₁ _ fun acts => by rw [doInvoke_state]; exact hsteps.trans h⟩
  · exact Or.inr ⟨q, vm₁, B, X₁.warmed, X', hpost, hstep₁ _ fun acts => by rw [doInvoke_state]; exact hsteps⟩
theorem vx_callVW (X : Stand p l e R s m args below meth c T locs cells slots) (hexec : p.tables.exec = Jvm.exec) {own C : String} {index : Nat} {y : MethodName} {bytes : ByteArray} {maxL : Nat} {ret : Option FieldType} {hh : List (Nat × Nat × Nat × Nat)}
    (hown : s.vm.findClass own = some m.cls) (hlink : (Cond.methodLink own index y).before args s = true) (hinst : (Cond.instanceMethod y).before args s = true) (hsel : (Cond.selects C y y).before args s = true)
    (hcode : (Cond.codeWith y bytes maxL ret hh).before args s = true) (hy : y.cls ≠ "java/lang/invoke/MethodHandle" ∧ y.cls ≠ "java/lang/invoke/VarHandle")
    {W9 : Nat} {Pre : Pt → Array Value → Prop} {Post : Pt → Array Value → Option Value → Pt → Prop} (hK : Back l R p e below s args y 3 W9 Pre Post)
    {b : Addr} {cellB : Cell} (hcell : T.heap[b]? = some cellB) (hobj : cellB.vm.isStatics = false) (hcls : s.vm.findClass C = some cellB.cls)
    {g : JFrame} (hg : g.method = m) (hsize : g.locals.size = c.maxLocals) {argsL rest : List Value} (hlen : ∀ sig, parseMethodDescriptor y.desc = some sig → argsL.length = sig.parameters.length)
    (hstack : g.stack = argsL.reverse ++ .ref b :: rest) (hW : 2 * g.monitorRoom + (rest.map fun v => v.category).sum ≤ W9) (hdg : decode c.code g.pc = .ok (.invokevirtual index, 3))
    (hpre : ∀ vm₁, s.WarmedH vm₁ → Pre ⟨T.setVm vm₁, locs, cells, slots⟩ (Value.ref b :: argsL).toArray) :
    ∃ (v : Option Value) (vm₁ : Vm) (B : Pt), s.WarmedH vm₁ ∧ Stand p l e R s m args below meth c B.U B.locs B.cells B.slots ∧ Post ⟨T.setVm vm₁, locs, cells, slots⟩ (Value.ref b :: argsL).toArray v B ∧
      ∀ target, Steps p.tables e below (B.U.setTop { g with pc := g.pc + 3, stack := v.toList ++ rest }) target → Steps p.tables e below (T.setTop g) target := by
  obtain ⟨mk, methM, hnamed, hmethM, hstM, habM⟩ := Cond.instanceMethod_spec hinst
  obtain ⟨m8, methM', cM, hn8, hmethM', -, -, -, -, -, -, hsigM⟩ := Cond.codeWith_spec hcode
  cases Option.some.inj (hn8.symm.trans hnamed)
  cases hmethM.symm.trans hmethM'
  obtain ⟨c2, r2, m2, q1, q2, q3, q4, kP, hkP, hkPi⟩ := Cond.selects_spec hsel
  cases hcls.symm.trans q1
  cases (State.methodFound?_of_named hnamed hy).symm.trans q2
  cases hnamed.symm.trans q3
  have hselP : selectMethod e.platform s.vm cellB.cls mk = .method mk := by rw [Launch.admits_selectMethod X.admits]; exact q4
  obtain ⟨vm₁, X₁, hstep₁⟩ := X.invokevirtual hexec hown hlink hnamed hmethM hstM hkP hkPi hy (a := b) (cell := cellB) hcell
    (fun z h => by rw [h] at hobj; cases hobj) hselP hmethM habM hkP hkPi (g := g) hg (argsL := argsL) (rest := rest) (hlen _ hsigM) hstack hdg
  obtain ⟨v, B, X', hpost, hsteps⟩ := hK m meth c ⟨T.setVm vm₁, locs, cells, slots⟩ { g with stack := rest } (.invokevirtual index) mk (Value.ref b :: argsL).toArray X₁ hg hsize hdg hW (X₁.named hnamed) (hpre vm₁ X₁.warmed)
  exact ⟨v, vm₁, B, X₁.warmed, X', hpost, fun target h => hstep₁ _ fun acts => by rw [doInvoke_state]; exact hsteps.trans h⟩
abbrev vx_CVW (R : Room) (s : State) (args : Array Value) (own C : String) (index : Nat) (y : MethodName) (bytes : ByteArray) (maxL : Nat) (ret : Option FieldType) (hh : List (Nat × Nat × Nat × Nat)) (ws : List Cond) (rm : Room) (mc ms n : Nat) : Prop :=
  (rm.cells = mc ∧ rm.slots = ms ∧ rm.frames + 1 ≤ R.frames ∧ 8 + (maxL + 11) + rm.locals ≤ R.locals ∧ (∀ w ∈ ws, ∀ (a' : Array Value) (U : State), s.WarmedH U.vm → w.before a' U = true) ∧ Cond.codeWith y bytes maxL ret hh ∈ ws) ∧
  (Cond.codeWith y bytes maxL ret hh).before args s = true ∧ (Cond.initialized y.cls).before args s = true ∧ (y.cls ≠ "java/lang/invoke/MethodHandle" ∧ y.cls ≠ "java/lang/invoke/VarHandle") ∧
  (∀ sig, parseMethodDescriptor y.desc = some sig → n = sig.parameters.length) ∧ (Cond.methodLink own index y).before args s = true ∧ (Cond.instanceMethod y).before args s = true ∧ (Cond.selects C y y).before args s = true
theorem vx_cwVW {own C : String} {index maxL mc ms : Nat} {y : MethodName} {bytes : ByteArray} {ret : Option FieldType} {hh : List (Nat × Nat × Nat × Nat)} {Ts ws ws' : List Cond} {rm : Room} (n : Nat) (ht : ∀ w ∈ Ts, w.before args s = true) (hT : GoodIn Ts (wsV own index C y ws)) (hw : ws = Cond.codeWith y bytes maxL ret hh :: ws') (hrc : rm.cells = mc) (hrs : rm.slots = ms)
    (hd : y.cls = C ∧ y.cls ≠ "java/lang/invoke/MethodHandle" ∧ y.cls ≠ "java/lang/invoke/VarHandle" ∧ (parseMethodDescriptor y.desc).map (fun d => d.parameters.length) = some n) (hR : rm.frames + 1 ≤ R.frames ∧ 8 + (maxL + 11) + rm.locals ≤ R.locals) :
    vx_CVW R s args own C index y bytes maxL ret hh ws rm mc ms n := by
  obtain ⟨hC, hd⟩ := hd
  subst hC
  have ok : ∀ w ∈ wsV own index y.cls y ws, w.before args s = true := fun w h => ht w (hT w h).1
  have hG : GoodIn Ts ws := fun w h => hT w (by unfold wsV; exact List.mem_append_right _ h)
  have hc : Cond.codeWith y bytes maxL ret hh ∈ ws := by rw [hw]; exact List.mem_cons_self
  refine ⟨⟨hrc, hrs, hR.1, hR.2, pay_in ht hG, hc⟩, ht _ (hG _ hc).1, ok _ (by simp [wsV]), ⟨hd.1, hd.2.1⟩, fun sig h => ?_, ok _ (by simp [wsV]), ok _ (by simp [wsV]), ok _ (by simp [wsV])⟩
  have h2 := hd.2.2
  rw [h] at h2
  exact (Option.some.inj h2).symm
theorem vx_runVW {y : MethodName} {bytes cc : ByteArray} {maxL nL mc ms n index : Nat} {ret : Option FieldType} {hh : List (Nat × Nat × Nat × Nat)} {ws : List Cond} {rm : Room} {Pc : Array Value → State → Prop} {Qc : Array Value → State → Outcome → State → Prop} {free : Addr → Prop} {Ts : List Cond} {own C : String} {b : Addr} {As rest : List Value} {g : JFrame}
    (S : CallFix p m c cc nL s args Ts own) (hM : Met l y ws rm Pc Qc mc ms free) (cw : vx_CVW R s args own C index y bytes maxL ret hh ws rm mc ms n) (hp : PreV s H C b Pc As)
    (hg : g.method = m) (hn : As.length = n) (hsize : g.locals.size = nL) (hstack : g.stack = As.reverse ++ .ref b :: rest) (hW : 2 * g.monitorRoom + (rest.map fun v => v.category).sum ≤ 8) (hdg : decode cc g.pc = .ok (.invokevirtual index, 3)) (hf : cells + mc ≤ R.cells ∧ slots + ms ≤ R.slots) :
    va_Run p l e R s m args below meth c H locs cells slots mc ms g rest (Qc (Value.ref b :: As).toArray) free := by
  obtain ⟨⟨hrc, hrs, hfr, hlo, hws, hcw⟩, hcode, hini, hy, hlen, hl, hin, hse⟩ := cw
  have hK : Back l R p e below s args y 3 8 (PreOf R mc ms Pc) (PostOf Qc mc ms free) := va_backW (hh := hh) (bytes := bytes) (maxL := maxL) (ret := ret) hM hp.1 hrc hrs hfr hlo hws hcw (fun a' U hW => word_at hW (Or.inl (by first | rfl | simp [Cond.onTables, Cond.keeps, Cond.steady])) hini)
  obtain ⟨hx, hb, hml, ho, -⟩ := S
  obtain ⟨-, ⟨cellB, hcB, hoB, hclB⟩, hPc⟩ := hp
  intro T hT X
  obtain ⟨v, vm₁, ⟨U', l2, c2, s2⟩, hW₁, X', ⟨g', mk, t, L, e1, e2, hq, h1, hL, h2, h3⟩, st⟩ := vx_callVW X hx (C := C) (hh := hh) (bytes := bytes) (maxL := maxL) (ret := ret) ho hl hin hse hcode hy hK (by rw [hT]; exact hcB) hoB hclB hg (hsize.trans hml.symm) (argsL := As) (rest := rest) (fun sig h => hn.trans (hlen sig h)) hstack hW (by rw [hb]; exact hdg)
    (fun vm₁ hW₁ => ⟨hf.1, hf.2, hPc (T.setVm vm₁) hT hW₁⟩)
  dsimp only [Pt.U, Pt.locs, Pt.cells, Pt.slots] at X' e1 e2 h1 h2 h3 st
  subst h1; subst h2; subst h3
  exact ⟨v, (T.setVm vm₁).calling g' mk (Value.ref b :: As).toArray, t, U', L, hT, X', hL, e1, e2, hq, st⟩
section
variable {y : MethodName} {bytes cc : ByteArray} {maxL nL mc ms n index : Nat} {ret : Option FieldType} {ws : List Cond} {rm : Room} {Pc : Array Value → State → Prop} {Qc : Array Value → State → Outcome → State → Prop} {XC : String → State → State → Prop} {free : Addr → Prop} {Ts : List Cond} {own C : String} {b : Addr} {As rest : List Value} {g : JFrame}
theorem vx_runVX {hh : List (Nat × Nat × Nat × Nat)} (S : CallFix p m c cc nL s args Ts own) (hM : vx_Met l y ws rm Pc Qc XC mc ms free) (cw : vx_CVW R s args own C index y bytes maxL ret hh ws rm mc ms n) (hp : PreV s H C b Pc As)
    (hg : g.method = m) (hn : As.length = n) (hsize : g.locals.size = nL) (hstack : g.stack = As.reverse ++ .ref b :: rest) (hW : 2 * g.monitorRoom + (rest.map fun v => v.category).sum ≤ 8) (hdg : decode cc g.pc = .ok (.invokevirtual index, 3)) (hf : cells + mc ≤ R.cells ∧ slots + ms ≤ R.slots) :
    vx_Run p l e R s m args below meth c H locs cells slots mc ms g rest (Qc (Value.ref b :: As).toArray) XC free := by
  obtain ⟨⟨hrc, hrs, hfr, hlo, hws, hcw⟩, hcode, hini, hy, hlen, hl, hin, hse⟩ := cw
  have hK : vx_Back l R p e below s args y 3 8 (PreOf R mc ms Pc) (PostOf Qc mc ms free) (vx_Post XC mc ms free) := vx_backW (hh := hh) (bytes := bytes) (maxL := maxL) (ret := ret) hM hp.1 hrc hrs hfr hlo hws hcw (fun a' U hW => word_at hW (Or.inl (by first | rfl | simp [Cond.onTables, Cond.keeps, Cond.steady])) hini)
  obtain ⟨hx, hb, hml, ho, -⟩ := S
  obtain ⟨-, ⟨cellB, hcB, hoB, hclB⟩, hPc⟩ := hp
  intro T hT X
  rcases vx_callVX X hx (C := C) (hh := hh) (bytes := bytes) (maxL := maxL) (ret := ret) ho hl hin hse hcode hy hK (by rw [hT]; exact hcB) hoB hclB hg (hsize.trans hml.symm) (argsL := As) (rest := rest) (fun sig h => hn.trans (hlen sig h)) hstack hW (by rw [hb]; exact hdg)
    (fun vm₁ hW₁ => ⟨hf.1, hf.2, hPc (T.setVm vm₁) hT hW₁⟩) with ⟨v, vm₁, ⟨U', l2, c2, s2⟩, hW₁, X', ⟨g', mk, t, L, e1, e2, hq, h1, hL, h2, h3⟩, st⟩ | ⟨q, vm₁, ⟨U', l2, c2, s2⟩, hW₁, X', ⟨g', mk, t, L, E, ce, e1, e2, hq, hce, hcv, hcl, h1, hL, h2, h3⟩, st⟩
  · dsimp only [Pt.U, Pt.locs, Pt.cells, Pt.slots] at X' e1 e2 h1 h2 h3 st
    subst h1; subst h2; subst h3
    exact Or.inl ⟨v, (T.setVm vm₁).calling g' mk (Value.ref b :: As).toArray, t, U', L, hT, X', hL, e1, e2, hq, st⟩
  · dsimp only [Pt.U, Pt.locs, Pt.cells, Pt.slots] at X' e1 e2 h1 h2 h3 st hcl
    subst h1; subst h2; subst h3
    exact Or.inr ⟨q, (T.setVm vm₁).calling g' mk (Value.ref b :: As).toArray, t, U', L, E, ce, hT, X', hL, e1, e2, hq, hce, hcv, vx_cls hW₁ hcl, st⟩
theorem vx_runSX {hh : List (Nat × Nat × Nat × Nat)} (S : CallFix p m c cc nL s args Ts own) (hM : vx_Met l y ws rm Pc Qc XC mc ms free) (cw : vx_CSW R s args own index y bytes maxL ret hh ws rm mc ms n) (hp : PreS s H Pc As)
    (hg : g.method = m) (hn : As.length = n) (hsize : g.locals.size = nL) (hstack : g.stack = As.reverse ++ rest) (hW : 2 * g.monitorRoom + (rest.map fun v => v.category).sum ≤ 8) (hdg : decode cc g.pc = .ok (.invokestatic index, 3)) (hf : cells + mc ≤ R.cells ∧ slots + ms ≤ R.slots) :
    vx_Run p l e R s m args below meth c H locs cells slots mc ms g rest (Qc As.toArray) XC free := by
  obtain ⟨⟨hrc, hrs, hfr, hlo, hws, hcw⟩, hcode, hini, hy, hlen, hl, hstt⟩ := cw
  have hK : vx_Back l R p e below s args y 3 8 (PreOf R mc ms Pc) (PostOf Qc mc ms free) (vx_Post XC mc ms free) := vx_backW (hh := hh) (bytes := bytes) (maxL := maxL) (ret := ret) hM hp.1 hrc hrs hfr hlo hws hcw (fun a' U hW => word_at hW (Or.inl (by first | rfl | simp [Cond.onTables, Cond.keeps, Cond.steady])) hini)
  obtain ⟨hx, hb, hml, ho, -⟩ := S
  intro T hT X
  rcases vx_callSX X hx (hh := hh) (bytes := bytes) (maxL := maxL) (ret := ret) ho hl hstt hini hcode hy hK hg (hsize.trans hml.symm) (argsL := As) (rest := rest) (fun sig h => hn.trans (hlen sig h)) hstack hW (by rw [hb]; exact hdg)
    (fun vm₁ hW₁ => ⟨hf.1, hf.2, hp.2 (T.setVm vm₁) hT hW₁⟩) with ⟨v, vm₁, ⟨U', l2, c2, s2⟩, hW₁, X', ⟨g', mk, t, L, e1, e2, hq, h1, hL, h2, h3⟩, st⟩ | ⟨q, vm₁, ⟨U', l2, c2, s2⟩, hW₁, X', ⟨g', mk, t, L, E, ce, e1, e2, hq, hce, hcv, hcl, h1, hL, h2, h3⟩, st⟩
  · dsimp only [Pt.U, Pt.locs, Pt.cells, Pt.slots] at X' e1 e2 h1 h2 h3 st
    subst h1; subst h2; subst h3
    exact Or.inl ⟨v, (T.setVm vm₁).calling g' mk As.toArray, t, U', L, hT, X', hL, e1, e2, hq, st⟩
  · dsimp only [Pt.U, Pt.locs, Pt.cells, Pt.slots] at X' e1 e2 h1 h2 h3 st hcl
    subst h1; subst h2; subst h3
    exact Or.inr ⟨q, (T.setVm vm₁).calling g' mk As.toArray, t, U', L, E, ce, hT, X', hL, e1, e2, hq, hce, hcv, vx_cls hW₁ hcl, st⟩
end
end VXH
theorem vx_ofWH {l : Launch} {y : MethodName} {ws ws' : List Cond} {rm : Room} {Pc : Array Value → State → Prop} {Qc : Array Value → State → Outcome → State → Prop} {XC : String → State → State → Prop} {mc ms : Nat} {free : Addr → Prop} {cc : ByteArray} {maxL : Nat} {ret : Option FieldType} {hh : List (Nat × Nat × Nat × Nat)}
    (hy : plainName y.cls = true) (hw : ws = Cond.codeWith y cc maxL ret hh :: ws')
    (body : ∀ p e s m args below meth c s₁, BodyLoose p l y (headSpec ws rm) cc maxL ret e s m args below meth c s₁ → c.maxLocals = maxL → Pc args s →
      W p l e (headSpec ws rm).room s m args below meth c s.heap [] 0 0 (vx_MQ below Qc XC args s mc ms free) (entryFrame m args maxL)) : vx_Met l y ws rm Pc Qc XC mc ms free := by
  refine MetFree.of_bodyS (code := cc) (maxLocals := maxL) (ret := ret) hy ?_ ?_
  · intro args s m h hn
    obtain ⟨m9, meth, c, hn9, h1, h2, h3, h4, -, h5, h6, -⟩ := Cond.codeWith_spec (atoms_spec (ws := ws) h _ (by rw [hw]; exact List.mem_cons_self))
    cases hn.symm.trans hn9
    exact ⟨meth, c, h1, h2, h3, h4, h5, h6⟩
  · intro p e s m args below meth c s₁ B hml hP _
    have hh0 : s₁.heap = s.heap := by rw [B.state]; rfl
    obtain ⟨t, a1, o, b1, b2, b3⟩ := body p e s m args below meth c s₁ B hml hP s₁ hh0 (Stand.of_body B)
    exact ⟨t, o, a1, b1, b2, b3⟩
/-! ===== END ===== -/
end
section
def RX0 : String := "RoughStones$Auction"
def TX0 : u_T := fun k => match k with
  | 0 => ("RoughStones$Auction", "bids", "[I", true)
  | 1 => ("RoughStones$Auction", "limit", "[I", true)
  | 2 => ("RoughStones$Auction", "taken", "[I", true)
  | 3 => ("RoughStones$Auction", "given", "[I", true)
  | 4 => ("RoughStones$Auction", "winners", "[I", true)
  | 5 => ("RoughStones$Auction", "hope", "[I", true)
  | 6 => ("RoughStones$Auction", "lots", "I", false)
  | _ => ("RoughStones$Auction", "most", "I", false)
def tyX0 : Nat → FieldType := fun k => match k with
  | 0 => .array .int
  | 1 => .array .int
  | 2 => .array .int
  | 3 => .array .int
  | 4 => .array .int
  | 5 => .array .int
  | 6 => .int
  | _ => .int
abbrev wsX00 : List Cond := u_ws RX0 TX0 8
theorem nmX0 : ∀ a, a < 8 → ∀ b, b < 8 → a ≠ b → (TX0 a).2.1 ≠ (TX0 b).2.1 := by decide +kernel
theorem tyX0_ok : ∀ k, k < 8 → parseFieldDescriptor (TX0 k).2.2.1 = some (tyX0 k) := by decide +kernel
abbrev cX0_init : ByteArray := prog_2_method_1_code
def yX0_init : MethodName := ⟨RX0, "<init>", "()V"⟩
abbrev cX0_seal : ByteArray := prog_2_method_2_code
def yX0_seal : MethodName := ⟨RX0, "seal", "(III)Z"⟩
abbrev cX0_giveAll : ByteArray := prog_2_method_3_code
def yX0_giveAll : MethodName := ⟨RX0, "giveAll", "()I"⟩
abbrev cX0_greatestBid : ByteArray := prog_2_method_4_code
def yX0_greatestBid : MethodName := ⟨RX0, "greatestBid", "(I)I"⟩
abbrev cX0_give : ByteArray := prog_2_method_5_code
def yX0_give : MethodName := ⟨RX0, "give", "(II)V"⟩
abbrev cX0_winnerOf : ByteArray := prog_2_method_6_code
def yX0_winnerOf : MethodName := ⟨RX0, "winnerOf", "(I)I"⟩
abbrev cX0_clear : ByteArray := prog_2_method_7_code
def yX0_clear : MethodName := ⟨RX0, "clear", "()V"⟩
def RX1 : String := "RoughStones$Cut"
def TX1 : u_T := fun k => match k with
  | 0 => ("RoughStones$Cut", "worth", "I", false)
  | 1 => ("RoughStones$Cut", "model", "I", false)
  | 2 => ("RoughStones$Cut", "size", "I", false)
  | 3 => ("RoughStones$Cut", "way", "I", false)
  | 4 => ("RoughStones$Cut", "a", "I", false)
  | 5 => ("RoughStones$Cut", "b", "I", false)
  | 6 => ("RoughStones$Cut", "c", "I", false)
  | _ => ("RoughStones$Cut", "weight", "I", false)
def tyX1 : Nat → FieldType := fun k => match k with
  | 0 => .int
  | 1 => .int
  | 2 => .int
  | 3 => .int
  | 4 => .int
  | 5 => .int
  | 6 => .int
  | _ => .int
abbrev wsX10 : List Cond := u_ws RX1 TX1 8
theorem nmX1 : ∀ a, a < 8 → ∀ b, b < 8 → a ≠ b → (TX1 a).2.1 ≠ (TX1 b).2.1 := by decide +kernel
theorem tyX1_ok : ∀ k, k < 8 → parseFieldDescriptor (TX1 k).2.2.1 = some (tyX1 k) := by decide +kernel
abbrev cX1_init : ByteArray := prog_3_method_1_code
def yX1_init : MethodName := ⟨RX1, "<init>", "()V"⟩
abbrev cX1_take : ByteArray := prog_3_method_2_code
def yX1_take : MethodName := ⟨RX1, "take", "(LRoughStones$Cut;)V"⟩
abbrev cX1_tell : ByteArray := prog_3_method_3_code
def yX1_tell : MethodName := ⟨RX1, "tell", "(I)I"⟩
def RX2 : String := "RoughStones$Matcher"
def TX2 : u_T := fun k => match k with
  | 0 => ("RoughStones$Matcher", "number", "[I", true)
  | 1 => ("RoughStones$Matcher", "grains", "[I", true)
  | 2 => ("RoughStones$Matcher", "value", "[I", true)
  | _ => ("RoughStones$Matcher", "many", "I", false)
def tyX2 : Nat → FieldType := fun k => match k with
  | 0 => .array .int
  | 1 => .array .int
  | 2 => .array .int
  | _ => .int
abbrev wsX20 : List Cond := u_ws RX2 TX2 4
theorem nmX2 : ∀ a, a < 4 → ∀ b, b < 4 → a ≠ b → (TX2 a).2.1 ≠ (TX2 b).2.1 := by decide +kernel
theorem tyX2_ok : ∀ k, k < 4 → parseFieldDescriptor (TX2 k).2.2.1 = some (tyX2 k) := by decide +kernel
abbrev cX2_init : ByteArray := prog_4_method_1_code
def yX2_init : MethodName := ⟨RX2, "<init>", "()V"⟩
abbrev cX2_pairUp : ByteArray := prog_4_method_2_code
def yX2_pairUp : MethodName := ⟨RX2, "pairUp", "(Ljava/util/ArrayList;)I"⟩
abbrev cX2_collect : ByteArray := prog_4_method_3_code
def yX2_collect : MethodName := ⟨RX2, "collect", "(Ljava/util/ArrayList;)V"⟩
abbrev cX2_bestOf : ByteArray := prog_4_method_4_code
def yX2_bestOf : MethodName := ⟨RX2, "bestOf", "(I)I"⟩
abbrev cX2_mateIn : ByteArray := prog_4_method_5_code
def yX2_mateIn : MethodName := ⟨RX2, "mateIn", "(II)I"⟩
abbrev cX2_isPair : ByteArray := prog_4_method_6_code
def yX2_isPair : MethodName := ⟨RX2, "isPair", "(II)Z"⟩
abbrev cX2_withPair : ByteArray := prog_4_method_7_code
def yX2_withPair : MethodName := ⟨RX2, "withPair", "(III)I"⟩
abbrev cX2_apart : ByteArray := prog_4_method_8_code
def yX2_apart : MethodName := ⟨RX2, "apart", "(II)I"⟩
abbrev cX2_join : ByteArray := prog_4_method_9_code
def yX2_join : MethodName := ⟨RX2, "join", "(Ljava/util/ArrayList;II)V"⟩
def RX3 : String := "RoughStones$Model"
def TX3 : u_T := fun k => match k with
  | 0 => ("RoughStones$Model", "least", "[I", true)
  | 1 => ("RoughStones$Model", "span", "[I", true)
  | 2 => ("RoughStones$Model", "masks", "[[J", true)
  | 3 => ("RoughStones$Model", "cells", "I", true)
  | _ => ("RoughStones$Model", "greatest", "I", true)
def tyX3 : Nat → FieldType := fun k => match k with
  | 0 => .array .int
  | 1 => .array .int
  | 2 => .array (.array .long)
  | 3 => .int
  | _ => .int
abbrev wsX30 : List Cond := u_ws RX3 TX3 5
theorem nmX3 : ∀ a, a < 5 → ∀ b, b < 5 → a ≠ b → (TX3 a).2.1 ≠ (TX3 b).2.1 := by decide +kernel
theorem tyX3_ok : ∀ k, k < 5 → parseFieldDescriptor (TX3 k).2.2.1 = some (tyX3 k) := by decide +kernel
abbrev cX3_init : ByteArray := prog_5_method_1_code
def yX3_init : MethodName := ⟨RX3, "<init>", "(LRoughStones$Tape;)V"⟩
abbrev cX3_layLayer : ByteArray := prog_5_method_2_code
def yX3_layLayer : MethodName := ⟨RX3, "layLayer", "(LRoughStones$Tape;I)V"⟩
abbrev cX3_layCell : ByteArray := prog_5_method_3_code
def yX3_layCell : MethodName := ⟨RX3, "layCell", "(IIII)V"⟩
abbrev cX3_layBlock : ByteArray := prog_5_method_4_code
def yX3_layBlock : MethodName := ⟨RX3, "layBlock", "([JIIII)V"⟩
abbrev cX3_turned : ByteArray := prog_5_method_5_code
def yX3_turned : MethodName := ⟨RX3, "turned", "(IIII)I"⟩
abbrev cX3_maskOf : ByteArray := prog_5_method_6_code
def yX3_maskOf : MethodName := ⟨RX3, "maskOf", "(II)I"⟩
abbrev cX3_block : ByteArray := prog_5_method_7_code
def yX3_block : MethodName := ⟨RX3, "block", "(IIII)J"⟩
def RX4 : String := "RoughStones$Part"
def TX4 : u_T := fun k => match k with
  | 0 => ("RoughStones$Part", "axis", "I", true)
  | 1 => ("RoughStones$Part", "low", "I", true)
  | 2 => ("RoughStones$Part", "high", "I", true)
  | _ => ("RoughStones$Part", "cut", "LRoughStones$Cut;", true)
def tyX4 : Nat → FieldType := fun k => match k with
  | 0 => .int
  | 1 => .int
  | 2 => .int
  | _ => .object "RoughStones$Cut"
abbrev wsX40 : List Cond := u_ws RX4 TX4 4
theorem nmX4 : ∀ a, a < 4 → ∀ b, b < 4 → a ≠ b → (TX4 a).2.1 ≠ (TX4 b).2.1 := by decide +kernel
theorem tyX4_ok : ∀ k, k < 4 → parseFieldDescriptor (TX4 k).2.2.1 = some (tyX4 k) := by decide +kernel
abbrev cX4_init : ByteArray := prog_6_method_1_code
def yX4_init : MethodName := ⟨RX4, "<init>", "(III)V"⟩
def RX5 : String := "RoughStones$Prices"
def TX5 : u_T := fun k => match k with
  | 0 => ("RoughStones$Prices", "least", "[I", true)
  | 1 => ("RoughStones$Prices", "each", "[I", true)
  | _ => ("RoughStones$Prices", "steps", "I", false)
def tyX5 : Nat → FieldType := fun k => match k with
  | 0 => .array .int
  | 1 => .array .int
  | _ => .int
abbrev wsX50 : List Cond := u_ws RX5 TX5 3
theorem nmX5 : ∀ a, a < 3 → ∀ b, b < 3 → a ≠ b → (TX5 a).2.1 ≠ (TX5 b).2.1 := by decide +kernel
theorem tyX5_ok : ∀ k, k < 3 → parseFieldDescriptor (TX5 k).2.2.1 = some (tyX5 k) := by decide +kernel
abbrev cX5_init : ByteArray := prog_7_method_1_code
def yX5_init : MethodName := ⟨RX5, "<init>", "()V"⟩
abbrev cX5_put : ByteArray := prog_7_method_2_code
def yX5_put : MethodName := ⟨RX5, "put", "(II)Z"⟩
abbrev cX5_worthOf : ByteArray := prog_7_method_3_code
def yX5_worthOf : MethodName := ⟨RX5, "worthOf", "(I)I"⟩
def RX6 : String := "RoughStones$Rough"
def TX6 : u_T := fun k => match k with
  | 0 => ("RoughStones$Rough", "sound", "[J", true)
  | 1 => ("RoughStones$Rough", "known", "Z", false)
  | 2 => ("RoughStones$Rough", "axis", "I", false)
  | 3 => ("RoughStones$Rough", "at", "I", false)
  | 4 => ("RoughStones$Rough", "worth", "I", false)
  | 5 => ("RoughStones$Rough", "cuts", "I", false)
  | 6 => ("RoughStones$Rough", "first", "LRoughStones$Cut;", true)
  | _ => ("RoughStones$Rough", "second", "LRoughStones$Cut;", true)
def tyX6 : Nat → FieldType := fun k => match k with
  | 0 => .array .long
  | 1 => .boolean
  | 2 => .int
  | 3 => .int
  | 4 => .int
  | 5 => .int
  | 6 => .object "RoughStones$Cut"
  | _ => .object "RoughStones$Cut"
abbrev wsX60 : List Cond := u_ws RX6 TX6 8
theorem nmX6 : ∀ a, a < 8 → ∀ b, b < 8 → a ≠ b → (TX6 a).2.1 ≠ (TX6 b).2.1 := by decide +kernel
theorem tyX6_ok : ∀ k, k < 8 → parseFieldDescriptor (TX6 k).2.2.1 = some (tyX6 k) := by decide +kernel
abbrev cX6_init : ByteArray := prog_8_method_1_code
def yX6_init : MethodName := ⟨RX6, "<init>", "()V"⟩
abbrev cX6_takeWhole : ByteArray := prog_8_method_2_code
def yX6_takeWhole : MethodName := ⟨RX6, "takeWhole", "(LRoughStones$Part;)V"⟩
abbrev cX6_takeSawn : ByteArray := prog_8_method_3_code
def yX6_takeSawn : MethodName := ⟨RX6, "takeSawn", "(LRoughStones$Part;LRoughStones$Part;)V"⟩
def RX7 : String := "RoughStones$Saw"
def TX7 : u_T := fun k => match k with
  | 0 => ("RoughStones$Saw", "parts", "[LRoughStones$Part;", true)
  | 1 => ("RoughStones$Saw", "offered", "LRoughStones$Cut;", true)
  | 2 => ("RoughStones$Saw", "starts", "[J", true)
  | _ => ("RoughStones$Saw", "span", "[I", true)
def tyX7 : Nat → FieldType := fun k => match k with
  | 0 => .array (.object "RoughStones$Part")
  | 1 => .object "RoughStones$Cut"
  | 2 => .array .long
  | _ => .array .int
abbrev wsX70 : List Cond := u_ws RX7 TX7 4
theorem nmX7 : ∀ a, a < 4 → ∀ b, b < 4 → a ≠ b → (TX7 a).2.1 ≠ (TX7 b).2.1 := by decide +kernel
theorem tyX7_ok : ∀ k, k < 4 → parseFieldDescriptor (TX7 k).2.2.1 = some (tyX7 k) := by decide +kernel
abbrev cX7_init : ByteArray := prog_9_method_1_code
def yX7_init : MethodName := ⟨RX7, "<init>", "()V"⟩
abbrev cX7_findBest : ByteArray := prog_9_method_2_code
def yX7_findBest : MethodName := ⟨RX7, "findBest", "(LRoughStones$Rough;Ljava/util/ArrayList;LRoughStones$Prices;)V"⟩
abbrev cX7_offerWays : ByteArray := prog_9_method_3_code
def yX7_offerWays : MethodName := ⟨RX7, "offerWays", "(LRoughStones$Rough;LRoughStones$Model;)V"⟩
abbrev cX7_isWanted : ByteArray := prog_9_method_4_code
def yX7_isWanted : MethodName := ⟨RX7, "isWanted", "()Z"⟩
abbrev cX7_offerTo : ByteArray := prog_9_method_5_code
def yX7_offerTo : MethodName := ⟨RX7, "offerTo", "(LRoughStones$Part;LRoughStones$Model;)V"⟩
abbrev cX7_firstWithin : ByteArray := prog_9_method_6_code
def yX7_firstWithin : MethodName := ⟨RX7, "firstWithin", "(LRoughStones$Part;)I"⟩
abbrev cX7_choose : ByteArray := prog_9_method_7_code
def yX7_choose : MethodName := ⟨RX7, "choose", "(LRoughStones$Rough;)V"⟩
abbrev cX7_search : ByteArray := prog_9_method_8_code
def yX7_search : MethodName := ⟨RX7, "search", "([JLRoughStones$Model;II)Z"⟩
abbrev cX7_startsInRow : ByteArray := prog_9_method_9_code
def yX7_startsInRow : MethodName := ⟨RX7, "startsInRow", "([J[JIJ)J"⟩
abbrev cX7_startsOnSound : ByteArray := prog_9_method_10_code
def yX7_startsOnSound : MethodName := ⟨RX7, "startsOnSound", "(JJJ)J"⟩
def RX8 : String := "RoughStones$Stone"
def TX8 : u_T := fun k => match k with
  | 0 => ("RoughStones$Stone", "rough", "I", true)
  | 1 => ("RoughStones$Stone", "model", "I", true)
  | 2 => ("RoughStones$Stone", "grains", "I", false)
  | 3 => ("RoughStones$Stone", "polished", "Z", false)
  | 4 => ("RoughStones$Stone", "mate", "I", false)
  | 5 => ("RoughStones$Stone", "lot", "I", false)
  | 6 => ("RoughStones$Stone", "buyer", "I", false)
  | 7 => ("RoughStones$Stone", "facets", "I", false)
  | 8 => ("RoughStones$Stone", "index", "[I", true)
  | 9 => ("RoughStones$Stone", "angle", "[I", true)
  | 10 => ("RoughStones$Stone", "planned", "I", false)
  | 11 => ("RoughStones$Stone", "length", "I", false)
  | _ => ("RoughStones$Stone", "order", "[I", true)
def tyX8 : Nat → FieldType := fun k => match k with
  | 0 => .int
  | 1 => .int
  | 2 => .int
  | 3 => .boolean
  | 4 => .int
  | 5 => .int
  | 6 => .int
  | 7 => .int
  | 8 => .array .int
  | 9 => .array .int
  | 10 => .int
  | 11 => .int
  | _ => .array .int
abbrev wsX80 : List Cond := u_ws RX8 TX8 13
theorem nmX8 : ∀ a, a < 13 → ∀ b, b < 13 → a ≠ b → (TX8 a).2.1 ≠ (TX8 b).2.1 := by decide +kernel
theorem tyX8_ok : ∀ k, k < 13 → parseFieldDescriptor (TX8 k).2.2.1 = some (tyX8 k) := by decide +kernel
abbrev cX8_init : ByteArray := prog_10_method_1_code
def yX8_init : MethodName := ⟨RX8, "<init>", "(ILRoughStones$Cut;)V"⟩
abbrev cX8_grind : ByteArray := prog_10_method_2_code
def yX8_grind : MethodName := ⟨RX8, "grind", "()V"⟩
abbrev cX8_tell : ByteArray := prog_10_method_3_code
def yX8_tell : MethodName := ⟨RX8, "tell", "(I)I"⟩
def RX9 : String := "RoughStones$Tape"
def TX9 : u_T := fun k => match k with
  | 0 => ("RoughStones$Tape", "bytes", "[I", true)
  | 1 => ("RoughStones$Tape", "length", "I", false)
  | 2 => ("RoughStones$Tape", "at", "I", false)
  | 3 => ("RoughStones$Tape", "end", "I", false)
  | 4 => ("RoughStones$Tape", "layers", "I", false)
  | 5 => ("RoughStones$Tape", "left", "[I", true)
  | 6 => ("RoughStones$Tape", "front", "[I", true)
  | 7 => ("RoughStones$Tape", "wide", "[I", true)
  | _ => ("RoughStones$Tape", "deep", "[I", true)
def tyX9 : Nat → FieldType := fun k => match k with
  | 0 => .array .int
  | 1 => .int
  | 2 => .int
  | 3 => .int
  | 4 => .int
  | 5 => .array .int
  | 6 => .array .int
  | 7 => .array .int
  | _ => .array .int
abbrev wsX90 : List Cond := u_ws RX9 TX9 9
theorem nmX9 : ∀ a, a < 9 → ∀ b, b < 9 → a ≠ b → (TX9 a).2.1 ≠ (TX9 b).2.1 := by decide +kernel
theorem tyX9_ok : ∀ k, k < 9 → parseFieldDescriptor (TX9 k).2.2.1 = some (tyX9 k) := by decide +kernel
abbrev cX9_init : ByteArray := prog_11_method_1_code
def yX9_init : MethodName := ⟨RX9, "<init>", "()V"⟩
abbrev cX9_append : ByteArray := prog_11_method_2_code
def yX9_append : MethodName := ⟨RX9, "append", "(I)V"⟩
abbrev cX9_readModel : ByteArray := prog_11_method_3_code
def yX9_readModel : MethodName := ⟨RX9, "readModel", "(I)Z"⟩
abbrev cX9_readLayer : ByteArray := prog_11_method_4_code
def yX9_readLayer : MethodName := ⟨RX9, "readLayer", "(I)Z"⟩
abbrev cX9_readDigit : ByteArray := prog_11_method_5_code
def yX9_readDigit : MethodName := ⟨RX9, "readDigit", "(II)I"⟩
abbrev cX9_readSign : ByteArray := prog_11_method_6_code
def yX9_readSign : MethodName := ⟨RX9, "readSign", "(I)Z"⟩
abbrev cX9_isEnd : ByteArray := prog_11_method_7_code
def yX9_isEnd : MethodName := ⟨RX9, "isEnd", "()Z"⟩
def RX10 : String := "RoughStones$Wheel"
def TX10 : u_T := fun k => match k with
  | 0 => ("RoughStones$Wheel", "rest", "[I", true)
  | 1 => ("RoughStones$Wheel", "apart", "[I", true)
  | _ => ("RoughStones$Wheel", "start", "[I", true)
def tyX10 : Nat → FieldType := fun k => match k with
  | 0 => .array .int
  | 1 => .array .int
  | _ => .array .int
abbrev wsX100 : List Cond := u_ws RX10 TX10 3
theorem nmX10 : ∀ a, a < 3 → ∀ b, b < 3 → a ≠ b → (TX10 a).2.1 ≠ (TX10 b).2.1 := by decide +kernel
theorem tyX10_ok : ∀ k, k < 3 → parseFieldDescriptor (TX10 k).2.2.1 = some (tyX10 k) := by decide +kernel
abbrev cX10_init : ByteArray := prog_12_method_1_code
def yX10_init : MethodName := ⟨RX10, "<init>", "()V"⟩
abbrev cX10_layPlan : ByteArray := prog_12_method_2_code
def yX10_layPlan : MethodName := ⟨RX10, "layPlan", "(LRoughStones$Stone;)V"⟩
abbrev cX10_measure : ByteArray := prog_12_method_3_code
def yX10_measure : MethodName := ⟨RX10, "measure", "(LRoughStones$Stone;I)V"⟩
abbrev cX10_way : ByteArray := prog_12_method_4_code
def yX10_way : MethodName := ⟨RX10, "way", "(II)I"⟩
abbrev cX10_shortest : ByteArray := prog_12_method_5_code
def yX10_shortest : MethodName := ⟨RX10, "shortest", "(III)I"⟩
abbrev cX10_through : ByteArray := prog_12_method_6_code
def yX10_through : MethodName := ⟨RX10, "through", "(III)I"⟩
abbrev cX10_follow : ByteArray := prog_12_method_7_code
def yX10_follow : MethodName := ⟨RX10, "follow", "(LRoughStones$Stone;I)V"⟩
abbrev cX10_firstOfShortest : ByteArray := prog_12_method_8_code
def yX10_firstOfShortest : MethodName := ⟨RX10, "firstOfShortest", "(III)I"⟩
def RX11 : String := "RoughStones"
def TX11 : u_T := fun k => match k with
  | 0 => ("RoughStones", "roughs", "Ljava/util/ArrayList;", true)
  | 1 => ("RoughStones", "models", "Ljava/util/ArrayList;", true)
  | 2 => ("RoughStones", "stones", "Ljava/util/ArrayList;", true)
  | 3 => ("RoughStones", "tape", "LRoughStones$Tape;", true)
  | 4 => ("RoughStones", "prices", "LRoughStones$Prices;", true)
  | 5 => ("RoughStones", "saw", "LRoughStones$Saw;", true)
  | 6 => ("RoughStones", "wheel", "LRoughStones$Wheel;", true)
  | 7 => ("RoughStones", "matcher", "LRoughStones$Matcher;", true)
  | 8 => ("RoughStones", "auction", "LRoughStones$Auction;", true)
  | _ => ("RoughStones", "brought", "I", false)
def tyX11 : Nat → FieldType := fun k => match k with
  | 0 => .object "java/util/ArrayList"
  | 1 => .object "java/util/ArrayList"
  | 2 => .object "java/util/ArrayList"
  | 3 => .object "RoughStones$Tape"
  | 4 => .object "RoughStones$Prices"
  | 5 => .object "RoughStones$Saw"
  | 6 => .object "RoughStones$Wheel"
  | 7 => .object "RoughStones$Matcher"
  | 8 => .object "RoughStones$Auction"
  | _ => .int
abbrev wsX110 : List Cond := u_ws RX11 TX11 10
theorem nmX11 : ∀ a, a < 10 → ∀ b, b < 10 → a ≠ b → (TX11 a).2.1 ≠ (TX11 b).2.1 := by decide +kernel
theorem tyX11_ok : ∀ k, k < 10 → parseFieldDescriptor (TX11 k).2.2.1 = some (tyX11 k) := by decide +kernel
abbrev cX11_init : ByteArray := prog_1_method_1_code
def yX11_init : MethodName := ⟨RX11, "<init>", "()V"⟩
abbrev cX11_rough : ByteArray := prog_1_method_2_code
def yX11_rough : MethodName := ⟨RX11, "rough", "()I"⟩
abbrev cX11_scan : ByteArray := prog_1_method_3_code
def yX11_scan : MethodName := ⟨RX11, "scan", "(IIJJ)I"⟩
abbrev cX11_stuff : ByteArray := prog_1_method_4_code
def yX11_stuff : MethodName := ⟨RX11, "stuff", "(I)I"⟩
abbrev cX11_feed : ByteArray := prog_1_method_5_code
def yX11_feed : MethodName := ⟨RX11, "feed", "(IIIII)I"⟩
abbrev cX11_model : ByteArray := prog_1_method_6_code
def yX11_model : MethodName := ⟨RX11, "model", "(I)I"⟩
abbrev cX11_price : ByteArray := prog_1_method_7_code
def yX11_price : MethodName := ⟨RX11, "price", "(II)I"⟩
abbrev cX11_worth : ByteArray := prog_1_method_8_code
def yX11_worth : MethodName := ⟨RX11, "worth", "(I)I"⟩
abbrev cX11_fit : ByteArray := prog_1_method_9_code
def yX11_fit : MethodName := ⟨RX11, "fit", "(III)I"⟩
abbrev cX11_best : ByteArray := prog_1_method_10_code
def yX11_best : MethodName := ⟨RX11, "best", "(I)I"⟩
abbrev cX11_sawn : ByteArray := prog_1_method_11_code
def yX11_sawn : MethodName := ⟨RX11, "sawn", "(II)I"⟩
abbrev cX11_cut : ByteArray := prog_1_method_12_code
def yX11_cut : MethodName := ⟨RX11, "cut", "(III)I"⟩
abbrev cX11_done : ByteArray := prog_1_method_13_code
def yX11_done : MethodName := ⟨RX11, "done", "(I)I"⟩
abbrev cX11_facet : ByteArray := prog_1_method_14_code
def yX11_facet : MethodName := ⟨RX11, "facet", "(III)I"⟩
abbrev cX11_round : ByteArray := prog_1_method_15_code
def yX11_round : MethodName := ⟨RX11, "round", "(I)I"⟩
abbrev cX11_plan : ByteArray := prog_1_method_16_code
def yX11_plan : MethodName := ⟨RX11, "plan", "(II)I"⟩
abbrev cX11_polish : ByteArray := prog_1_method_17_code
def yX11_polish : MethodName := ⟨RX11, "polish", "(I)I"⟩
abbrev cX11_told : ByteArray := prog_1_method_18_code
def yX11_told : MethodName := ⟨RX11, "told", "(II)I"⟩
abbrev cX11_match : ByteArray := prog_1_method_19_code
def yX11_match : MethodName := ⟨RX11, "match", "()I"⟩
abbrev cX11_lot : ByteArray := prog_1_method_20_code
def yX11_lot : MethodName := ⟨RX11, "lot", "(II)I"⟩
abbrev cX11_bid : ByteArray := prog_1_method_21_code
def yX11_bid : MethodName := ⟨RX11, "bid", "(III)I"⟩
abbrev cX11_most : ByteArray := prog_1_method_22_code
def yX11_most : MethodName := ⟨RX11, "most", "(II)I"⟩
abbrev cX11_sell : ByteArray := prog_1_method_23_code
def yX11_sell : MethodName := ⟨RX11, "sell", "()I"⟩
abbrev cX11_count : ByteArray := prog_1_method_24_code
def yX11_count : MethodName := ⟨RX11, "count", "(I)I"⟩
abbrev cX11_roughOf : ByteArray := prog_1_method_25_code
def yX11_roughOf : MethodName := ⟨RX11, "roughOf", "(I)LRoughStones$Rough;"⟩
abbrev cX11_sawnRough : ByteArray := prog_1_method_26_code
def yX11_sawnRough : MethodName := ⟨RX11, "sawnRough", "(I)LRoughStones$Rough;"⟩
abbrev cX11_forgetCuts : ByteArray := prog_1_method_27_code
def yX11_forgetCuts : MethodName := ⟨RX11, "forgetCuts", "()V"⟩
abbrev cX11_stoneOf : ByteArray := prog_1_method_28_code
def yX11_stoneOf : MethodName := ⟨RX11, "stoneOf", "(I)LRoughStones$Stone;"⟩
abbrev cX11_plannedStone : ByteArray := prog_1_method_29_code
def yX11_plannedStone : MethodName := ⟨RX11, "plannedStone", "(I)LRoughStones$Stone;"⟩
abbrev cX11_stoneBits : ByteArray := prog_1_method_30_code
def yX11_stoneBits : MethodName := ⟨RX11, "stoneBits", "(II)J"⟩
abbrev cX11_hasTaken : ByteArray := prog_1_method_31_code
def yX11_hasTaken : MethodName := ⟨RX11, "hasTaken", "(J)Z"⟩
abbrev cX11_partsPair : ByteArray := prog_1_method_32_code
def yX11_partsPair : MethodName := ⟨RX11, "partsPair", "(J)Z"⟩
abbrev cX11_soldStones : ByteArray := prog_1_method_33_code
def yX11_soldStones : MethodName := ⟨RX11, "soldStones", "()I"⟩
abbrev cX11_refuseNoBidder : ByteArray := prog_1_method_34_code
def yX11_refuseNoBidder : MethodName := ⟨RX11, "refuseNoBidder", "(I)V"⟩
abbrev cX11_isNoLayer : ByteArray := prog_1_method_35_code
def yX11_isNoLayer : MethodName := ⟨RX11, "isNoLayer", "(J)Z"⟩
abbrev cX11_holds : ByteArray := prog_1_method_36_code
def yX11_holds : MethodName := ⟨RX11, "holds", "(JI)Z"⟩
abbrev cX11_lowestBit : ByteArray := prog_1_method_37_code
def yX11_lowestBit : MethodName := ⟨RX11, "lowestBit", "(J)I"⟩
def RX12 : String := "RoughStonesModel"
def TX12 : u_T := fun k => match k with
  | 0 => ("RoughStonesModel", "thrown", "I", false)
  | 1 => ("RoughStonesModel", "roughs", "I", false)
  | 2 => ("RoughStonesModel", "sound", "[I", true)
  | 3 => ("RoughStonesModel", "taped", "I", false)
  | 4 => ("RoughStonesModel", "size", "I", false)
  | 5 => ("RoughStonesModel", "at", "I", false)
  | 6 => ("RoughStonesModel", "bad", "I", false)
  | 7 => ("RoughStonesModel", "models", "I", false)
  | 8 => ("RoughStonesModel", "tape", "[I", true)
  | 9 => ("RoughStonesModel", "weight", "[I", true)
  | 10 => ("RoughStonesModel", "layers", "[I", true)
  | 11 => ("RoughStonesModel", "cellX", "[I", true)
  | 12 => ("RoughStonesModel", "cellY", "[I", true)
  | 13 => ("RoughStonesModel", "cellZ", "[I", true)
  | 14 => ("RoughStonesModel", "steps", "I", false)
  | 15 => ("RoughStonesModel", "stepFrom", "[I", true)
  | 16 => ("RoughStonesModel", "stepPrice", "[I", true)
  | 17 => ("RoughStonesModel", "low", "[I", true)
  | 18 => ("RoughStonesModel", "high", "[I", true)
  | 19 => ("RoughStonesModel", "part", "[I", true)
  | 20 => ("RoughStonesModel", "least", "[I", true)
  | 21 => ("RoughStonesModel", "most3", "[I", true)
  | 22 => ("RoughStonesModel", "foundA", "I", false)
  | 23 => ("RoughStonesModel", "foundB", "I", false)
  | 24 => ("RoughStonesModel", "foundC", "I", false)
  | 25 => ("RoughStonesModel", "cut", "[I", true)
  | 26 => ("RoughStonesModel", "lower", "[I", true)
  | 27 => ("RoughStonesModel", "best", "[I", true)
  | 28 => ("RoughStonesModel", "bestAxis", "I", false)
  | 29 => ("RoughStonesModel", "bestAt", "I", false)
  | 30 => ("RoughStonesModel", "bestCuts", "I", false)
  | 31 => ("RoughStonesModel", "bestWorth", "I", false)
  | 32 => ("RoughStonesModel", "stones", "I", false)
  | 33 => ("RoughStonesModel", "grains", "[I", true)
  | 34 => ("RoughStonesModel", "ofRough", "[I", true)
  | 35 => ("RoughStonesModel", "ofModel", "[I", true)
  | 36 => ("RoughStonesModel", "facets", "[I", true)
  | 37 => ("RoughStonesModel", "index", "[I", true)
  | 38 => ("RoughStonesModel", "angle", "[I", true)
  | 39 => ("RoughStonesModel", "pair", "[I", true)
  | 40 => ("RoughStonesModel", "lotOf", "[I", true)
  | 41 => ("RoughStonesModel", "buyer", "[I", true)
  | 42 => ("RoughStonesModel", "isPolished", "[Z", true)
  | 43 => ("RoughStonesModel", "rest", "[I", true)
  | 44 => ("RoughStonesModel", "order", "[I", true)
  | 45 => ("RoughStonesModel", "tens", "I", false)
  | 46 => ("RoughStonesModel", "matchPairs", "I", false)
  | 47 => ("RoughStonesModel", "matchOff", "I", false)
  | 48 => ("RoughStonesModel", "ten", "[I", true)
  | 49 => ("RoughStonesModel", "with", "[I", true)
  | 50 => ("RoughStonesModel", "bestWith", "[I", true)
  | 51 => ("RoughStonesModel", "lots", "I", false)
  | 52 => ("RoughStonesModel", "brought", "I", false)
  | 53 => ("RoughStonesModel", "bids", "[I", true)
  | 54 => ("RoughStonesModel", "most", "[I", true)
  | 55 => ("RoughStonesModel", "digits", "[I", true)
  | 56 => ("RoughStonesModel", "bestDigits", "[I", true)
  | _ => ("RoughStonesModel", "used", "[I", true)
def tyX12 : Nat → FieldType := fun k => match k with
  | 0 => .int
  | 1 => .int
  | 2 => .array .int
  | 3 => .int
  | 4 => .int
  | 5 => .int
  | 6 => .int
  | 7 => .int
  | 8 => .array .int
  | 9 => .array .int
  | 10 => .array .int
  | 11 => .array .int
  | 12 => .array .int
  | 13 => .array .int
  | 14 => .int
  | 15 => .array .int
  | 16 => .array .int
  | 17 => .array .int
  | 18 => .array .int
  | 19 => .array .int
  | 20 => .array .int
  | 21 => .array .int
  | 22 => .int
  | 23 => .int
  | 24 => .int
  | 25 => .array .int
  | 26 => .array .int
  | 27 => .array .int
  | 28 => .int
  | 29 => .int
  | 30 => .int
  | 31 => .int
  | 32 => .int
  | 33 => .array .int
  | 34 => .array .int
  | 35 => .array .int
  | 36 => .array .int
  | 37 => .array .int
  | 38 => .array .int
  | 39 => .array .int
  | 40 => .array .int
  | 41 => .array .int
  | 42 => .array .boolean
  | 43 => .array .int
  | 44 => .array .int
  | 45 => .int
  | 46 => .int
  | 47 => .int
  | 48 => .array .int
  | 49 => .array .int
  | 50 => .array .int
  | 51 => .int
  | 52 => .int
  | 53 => .array .int
  | 54 => .array .int
  | 55 => .array .int
  | 56 => .array .int
  | _ => .array .int
abbrev wsX120 : List Cond := u_ws RX12 TX12 58
theorem nmX12 : ∀ a, a < 58 → ∀ b, b < 58 → a ≠ b → (TX12 a).2.1 ≠ (TX12 b).2.1 := by decide +kernel
theorem tyX12_ok : ∀ k, k < 58 → parseFieldDescriptor (TX12 k).2.2.1 = some (tyX12 k) := by decide +kernel
abbrev cX12_thrown : ByteArray := prog_14_method_1_code
def yX12_thrown : MethodName := ⟨RX12, "thrown", "()I"⟩
abbrev cX12_may : ByteArray := prog_14_method_2_code
def yX12_may : MethodName := ⟨RX12, "may", "(ZI)Z"⟩
abbrev cX12_within : ByteArray := prog_14_method_3_code
def yX12_within : MethodName := ⟨RX12, "within", "(III)Z"⟩
abbrev cX12_init : ByteArray := prog_14_method_4_code
def yX12_init : MethodName := ⟨RX12, "<init>", "()V"⟩
abbrev cX12_rough : ByteArray := prog_14_method_5_code
def yX12_rough : MethodName := ⟨RX12, "rough", "()I"⟩
abbrev cX12_isRough : ByteArray := prog_14_method_6_code
def yX12_isRough : MethodName := ⟨RX12, "isRough", "(I)Z"⟩
abbrev cX12_scan : ByteArray := prog_14_method_7_code
def yX12_scan : MethodName := ⟨RX12, "scan", "(IIJJ)I"⟩
abbrev cX12_stuff : ByteArray := prog_14_method_8_code
def yX12_stuff : MethodName := ⟨RX12, "stuff", "(I)I"⟩
abbrev cX12_feed : ByteArray := prog_14_method_9_code
def yX12_feed : MethodName := ⟨RX12, "feed", "(IIIII)I"⟩
abbrev cX12_fine : ByteArray := prog_14_method_10_code
def yX12_fine : MethodName := ⟨RX12, "fine", "()Z"⟩
abbrev cX12_wrong : ByteArray := prog_14_method_11_code
def yX12_wrong : MethodName := ⟨RX12, "wrong", "(I)V"⟩
abbrev cX12_here : ByteArray := prog_14_method_12_code
def yX12_here : MethodName := ⟨RX12, "here", "()I"⟩
abbrev cX12_digit : ByteArray := prog_14_method_13_code
def yX12_digit : MethodName := ⟨RX12, "digit", "(II)I"⟩
abbrev cX12_need : ByteArray := prog_14_method_14_code
def yX12_need : MethodName := ⟨RX12, "need", "(I)V"⟩
abbrev cX12_isMore : ByteArray := prog_14_method_15_code
def yX12_isMore : MethodName := ⟨RX12, "isMore", "()Z"⟩
abbrev cX12_layer : ByteArray := prog_14_method_16_code
def yX12_layer : MethodName := ⟨RX12, "layer", "()V"⟩
abbrev cX12_model : ByteArray := prog_14_method_17_code
def yX12_model : MethodName := ⟨RX12, "model", "(I)I"⟩
abbrev cX12_isModel : ByteArray := prog_14_method_18_code
def yX12_isModel : MethodName := ⟨RX12, "isModel", "(I)Z"⟩
abbrev cX12_price : ByteArray := prog_14_method_19_code
def yX12_price : MethodName := ⟨RX12, "price", "(II)I"⟩
abbrev cX12_worthOf : ByteArray := prog_14_method_20_code
def yX12_worthOf : MethodName := ⟨RX12, "worthOf", "(I)I"⟩
abbrev cX12_worth : ByteArray := prog_14_method_21_code
def yX12_worth : MethodName := ⟨RX12, "worth", "(I)I"⟩
abbrev cX12_laid : ByteArray := prog_14_method_22_code
def yX12_laid : MethodName := ⟨RX12, "laid", "(III)I"⟩
abbrev cX12_setPart : ByteArray := prog_14_method_23_code
def yX12_setPart : MethodName := ⟨RX12, "setPart", "(IIII)V"⟩
abbrev cX12_isThere : ByteArray := prog_14_method_24_code
def yX12_isThere : MethodName := ⟨RX12, "isThere", "(IIIIII)Z"⟩
abbrev cX12_isFitting : ByteArray := prog_14_method_25_code
def yX12_isFitting : MethodName := ⟨RX12, "isFitting", "(III)Z"⟩
abbrev cX12_fit : ByteArray := prog_14_method_26_code
def yX12_fit : MethodName := ⟨RX12, "fit", "(III)I"⟩
abbrev cX12_findCut : ByteArray := prog_14_method_27_code
def yX12_findCut : MethodName := ⟨RX12, "findCut", "()I"⟩
abbrev cX12_keepCut : ByteArray := prog_14_method_28_code
def yX12_keepCut : MethodName := ⟨RX12, "keepCut", "([I)V"⟩
abbrev cX12_findBest : ByteArray := prog_14_method_29_code
def yX12_findBest : MethodName := ⟨RX12, "findBest", "(I)V"⟩
abbrev cX12_best : ByteArray := prog_14_method_30_code
def yX12_best : MethodName := ⟨RX12, "best", "(I)I"⟩
abbrev cX12_sawn : ByteArray := prog_14_method_31_code
def yX12_sawn : MethodName := ⟨RX12, "sawn", "(II)I"⟩
abbrev cX12_cut : ByteArray := prog_14_method_32_code
def yX12_cut : MethodName := ⟨RX12, "cut", "(III)I"⟩
abbrev cX12_done : ByteArray := prog_14_method_33_code
def yX12_done : MethodName := ⟨RX12, "done", "(I)I"⟩
abbrev cX12_isStone : ByteArray := prog_14_method_34_code
def yX12_isStone : MethodName := ⟨RX12, "isStone", "(I)Z"⟩
abbrev cX12_facet : ByteArray := prog_14_method_35_code
def yX12_facet : MethodName := ⟨RX12, "facet", "(III)I"⟩
abbrev cX12_off : ByteArray := prog_14_method_36_code
def yX12_off : MethodName := ⟨RX12, "off", "(I)I"⟩
abbrev cX12_way : ByteArray := prog_14_method_37_code
def yX12_way : MethodName := ⟨RX12, "way", "(IIII)I"⟩
abbrev cX12_between : ByteArray := prog_14_method_38_code
def yX12_between : MethodName := ⟨RX12, "between", "(III)I"⟩
abbrev cX12_first : ByteArray := prog_14_method_39_code
def yX12_first : MethodName := ⟨RX12, "first", "(II)I"⟩
abbrev cX12_findPlan : ByteArray := prog_14_method_40_code
def yX12_findPlan : MethodName := ⟨RX12, "findPlan", "(I)I"⟩
abbrev cX12_round : ByteArray := prog_14_method_41_code
def yX12_round : MethodName := ⟨RX12, "round", "(I)I"⟩
abbrev cX12_plan : ByteArray := prog_14_method_42_code
def yX12_plan : MethodName := ⟨RX12, "plan", "(II)I"⟩
abbrev cX12_polish : ByteArray := prog_14_method_43_code
def yX12_polish : MethodName := ⟨RX12, "polish", "(I)I"⟩
abbrev cX12_told : ByteArray := prog_14_method_44_code
def yX12_told : MethodName := ⟨RX12, "told", "(II)I"⟩
abbrev cX12_isPair : ByteArray := prog_14_method_45_code
def yX12_isPair : MethodName := ⟨RX12, "isPair", "(II)Z"⟩
abbrev cX12_isAhead : ByteArray := prog_14_method_46_code
def yX12_isAhead : MethodName := ⟨RX12, "isAhead", "()Z"⟩
abbrev cX12_tryPairs : ByteArray := prog_14_method_47_code
def yX12_tryPairs : MethodName := ⟨RX12, "tryPairs", "(III)V"⟩
abbrev cX12_match : ByteArray := prog_14_method_48_code
def yX12_match : MethodName := ⟨RX12, "match", "()I"⟩
abbrev cX12_lot : ByteArray := prog_14_method_49_code
def yX12_lot : MethodName := ⟨RX12, "lot", "(II)I"⟩
abbrev cX12_bid : ByteArray := prog_14_method_50_code
def yX12_bid : MethodName := ⟨RX12, "bid", "(III)I"⟩
abbrev cX12_most : ByteArray := prog_14_method_51_code
def yX12_most : MethodName := ⟨RX12, "most", "(II)I"⟩
abbrev cX12_sell : ByteArray := prog_14_method_52_code
def yX12_sell : MethodName := ⟨RX12, "sell", "()I"⟩
abbrev cX12_count : ByteArray := prog_14_method_53_code
def yX12_count : MethodName := ⟨RX12, "count", "(I)I"⟩
def RJx145de : String := "java/io/Serializable"
def TJx145de : u_T := fun k => match k with
  | _ => ("", "", "", false)
def tyJx145de : Nat → FieldType := fun k => match k with
  | _ => .int
abbrev wsJx145de0 : List Cond := u_ws RJx145de TJx145de 0
theorem nmJx145de : ∀ a, a < 0 → ∀ b, b < 0 → a ≠ b → (TJx145de a).2.1 ≠ (TJx145de b).2.1 := by decide +kernel
theorem tyJx145de_ok : ∀ k, k < 0 → parseFieldDescriptor (TJx145de k).2.2.1 = some (tyJx145de k) := by decide +kernel
def RJx8e188 : String := "java/lang/Cloneable"
def TJx8e188 : u_T := fun k => match k with
  | _ => ("", "", "", false)
def tyJx8e188 : Nat → FieldType := fun k => match k with
  | _ => .int
abbrev wsJx8e1880 : List Cond := u_ws RJx8e188 TJx8e188 0
theorem nmJx8e188 : ∀ a, a < 0 → ∀ b, b < 0 → a ≠ b → (TJx8e188 a).2.1 ≠ (TJx8e188 b).2.1 := by decide +kernel
theorem tyJx8e188_ok : ∀ k, k < 0 → parseFieldDescriptor (TJx8e188 k).2.2.1 = some (tyJx8e188 k) := by decide +kernel
def RJxab1ab : String := "java/lang/Iterable"
def TJxab1ab : u_T := fun k => match k with
  | _ => ("", "", "", false)
def tyJxab1ab : Nat → FieldType := fun k => match k with
  | _ => .int
abbrev wsJxab1ab0 : List Cond := u_ws RJxab1ab TJxab1ab 0
theorem nmJxab1ab : ∀ a, a < 0 → ∀ b, b < 0 → a ≠ b → (TJxab1ab a).2.1 ≠ (TJxab1ab b).2.1 := by decide +kernel
theorem tyJxab1ab_ok : ∀ k, k < 0 → parseFieldDescriptor (TJxab1ab k).2.2.1 = some (tyJxab1ab k) := by decide +kernel
def RJ13 : String := "java/lang/Long"
def TJ13 : u_T := fun k => match k with
  | _ => ("", "", "", false)
def tyJ13 : Nat → FieldType := fun k => match k with
  | _ => .int
abbrev wsJ130 : List Cond := u_ws RJ13 TJ13 0
theorem nmJ13 : ∀ a, a < 0 → ∀ b, b < 0 → a ≠ b → (TJ13 a).2.1 ≠ (TJ13 b).2.1 := by decide +kernel
theorem tyJ13_ok : ∀ k, k < 0 → parseFieldDescriptor (TJ13 k).2.2.1 = some (tyJ13 k) := by decide +kernel
abbrev cJ13_bitCount_95d88 : ByteArray := prog_22_method_50_code
def yJ13_bitCount_95d88 : MethodName := ⟨RJ13, "bitCount", "(J)I"⟩
def RJ9 : String := "java/lang/Math"
def TJ9 : u_T := fun k => match k with
  | _ => ("", "", "", false)
def tyJ9 : Nat → FieldType := fun k => match k with
  | _ => .int
abbrev wsJ90 : List Cond := u_ws RJ9 TJ9 0
theorem nmJ9 : ∀ a, a < 0 → ∀ b, b < 0 → a ≠ b → (TJ9 a).2.1 ≠ (TJ9 b).2.1 := by decide +kernel
theorem tyJ9_ok : ∀ k, k < 0 → parseFieldDescriptor (TJ9 k).2.2.1 = some (tyJ9 k) := by decide +kernel
abbrev cJ9_abs_0f7a4 : ByteArray := prog_23_method_59_code
def yJ9_abs_0f7a4 : MethodName := ⟨RJ9, "abs", "(I)I"⟩
abbrev cJ9_max_7cf53 : ByteArray := prog_23_method_65_code
def yJ9_max_7cf53 : MethodName := ⟨RJ9, "max", "(II)I"⟩
abbrev cJ9_min_7cf53 : ByteArray := prog_23_method_69_code
def yJ9_min_7cf53 : MethodName := ⟨RJ9, "min", "(II)I"⟩
def RJ0 : String := "java/lang/String"
def TJ0 : u_T := fun k => match k with
  | _ => ("", "", "", false)
def tyJ0 : Nat → FieldType := fun k => match k with
  | _ => .int
abbrev wsJ00 : List Cond := u_ws RJ0 TJ0 0
theorem nmJ0 : ∀ a, a < 0 → ∀ b, b < 0 → a ≠ b → (TJ0 a).2.1 ≠ (TJ0 b).2.1 := by decide +kernel
theorem tyJ0_ok : ∀ k, k < 0 → parseFieldDescriptor (TJ0 k).2.2.1 = some (tyJ0 k) := by decide +kernel
def RJ10 : String := "java/lang/System"
def TJ10 : u_T := fun k => match k with
  | _ => ("", "", "", false)
def tyJ10 : Nat → FieldType := fun k => match k with
  | _ => .int
abbrev wsJ100 : List Cond := u_ws RJ10 TJ10 0
theorem nmJ10 : ∀ a, a < 0 → ∀ b, b < 0 → a ≠ b → (TJ10 a).2.1 ≠ (TJ10 b).2.1 := by decide +kernel
theorem tyJ10_ok : ∀ k, k < 0 → parseFieldDescriptor (TJ10 k).2.2.1 = some (tyJ10 k) := by decide +kernel
def RJxa1e45 : String := "java/util/AbstractCollection"
def TJxa1e45 : u_T := fun k => match k with
  | _ => ("", "", "", false)
def tyJxa1e45 : Nat → FieldType := fun k => match k with
  | _ => .int
abbrev wsJxa1e450 : List Cond := u_ws RJxa1e45 TJxa1e45 0
theorem nmJxa1e45 : ∀ a, a < 0 → ∀ b, b < 0 → a ≠ b → (TJxa1e45 a).2.1 ≠ (TJxa1e45 b).2.1 := by decide +kernel
theorem tyJxa1e45_ok : ∀ k, k < 0 → parseFieldDescriptor (TJxa1e45 k).2.2.1 = some (tyJxa1e45 k) := by decide +kernel
abbrev cJxa1e45_init_da8c8 : ByteArray := prog_28_method_1_code
def yJxa1e45_init_da8c8 : MethodName := ⟨RJxa1e45, "<init>", "()V"⟩
def RJxc12de : String := "java/util/AbstractList"
def TJxc12de : u_T := fun k => match k with
  | _ => ("", "", "", false)
def tyJxc12de : Nat → FieldType := fun k => match k with
  | _ => .int
abbrev wsJxc12de0 : List Cond := u_ws RJxc12de TJxc12de 0
theorem nmJxc12de : ∀ a, a < 0 → ∀ b, b < 0 → a ≠ b → (TJxc12de a).2.1 ≠ (TJxc12de b).2.1 := by decide +kernel
theorem tyJxc12de_ok : ∀ k, k < 0 → parseFieldDescriptor (TJxc12de k).2.2.1 = some (tyJxc12de k) := by decide +kernel
abbrev cJxc12de_init_da8c8 : ByteArray := prog_29_method_1_code
def yJxc12de_init_da8c8 : MethodName := ⟨RJxc12de, "<init>", "()V"⟩
def RJx4a65c : String := "java/util/ArrayList"
def TJx4a65c : u_T := fun k => match k with
  | 0 => ("java/util/AbstractList", "modCount", "I", false)
  | 1 => ("java/util/ArrayList", "elementData", "[Ljava/lang/Object;", false)
  | _ => ("java/util/ArrayList", "size", "I", false)
def tyJx4a65c : Nat → FieldType := fun k => match k with
  | 0 => .int
  | 1 => .array (.object "java/lang/Object")
  | _ => .int
abbrev wsJx4a65c0 : List Cond := u_ws RJx4a65c TJx4a65c 3
theorem nmJx4a65c : ∀ a, a < 3 → ∀ b, b < 3 → a ≠ b → (TJx4a65c a).2.1 ≠ (TJx4a65c b).2.1 := by decide +kernel
theorem tyJx4a65c_ok : ∀ k, k < 3 → parseFieldDescriptor (TJx4a65c k).2.2.1 = some (tyJx4a65c k) := by decide +kernel
abbrev cJx4a65c_init_da8c8 : ByteArray := prog_30_method_2_code
def yJx4a65c_init_da8c8 : MethodName := ⟨RJx4a65c, "<init>", "()V"⟩
abbrev cJx4a65c_grow_92f84 : ByteArray := prog_30_method_6_code
def yJx4a65c_grow_92f84 : MethodName := ⟨RJx4a65c, "grow", "(I)[Ljava/lang/Object;"⟩
abbrev cJx4a65c_grow_d5877 : ByteArray := prog_30_method_7_code
def yJx4a65c_grow_d5877 : MethodName := ⟨RJx4a65c, "grow", "()[Ljava/lang/Object;"⟩
abbrev cJx4a65c_size_8abf5 : ByteArray := prog_30_method_8_code
def yJx4a65c_size_8abf5 : MethodName := ⟨RJx4a65c, "size", "()I"⟩
abbrev cJx4a65c_elementData_915e3 : ByteArray := prog_30_method_18_code
def yJx4a65c_elementData_915e3 : MethodName := ⟨RJx4a65c, "elementData", "(I)Ljava/lang/Object;"⟩
abbrev cJx4a65c_get_915e3 : ByteArray := prog_30_method_20_code
def yJx4a65c_get_915e3 : MethodName := ⟨RJx4a65c, "get", "(I)Ljava/lang/Object;"⟩
abbrev cJx4a65c_add_72be8 : ByteArray := prog_30_method_24_code
def yJx4a65c_add_72be8 : MethodName := ⟨RJx4a65c, "add", "(Ljava/lang/Object;[Ljava/lang/Object;I)V"⟩
abbrev cJx4a65c_add_9ea2d : ByteArray := prog_30_method_25_code
def yJx4a65c_add_9ea2d : MethodName := ⟨RJx4a65c, "add", "(Ljava/lang/Object;)Z"⟩
def RJ7 : String := "java/util/Arrays"
def TJ7 : u_T := fun k => match k with
  | _ => ("", "", "", false)
def tyJ7 : Nat → FieldType := fun k => match k with
  | _ => .int
abbrev wsJ70 : List Cond := u_ws RJ7 TJ7 0
theorem nmJ7 : ∀ a, a < 0 → ∀ b, b < 0 → a ≠ b → (TJ7 a).2.1 ≠ (TJ7 b).2.1 := by decide +kernel
theorem tyJ7_ok : ∀ k, k < 0 → parseFieldDescriptor (TJ7 k).2.2.1 = some (tyJ7 k) := by decide +kernel
abbrev cJ7_copyOf_1904c : ByteArray := prog_31_method_119_code
def yJ7_copyOf_1904c : MethodName := ⟨RJ7, "copyOf", "([Ljava/lang/Object;I)[Ljava/lang/Object;"⟩
abbrev cJ7_copyOf_6403c : ByteArray := prog_31_method_120_code
def yJ7_copyOf_6403c : MethodName := ⟨RJ7, "copyOf", "([Ljava/lang/Object;ILjava/lang/Class;)[Ljava/lang/Object;"⟩
def RJx5ef63 : String := "java/util/Collection"
def TJx5ef63 : u_T := fun k => match k with
  | _ => ("", "", "", false)
def tyJx5ef63 : Nat → FieldType := fun k => match k with
  | _ => .int
abbrev wsJx5ef630 : List Cond := u_ws RJx5ef63 TJx5ef63 0
theorem nmJx5ef63 : ∀ a, a < 0 → ∀ b, b < 0 → a ≠ b → (TJx5ef63 a).2.1 ≠ (TJx5ef63 b).2.1 := by decide +kernel
theorem tyJx5ef63_ok : ∀ k, k < 0 → parseFieldDescriptor (TJx5ef63 k).2.2.1 = some (tyJx5ef63 k) := by decide +kernel
def RJxbd725 : String := "java/util/List"
def TJxbd725 : u_T := fun k => match k with
  | _ => ("", "", "", false)
def tyJxbd725 : Nat → FieldType := fun k => match k with
  | _ => .int
abbrev wsJxbd7250 : List Cond := u_ws RJxbd725 TJxbd725 0
theorem nmJxbd725 : ∀ a, a < 0 → ∀ b, b < 0 → a ≠ b → (TJxbd725 a).2.1 ≠ (TJxbd725 b).2.1 := by decide +kernel
theorem tyJxbd725_ok : ∀ k, k < 0 → parseFieldDescriptor (TJxbd725 k).2.2.1 = some (tyJxbd725 k) := by decide +kernel
def RJ15 : String := "java/util/Objects"
def TJ15 : u_T := fun k => match k with
  | _ => ("", "", "", false)
def tyJ15 : Nat → FieldType := fun k => match k with
  | _ => .int
abbrev wsJ150 : List Cond := u_ws RJ15 TJ15 0
theorem nmJ15 : ∀ a, a < 0 → ∀ b, b < 0 → a ≠ b → (TJ15 a).2.1 ≠ (TJ15 b).2.1 := by decide +kernel
theorem tyJ15_ok : ∀ k, k < 0 → parseFieldDescriptor (TJ15 k).2.2.1 = some (tyJ15 k) := by decide +kernel
abbrev cJ15_checkIndex_7cf53 : ByteArray := prog_35_method_17_code
def yJ15_checkIndex_7cf53 : MethodName := ⟨RJ15, "checkIndex", "(II)I"⟩
def RJxf0a74 : String := "java/util/RandomAccess"
def TJxf0a74 : u_T := fun k => match k with
  | _ => ("", "", "", false)
def tyJxf0a74 : Nat → FieldType := fun k => match k with
  | _ => .int
abbrev wsJxf0a740 : List Cond := u_ws RJxf0a74 TJxf0a74 0
theorem nmJxf0a74 : ∀ a, a < 0 → ∀ b, b < 0 → a ≠ b → (TJxf0a74 a).2.1 ≠ (TJxf0a74 b).2.1 := by decide +kernel
theorem tyJxf0a74_ok : ∀ k, k < 0 → parseFieldDescriptor (TJxf0a74 k).2.2.1 = some (tyJxf0a74 k) := by decide +kernel
def RJxa66e6 : String := "java/util/SequencedCollection"
def TJxa66e6 : u_T := fun k => match k with
  | _ => ("", "", "", false)
def tyJxa66e6 : Nat → FieldType := fun k => match k with
  | _ => .int
abbrev wsJxa66e60 : List Cond := u_ws RJxa66e6 TJxa66e6 0
theorem nmJxa66e6 : ∀ a, a < 0 → ∀ b, b < 0 → a ≠ b → (TJxa66e6 a).2.1 ≠ (TJxa66e6 b).2.1 := by decide +kernel
theorem tyJxa66e6_ok : ∀ k, k < 0 → parseFieldDescriptor (TJxa66e6 k).2.2.1 = some (tyJxa66e6 k) := by decide +kernel
def RJ8 : String := "jdk/internal/util/ArraysSupport"
def TJ8 : u_T := fun k => match k with
  | _ => ("", "", "", false)
def tyJ8 : Nat → FieldType := fun k => match k with
  | _ => .int
abbrev wsJ80 : List Cond := u_ws RJ8 TJ8 0
theorem nmJ8 : ∀ a, a < 0 → ∀ b, b < 0 → a ≠ b → (TJ8 a).2.1 ≠ (TJ8 b).2.1 := by decide +kernel
theorem tyJ8_ok : ∀ k, k < 0 → parseFieldDescriptor (TJ8 k).2.2.1 = some (tyJ8 k) := by decide +kernel
abbrev cJ8_newLength_cabcc : ByteArray := prog_38_method_27_code
def yJ8_newLength_cabcc : MethodName := ⟨RJ8, "newLength", "(III)I"⟩
abbrev cJ8_hugeLength_7cf53 : ByteArray := prog_38_method_28_code
def yJ8_hugeLength_7cf53 : MethodName := ⟨RJ8, "hugeLength", "(II)I"⟩
def RJ3 : String := "jdk/internal/util/Preconditions"
def TJ3 : u_T := fun k => match k with
  | _ => ("", "", "", false)
def tyJ3 : Nat → FieldType := fun k => match k with
  | _ => .int
abbrev wsJ30 : List Cond := u_ws RJ3 TJ3 0
theorem nmJ3 : ∀ a, a < 0 → ∀ b, b < 0 → a ≠ b → (TJ3 a).2.1 ≠ (TJ3 b).2.1 := by decide +kernel
theorem tyJ3_ok : ∀ k, k < 0 → parseFieldDescriptor (TJ3 k).2.2.1 = some (tyJ3 k) := by decide +kernel
abbrev cJ3_checkIndex_8e157 : ByteArray := prog_39_method_11_code
def yJ3_checkIndex_8e157 : MethodName := ⟨RJ3, "checkIndex", "(IILjava/util/function/BiFunction;)I"⟩
def RL : String := "RoughStonesLaw"
abbrev cL_scan : ByteArray := method_3_code
def yL_scan : MethodName := ⟨RL, "scan", "(LRoughStones;IIJJ[J)I"⟩
abbrev cL_stuff : ByteArray := method_4_code
def yL_stuff : MethodName := ⟨RL, "stuff", "(LRoughStones;I[J)I"⟩
abbrev cL_model : ByteArray := method_5_code
def yL_model : MethodName := ⟨RL, "model", "(LRoughStones;I[J)I"⟩
abbrev cL_price : ByteArray := method_6_code
def yL_price : MethodName := ⟨RL, "price", "(LRoughStones;II[J)I"⟩
abbrev cL_worth : ByteArray := method_7_code
def yL_worth : MethodName := ⟨RL, "worth", "(LRoughStones;I[J)I"⟩
abbrev cL_fit : ByteArray := method_8_code
def yL_fit : MethodName := ⟨RL, "fit", "(LRoughStones;III[J)I"⟩
abbrev cL_best : ByteArray := method_9_code
def yL_best : MethodName := ⟨RL, "best", "(LRoughStones;I[J)I"⟩
abbrev cL_sawn : ByteArray := method_10_code
def yL_sawn : MethodName := ⟨RL, "sawn", "(LRoughStones;II[J)I"⟩
abbrev cL_cut : ByteArray := method_11_code
def yL_cut : MethodName := ⟨RL, "cut", "(LRoughStones;III[J)I"⟩
abbrev cL_done : ByteArray := method_12_code
def yL_done : MethodName := ⟨RL, "done", "(LRoughStones;I[J)I"⟩
abbrev cL_facet : ByteArray := method_13_code
def yL_facet : MethodName := ⟨RL, "facet", "(LRoughStones;III[J)I"⟩
abbrev cL_round : ByteArray := method_14_code
def yL_round : MethodName := ⟨RL, "round", "(LRoughStones;I[J)I"⟩
abbrev cL_plan : ByteArray := method_15_code
def yL_plan : MethodName := ⟨RL, "plan", "(LRoughStones;II[J)I"⟩
abbrev cL_polish : ByteArray := method_16_code
def yL_polish : MethodName := ⟨RL, "polish", "(LRoughStones;I[J)I"⟩
abbrev cL_told : ByteArray := method_17_code
def yL_told : MethodName := ⟨RL, "told", "(LRoughStones;II[J)I"⟩
abbrev cL_lot : ByteArray := method_18_code
def yL_lot : MethodName := ⟨RL, "lot", "(LRoughStones;II[J)I"⟩
abbrev cL_bid : ByteArray := method_19_code
def yL_bid : MethodName := ⟨RL, "bid", "(LRoughStones;III[J)I"⟩
abbrev cL_most : ByteArray := method_20_code
def yL_most : MethodName := ⟨RL, "most", "(LRoughStones;II[J)I"⟩
abbrev cL_law : ByteArray := code
def yL_law : MethodName := ⟨RL, "law", "([I)Z"⟩
abbrev vwCl : List vw_C := [(RJx4a65c, TJx4a65c, 3), (RX0, TX0, 8), (RX1, TX1, 8), (RX2, TX2, 4), (RX3, TX3, 5), (RX4, TX4, 4), (RX5, TX5, 3), (RX6, TX6, 8), (RX7, TX7, 4), (RX8, TX8, 13), (RX9, TX9, 9), (RX10, TX10, 3), (RX11, TX11, 10), (RX12, TX12, 58)]
/-- the good words of the tables -/
def gw : List Cond := lw_tbl.filter goodWord
set_option maxRecDepth 100000 in
theorem g_inJx4a65c : ∀ w ∈ wsJx4a65c0, w ∈ gw := by decide +kernel
set_option maxRecDepth 100000 in
theorem g_inX0 : ∀ w ∈ wsX00, w ∈ gw := by decide +kernel
set_option maxRecDepth 100000 in
theorem g_inX1 : ∀ w ∈ wsX10, w ∈ gw := by decide +kernel
set_option maxRecDepth 100000 in
theorem g_inX2 : ∀ w ∈ wsX20, w ∈ gw := by decide +kernel
set_option maxRecDepth 100000 in
theorem g_inX3 : ∀ w ∈ wsX30, w ∈ gw := by decide +kernel
set_option maxRecDepth 100000 in
theorem g_inX4 : ∀ w ∈ wsX40, w ∈ gw := by decide +kernel
set_option maxRecDepth 100000 in
theorem g_inX5 : ∀ w ∈ wsX50, w ∈ gw := by decide +kernel
set_option maxRecDepth 100000 in
theorem g_inX6 : ∀ w ∈ wsX60, w ∈ gw := by decide +kernel
set_option maxRecDepth 100000 in
theorem g_inX7 : ∀ w ∈ wsX70, w ∈ gw := by decide +kernel
set_option maxRecDepth 100000 in
theorem g_inX8 : ∀ w ∈ wsX80, w ∈ gw := by decide +kernel
set_option maxRecDepth 100000 in
theorem g_inX9 : ∀ w ∈ wsX90, w ∈ gw := by decide +kernel
set_option maxRecDepth 100000 in
theorem g_inX10 : ∀ w ∈ wsX100, w ∈ gw := by decide +kernel
set_option maxRecDepth 100000 in
theorem g_inX11 : ∀ w ∈ wsX110, w ∈ gw := by decide +kernel
set_option maxRecDepth 100000 in
theorem g_inX12 : ∀ w ∈ wsX120, w ∈ gw := by decide +kernel
end
section
/-! ===== the pure memory: names for cells; ints, longs, names by (name, place); kind and length of a name ===== -/
abbrev PM : Type := (Nat → Nat → Int32) × (Nat → Nat → Int64) × (Nat → Nat → Nat) × (Nat → Nat) × (Nat → Nat)
def mI (h : PM) : Nat → Nat → Int32 := h.1
def mJ (h : PM) : Nat → Nat → Int64 := h.2.1
def mR (h : PM) : Nat → Nat → Nat := h.2.2.1
def mT (h : PM) : Nat → Nat := h.2.2.2.1
def mN (h : PM) : Nat → Nat := h.2.2.2.2
def u2 {α : Type} (f : Nat → Nat → α) (a k : Nat) (v : α) : Nat → Nat → α := fun b j => if b = a then (if j = k then v else f b j) else f b j
def u1 {α : Type} (f : Nat → α) (a : Nat) (v : α) : Nat → α := fun b => if b = a then v else f b
def setI (h : PM) (a k : Nat) (v : Int32) : PM := (u2 (mI h) a k v, h.2)
def setJ (h : PM) (a k : Nat) (v : Int64) : PM := (h.1, u2 (mJ h) a k v, h.2.2)
def setR (h : PM) (a k : Nat) (v : Nat) : PM := (h.1, h.2.1, u2 (mR h) a k v, h.2.2.2)
/-- a new name: kind t, length n, all its places at their default -/
def newM (h : PM) (a t n : Nat) : PM := (u1 (mI h) a (fun _ => 0), u1 (mJ h) a (fun _ => 0), u1 (mR h) a (fun _ => 0), u1 (mT h) a t, u1 (mN h) a n)
theorem u2_ne {α : Type} {f : Nat → Nat → α} {a k : Nat} {v : α} {b : Nat} (h : b ≠ a) : u2 f a k v b = f b := by funext j; simp [u2, h]
theorem u2_self {α : Type} {f : Nat → Nat → α} {a k : Nat} {v : α} : u2 f a k v a = fun j => if j = k then v else f a j := by funext j; simp [u2]
theorem u1_ne {α : Type} {f : Nat → α} {a : Nat} {v : α} {b : Nat} (h : b ≠ a) : u1 f a v b = f b := by simp [u1, h]
theorem u1_self {α : Type} {f : Nat → α} {a : Nat} {v : α} : u1 f a v a = v := by simp [u1]
/-- fields of the classes: 0 int, 1 boolean, 2 reference -/
def fkL : List (List Nat) := [[0, 2, 0], [2, 2, 2, 2, 2, 2, 0, 0], [0, 0, 0, 0, 0, 0, 0, 0], [2, 2, 2, 0], [2, 2, 2, 0, 0], [0, 0, 0, 2], [2, 2, 0], [2, 1, 0, 0, 0, 0, 2, 2], [2, 2, 2, 2], [0, 0, 0, 1, 0, 0, 0, 0, 2, 2, 0, 0, 2], [2, 0, 0, 0, 0, 2, 2, 2, 2], [2, 2, 2], [2, 2, 2, 2, 2, 2, 2, 2, 2, 0], [0, 0, 2, 0, 0, 0, 0, 0, 2, 2, 2, 2, 2, 2, 0, 2, 2, 2, 2, 2, 2, 2, 0, 0, 0, 2, 2, 2, 0, 0, 0, 0, 0, 2, 2, 2, 2, 2, 2, 2, 2, 2, 2, 2, 2, 0, 0, 0, 2, 2, 2, 0, 0, 2, 2, 2, 2, 2]]
def fk (c k : Nat) : Nat := (fkL.getD c []).getD k 0
def nF (c : Nat) : Nat := (fkL.getD c []).length
def rn (ρ : Nat → Nat) (r : Nat) : Option Nat := if r = 0 then none else some (ρ r)
def fv (ρ : Nat → Nat) (h : PM) (c a k : Nat) : Value := if fk c k = 2 then va_rf (rn ρ (mR h a k)) else .int (mI h a k)
def co (ρ : Nat → Nat) (h : PM) (t a : Nat) : (Nat → Int32) ⊕ (Nat → Int64) ⊕ (Nat → UInt32) ⊕ (Nat → UInt64) ⊕ (Nat → Option Nat) :=
  if t = 21 then .inr (.inl (mJ h a)) else if 24 ≤ t then .inr (.inr (.inr (.inr (fun j => rn ρ (mR h a j))))) else .inl (mI h a)
/-- what the cell of a name holds. kinds: below 20 an object of the class t - 1; 20 int[], 21 long[], 22 boolean[], 24 Part[], 25 Object[], 26 long[][]; 23 and 27: int[], Object[] of others, read only -/
def en (cy : Nat → ClassId) (ρ : Nat → Nat) (h : PM) (a : Nat) : va_E :=
  if mT h a < 20 then .inr (mT h a - 1, (List.range (nF (mT h a - 1))).map (fv ρ h (mT h a - 1) a)) else .inl (cy (mT h a), mN h a, co ρ h (mT h a) a)
def tyL (cy : Nat → ClassId) : List (ClassId × FieldType) := [(cy 20, .int), (cy 21, .long), (cy 22, .boolean), (cy 24, .object "RoughStones$Part"), (cy 25, .object "java/lang/Object"), (cy 26, .array .long)]
def own1 (t : Nat) : Prop := t ≠ 0 ∧ t ≠ 23 ∧ t ≠ 27
/-- an array of references of others' making, of which the length is known -/
def va_XO (b L : Nat) (U : State) (H : Heap) : Prop := ∃ scr : Cell, H[b]? = some scr ∧ U.isArrayOf scr (.object "java/lang/Object") ∧ scr.vm ≠ .unknown ∧ scr.slots.size = L
def Rep (D : va_G) (cy : Nat → ClassId) (base : Nat) (ρ : Nat → Nat) (h : PM) (U : State) (H : Heap) : Prop :=
  (∀ a, own1 (mT h a) → base ≤ ρ a ∧ va_at D vwCl (ρ a, en cy ρ h a) H) ∧
  (∀ a, mT h a = 23 → ρ a < base ∧ va_X (ρ a) (mN h a) (mI h a) U H) ∧
  (∀ a, mT h a = 27 → ρ a < base ∧ va_XO (ρ a) (mN h a) U H) ∧
  (∀ a b, mT h a ≠ 0 → mT h b ≠ 0 → ρ a = ρ b → a = b) ∧
  (∀ a k, mT h a ≠ 0 → mR h a k = 0 ∨ mT h (mR h a k) ≠ 0)
def rv (ρ : Nat → Nat) (v : Value) : Value := match v with
  | .ref a => .ref (ρ a)
  | v => v
def okv (h : PM) (v : Value) : Prop := match v with
  | .ref a => mT h a ≠ 0
  | _ => True
def okS (h : PM) : List Value → Prop
  | [] => True
  | v :: t => okv h v ∧ okS h t
def okL (h : PM) : List (Nat × Value) → Prop
  | [] => True
  | q :: t => okv h q.2 ∧ okL h t
def mp (ρ : Nat → Nat) (ls : List (Nat × Value)) : List (Nat × Value) := ls.map (fun q => (q.1, rv ρ q.2))
theorem rv_cat (ρ : Nat → Nat) (v : Value) : (rv ρ v).category = v.category := by cases v <;> rfl
/-- the heap, what was written, the room: all but the frame -/
def SH (D : va_G) (cy : Nat → ClassId) (base : Nat) (s : State) (ρ0 : Nat → Nat) (h0 : PM) (cs ss : Nat) (ρ : Nat → Nat) (H : Heap) (locs : List Loc) (cells slots : Nat) (h : PM) : Prop :=
  Rep D cy base ρ h s H ∧ va_S (fun q => base ≤ q) s.heap H locs ∧ (cells ≤ cs ∧ slots ≤ ss) ∧ (∀ a, mT h0 a ≠ 0 → mT h a ≠ 0 ∧ ρ a = ρ0 a) ∧ base ≤ s.heap.size
section PW
variable (p : Program) (l : Launch) (e : Env) (R : Room) (s : State) (m : MethodId) (args : Array Value) (below : List Frame) (meth : Method) (c : Code)
variable (D : va_G) (cy : Nat → ClassId) (base : Nat) (ρ0 : Nat → Nat) (h0 : PM) (cs ss nL : Nat) (Q : State → Prop)
/-- the machine at pc with these locals and stack over the memory h comes to a state with Q -/
def WP (pc : Nat) (ls : List (Nat × Value)) (st : List Value) (h : PM) : Prop :=
  ∀ (ρ : Nat → Nat) (H : Heap) (locs : List Loc) (cells slots : Nat) (la : Array Slot), SH D cy base s ρ0 h0 cs ss ρ H locs cells slots h → lv_has la nL (mp ρ ls) → okL h ls → okS h st →
    W p l e R s m args below meth c H locs cells slots Q (F0 m pc la (st.map (rv ρ)))
end PW
/-- what holds all along a method -/
def Cx (p : Program) (R : Room) (s : State) (m : MethodId) (args : Array Value) (meth : Method) (c : Code) (D : va_G) (cy : Nat → ClassId) (MC MS DP : Nat) (cc : ByteArray) (nL : Nat) (own : String) : Prop :=
  CallFix p m c cc nL s args gw own ∧ va_K D vwCl (tyL cy) s ∧ meth.locks = false ∧ (MC ≤ R.cells ∧ MS ≤ R.slots ∧ DP ≤ R.frames ∧ 64 * DP ≤ R.locals)
section PR
variable {p : Program} {l : Launch} {e : Env} {R : Room} {s : State} {m : MethodId} {args : Array Value} {below : List Frame} {meth : Method} {c : Code}
variable {D : va_G} {cy : Nat → ClassId} {base : Nat} {ρ0 : Nat → Nat} {h0 : PM} {cs ss MC MS DP nL : Nat} {Q : State → Prop}
variable {cc : ByteArray} {own : String} {pc : Nat} {ls : List (Nat × Value)} {st : List Value} {h : PM}
theorem r_at {ρ : Nat → Nat} {la : Array Slot} (hl : lv_has la nL (mp ρ ls)) (k : Nat) {i : Nat} {v : Value} (hk : ls[k]? = some (i, v)) : la[i]? = some (.val (rv ρ v)) :=
  lv_at hl k (by simp [mp, hk])
theorem okL_at (ho : okL h ls) {k i : Nat} {v : Value} (hk : ls[k]? = some (i, v)) : okv h v := by
  induction ls generalizing k with
  | nil => simp at hk
  | cons q t ih =>
    cases k with
    | zero => simp at hk; subst hk; exact ho.1
    | succ k => exact ih ho.2 (by simpa using hk)
theorem okL_mem (ho : okL h ls) {q : Nat × Value} (hq : q ∈ ls) : okv h q.2 := by
  obtain ⟨k, hk⟩ := List.getElem?_of_mem hq
  exact okL_at ho (k := k) (i := q.1) (v := q.2) hk
theorem okL_of (hh : ∀ q ∈ ls, okv h q.2) : okL h ls := by
  induction ls with
  | nil => trivial
  | cons q t ih => exact ⟨hh q List.mem_cons_self, ih (fun x hx => hh x (List.mem_cons_of_mem _ hx))⟩
theorem r_iconst {n : Int} {v : Int32} (C : Cx p R s m args meth c D cy MC MS DP cc nL own) (d : decode cc pc = .ok (.iconst n, 1)) (hv : Int32.ofInt n = v) (k : WP p l e R s m args below meth c D cy base ρ0 h0 cs ss nL Q (pc + 1) ls (.int v :: st) h) : WP p l e R s m args below meth c D cy base ρ0 h0 cs ss nL Q pc ls st h := fun ρ H locs cells slots la h1 h2 h3 h4 => lv_iconst C.1.1 C.1.2.1 d hv (k ρ H locs cells slots la h1 h2 h3 ⟨trivial, h4⟩)
theorem r_bipush {n : Int} {v : Int32} (C : Cx p R s m args meth c D cy MC MS DP cc nL own) (d : decode cc pc = .ok (.bipush n, 2)) (hv : (Int8.ofInt n).toInt32 = v) (k : WP p l e R s m args below meth c D cy base ρ0 h0 cs ss nL Q (pc + 2) ls (.int v :: st) h) : WP p l e R s m args below meth c D cy base ρ0 h0 cs ss nL Q pc ls st h := fun ρ H locs cells slots la h1 h2 h3 h4 => lv_bipush C.1.1 C.1.2.1 d hv (k ρ H locs cells slots la h1 h2 h3 ⟨trivial, h4⟩)
theorem r_sipush {n : Int} {v : Int32} (C : Cx p R s m args meth c D cy MC MS DP cc nL own) (d : decode cc pc = .ok (.sipush n, 3)) (hv : (Int16.ofInt n).toInt32 = v) (k : WP p l e R s m args below meth c D cy base ρ0 h0 cs ss nL Q (pc + 3) ls (.int v :: st) h) : WP p l e R s m args below meth c D cy base ρ0 h0 cs ss nL Q pc ls st h := fun ρ H locs cells slots la h1 h2 h3 h4 => lv_sipush C.1.1 C.1.2.1 d hv (k ρ H locs cells slots la h1 h2 h3 ⟨trivial, h4⟩)
theorem r_lconst {n : Fin 2} {v : Int64} (C : Cx p R s m args meth c D cy MC MS DP cc nL own) (d : decode cc pc = .ok (.lconst n, 1)) (hv : Int64.ofNat (n : Nat) = v) (k : WP p l e R s m args below meth c D cy base ρ0 h0 cs ss nL Q (pc + 1) ls (.long v :: st) h) : WP p l e R s m args below meth c D cy base ρ0 h0 cs ss nL Q pc ls st h := fun ρ H locs cells slots la h1 h2 h3 h4 => lv_lconst C.1.1 C.1.2.1 d hv (k ρ H locs cells slots la h1 h2 h3 ⟨trivial, h4⟩)
theorem r_iadd {x y : Int32} (C : Cx p R s m args meth c D cy MC MS DP cc nL own) (d : decode cc pc = .ok (.iadd, 1))  (k : WP p l e R s m args below meth c D cy base ρ0 h0 cs ss nL Q (pc + 1) ls (.int (x + y) :: st) h) : WP p l e R s m args below meth c D cy base ρ0 h0 cs ss nL Q pc ls (.int y :: .int x :: st) h := fun ρ H locs cells slots la h1 h2 h3 h4 => lv_iadd C.1.1 C.1.2.1 d (k ρ H locs cells slots la h1 h2 h3 ⟨trivial, h4.2.2⟩)
theorem r_isub {x y : Int32} (C : Cx p R s m args meth c D cy MC MS DP cc nL own) (d : decode cc pc = .ok (.isub, 1))  (k : WP p l e R s m args below meth c D cy base ρ0 h0 cs ss nL Q (pc + 1) ls (.int (x - y) :: st) h) : WP p l e R s m args below meth c D cy base ρ0 h0 cs ss nL Q pc ls (.int y :: .int x :: st) h := fun ρ H locs cells slots la h1 h2 h3 h4 => lv_isub C.1.1 C.1.2.1 d (k ρ H locs cells slots la h1 h2 h3 ⟨trivial, h4.2.2⟩)
theorem r_imul {x y : Int32} (C : Cx p R s m args meth c D cy MC MS DP cc nL own) (d : decode cc pc = .ok (.imul, 1))  (k : WP p l e R s m args below meth c D cy base ρ0 h0 cs ss nL Q (pc + 1) ls (.int (x * y) :: st) h) : WP p l e R s m args below meth c D cy base ρ0 h0 cs ss nL Q pc ls (.int y :: .int x :: st) h := fun ρ H locs cells slots la h1 h2 h3 h4 => lv_imul C.1.1 C.1.2.1 d (k ρ H locs cells slots la h1 h2 h3 ⟨trivial, h4.2.2⟩)
theorem r_iand {x y : Int32} (C : Cx p R s m args meth c D cy MC MS DP cc nL own) (d : decode cc pc = .ok (.iand, 1))  (k : WP p l e R s m args below meth c D cy base ρ0 h0 cs ss nL Q (pc + 1) ls (.int (x &&& y) :: st) h) : WP p l e R s m args below meth c D cy base ρ0 h0 cs ss nL Q pc ls (.int y :: .int x :: st) h := fun ρ H locs cells slots la h1 h2 h3 h4 => lv_iand C.1.1 C.1.2.1 d (k ρ H locs cells slots la h1 h2 h3 ⟨trivial, h4.2.2⟩)
theorem r_ior {x y : Int32} (C : Cx p R s m args meth c D cy MC MS DP cc nL own) (d : decode cc pc = .ok (.ior, 1))  (k : WP p l e R s m args below meth c D cy base ρ0 h0 cs ss nL Q (pc + 1) ls (.int (x ||| y) :: st) h) : WP p l e R s m args below meth c D cy base ρ0 h0 cs ss nL Q pc ls (.int y :: .int x :: st) h := fun ρ H locs cells slots la h1 h2 h3 h4 => lv_ior C.1.1 C.1.2.1 d (k ρ H locs cells slots la h1 h2 h3 ⟨trivial, h4.2.2⟩)
theorem r_ixor {x y : Int32} (C : Cx p R s m args meth c D cy MC MS DP cc nL own) (d : decode cc pc = .ok (.ixor, 1))  (k : WP p l e R s m args below meth c D cy base ρ0 h0 cs ss nL Q (pc + 1) ls (.int (x ^^^ y) :: st) h) : WP p l e R s m args below meth c D cy base ρ0 h0 cs ss nL Q pc ls (.int y :: .int x :: st) h := fun ρ H locs cells slots la h1 h2 h3 h4 => lv_ixor C.1.1 C.1.2.1 d (k ρ H locs cells slots la h1 h2 h3 ⟨trivial, h4.2.2⟩)
theorem r_ishl {x y : Int32} (C : Cx p R s m args meth c D cy MC MS DP cc nL own) (d : decode cc pc = .ok (.ishl, 1))  (k : WP p l e R s m args below meth c D cy base ρ0 h0 cs ss nL Q (pc + 1) ls (.int (x <<< (y &&& 31)) :: st) h) : WP p l e R s m args below meth c D cy base ρ0 h0 cs ss nL Q pc ls (.int y :: .int x :: st) h := fun ρ H locs cells slots la h1 h2 h3 h4 => lv_ishl C.1.1 C.1.2.1 d (k ρ H locs cells slots la h1 h2 h3 ⟨trivial, h4.2.2⟩)
theorem r_ishr {x y : Int32} (C : Cx p R s m args meth c D cy MC MS DP cc nL own) (d : decode cc pc = .ok (.ishr, 1))  (k : WP p l e R s m args below meth c D cy base ρ0 h0 cs ss nL Q (pc + 1) ls (.int (x >>> (y &&& 31)) :: st) h) : WP p l e R s m args below meth c D cy base ρ0 h0 cs ss nL Q pc ls (.int y :: .int x :: st) h := fun ρ H locs cells slots la h1 h2 h3 h4 => lv_ishr C.1.1 C.1.2.1 d (k ρ H locs cells slots la h1 h2 h3 ⟨trivial, h4.2.2⟩)
theorem r_iushr {x y : Int32} (C : Cx p R s m args meth c D cy MC MS DP cc nL own) (d : decode cc pc = .ok (.iushr, 1))  (k : WP p l e R s m args below meth c D cy base ρ0 h0 cs ss nL Q (pc + 1) ls (.int ((x.toUInt32 >>> (y.toUInt32 &&& Int32.toUInt32 31)).toInt32) :: st) h) : WP p l e R s m args below meth c D cy base ρ0 h0 cs ss nL Q pc ls (.int y :: .int x :: st) h := fun ρ H locs cells slots la h1 h2 h3 h4 => lv_iushr C.1.1 C.1.2.1 d rfl (k ρ H locs cells slots la h1 h2 h3 ⟨trivial, h4.2.2⟩)
theorem r_idiv {x y : Int32} (C : Cx p R s m args meth c D cy MC MS DP cc nL own) (d : decode cc pc = .ok (.idiv, 1)) (hne : ¬ y = 0) (k : WP p l e R s m args below meth c D cy base ρ0 h0 cs ss nL Q (pc + 1) ls (.int (x / y) :: st) h) : WP p l e R s m args below meth c D cy base ρ0 h0 cs ss nL Q pc ls (.int y :: .int x :: st) h := fun ρ H locs cells slots la h1 h2 h3 h4 => lv_idiv C.1.1 C.1.2.1 d hne (k ρ H locs cells slots la h1 h2 h3 ⟨trivial, h4.2.2⟩)
theorem r_irem {x y : Int32} (C : Cx p R s m args meth c D cy MC MS DP cc nL own) (d : decode cc pc = .ok (.irem, 1)) (hne : ¬ y = 0) (k : WP p l e R s m args below meth c D cy base ρ0 h0 cs ss nL Q (pc + 1) ls (.int (x - x / y * y) :: st) h) : WP p l e R s m args below meth c D cy base ρ0 h0 cs ss nL Q pc ls (.int y :: .int x :: st) h := fun ρ H locs cells slots la h1 h2 h3 h4 => lv_irem C.1.1 C.1.2.1 d hne (k ρ H locs cells slots la h1 h2 h3 ⟨trivial, h4.2.2⟩)
theorem r_ineg {x : Int32} (C : Cx p R s m args meth c D cy MC MS DP cc nL own) (d : decode cc pc = .ok (.ineg, 1))  (k : WP p l e R s m args below meth c D cy base ρ0 h0 cs ss nL Q (pc + 1) ls (.int (-x) :: st) h) : WP p l e R s m args below meth c D cy base ρ0 h0 cs ss nL Q pc ls (.int x :: st) h := fun ρ H locs cells slots la h1 h2 h3 h4 => lv_ineg C.1.1 C.1.2.1 d (k ρ H locs cells slots la h1 h2 h3 ⟨trivial, h4.2⟩)
theorem r_ladd {x y : Int64} (C : Cx p R s m args meth c D cy MC MS DP cc nL own) (d : decode cc pc = .ok (.ladd, 1))  (k : WP p l e R s m args below meth c D cy base ρ0 h0 cs ss nL Q (pc + 1) ls (.long (x + y) :: st) h) : WP p l e R s m args below meth c D cy base ρ0 h0 cs ss nL Q pc ls (.long y :: .long x :: st) h := fun ρ H locs cells slots la h1 h2 h3 h4 => lv_ladd C.1.1 C.1.2.1 d (k ρ H locs cells slots la h1 h2 h3 ⟨trivial, h4.2.2⟩)
theorem r_lsub {x y : Int64} (C : Cx p R s m args meth c D cy MC MS DP cc nL own) (d : decode cc pc = .ok (.lsub, 1))  (k : WP p l e R s m args below meth c D cy base ρ0 h0 cs ss nL Q (pc + 1) ls (.long (x - y) :: st) h) : WP p l e R s m args below meth c D cy base ρ0 h0 cs ss nL Q pc ls (.long y :: .long x :: st) h := fun ρ H locs cells slots la h1 h2 h3 h4 => lv_lsub C.1.1 C.1.2.1 d (k ρ H locs cells slots la h1 h2 h3 ⟨trivial, h4.2.2⟩)
theorem r_land {x y : Int64} (C : Cx p R s m args meth c D cy MC MS DP cc nL own) (d : decode cc pc = .ok (.land, 1))  (k : WP p l e R s m args below meth c D cy base ρ0 h0 cs ss nL Q (pc + 1) ls (.long (x &&& y) :: st) h) : WP p l e R s m args below meth c D cy base ρ0 h0 cs ss nL Q pc ls (.long y :: .long x :: st) h := fun ρ H locs cells slots la h1 h2 h3 h4 => lv_land C.1.1 C.1.2.1 d (k ρ H locs cells slots la h1 h2 h3 ⟨trivial, h4.2.2⟩)
theorem r_lor {x y : Int64} (C : Cx p R s m args meth c D cy MC MS DP cc nL own) (d : decode cc pc = .ok (.lor, 1))  (k : WP p l e R s m args below meth c D cy base ρ0 h0 cs ss nL Q (pc + 1) ls (.long (x ||| y) :: st) h) : WP p l e R s m args below meth c D cy base ρ0 h0 cs ss nL Q pc ls (.long y :: .long x :: st) h := fun ρ H locs cells slots la h1 h2 h3 h4 => lv_lor C.1.1 C.1.2.1 d (k ρ H locs cells slots la h1 h2 h3 ⟨trivial, h4.2.2⟩)
theorem r_lxor {x y : Int64} (C : Cx p R s m args meth c D cy MC MS DP cc nL own) (d : decode cc pc = .ok (.lxor, 1))  (k : WP p l e R s m args below meth c D cy base ρ0 h0 cs ss nL Q (pc + 1) ls (.long (x ^^^ y) :: st) h) : WP p l e R s m args below meth c D cy base ρ0 h0 cs ss nL Q pc ls (.long y :: .long x :: st) h := fun ρ H locs cells slots la h1 h2 h3 h4 => lv_lxor C.1.1 C.1.2.1 d (k ρ H locs cells slots la h1 h2 h3 ⟨trivial, h4.2.2⟩)
theorem r_lneg {x : Int64} (C : Cx p R s m args meth c D cy MC MS DP cc nL own) (d : decode cc pc = .ok (.lneg, 1))  (k : WP p l e R s m args below meth c D cy base ρ0 h0 cs ss nL Q (pc + 1) ls (.long (-x) :: st) h) : WP p l e R s m args below meth c D cy base ρ0 h0 cs ss nL Q pc ls (.long x :: st) h := fun ρ H locs cells slots la h1 h2 h3 h4 => lv_lneg C.1.1 C.1.2.1 d (k ρ H locs cells slots la h1 h2 h3 ⟨trivial, h4.2⟩)
theorem r_lushr {x : Int64} {y : Int32} (C : Cx p R s m args meth c D cy MC MS DP cc nL own) (d : decode cc pc = .ok (.lushr, 1))  (k : WP p l e R s m args below meth c D cy base ρ0 h0 cs ss nL Q (pc + 1) ls (.long ((x.toUInt64 >>> (y.toInt64.toUInt64 &&& Int64.toUInt64 63)).toInt64) :: st) h) : WP p l e R s m args below meth c D cy base ρ0 h0 cs ss nL Q pc ls (.int y :: .long x :: st) h := fun ρ H locs cells slots la h1 h2 h3 h4 => lv_lushr C.1.1 C.1.2.1 d rfl (k ρ H locs cells slots la h1 h2 h3 ⟨trivial, h4.2.2⟩)
theorem r_lshl {x : Int64} {y : Int32} (C : Cx p R s m args meth c D cy MC MS DP cc nL own) (d : decode cc pc = .ok (.lshl, 1))  (k : WP p l e R s m args below meth c D cy base ρ0 h0 cs ss nL Q (pc + 1) ls (.long (x <<< (y.toInt64 &&& 63)) :: st) h) : WP p l e R s m args below meth c D cy base ρ0 h0 cs ss nL Q pc ls (.int y :: .long x :: st) h := fun ρ H locs cells slots la h1 h2 h3 h4 => lv_lshl C.1.1 C.1.2.1 d rfl (k ρ H locs cells slots la h1 h2 h3 ⟨trivial, h4.2.2⟩)
theorem r_lshr {x : Int64} {y : Int32} (C : Cx p R s m args meth c D cy MC MS DP cc nL own) (d : decode cc pc = .ok (.lshr, 1))  (k : WP p l e R s m args below meth c D cy base ρ0 h0 cs ss nL Q (pc + 1) ls (.long (x >>> (y.toInt64 &&& 63)) :: st) h) : WP p l e R s m args below meth c D cy base ρ0 h0 cs ss nL Q pc ls (.int y :: .long x :: st) h := fun ρ H locs cells slots la h1 h2 h3 h4 => lv_lshr C.1.1 C.1.2.1 d rfl (k ρ H locs cells slots la h1 h2 h3 ⟨trivial, h4.2.2⟩)
theorem r_i2l {x : Int32} (C : Cx p R s m args meth c D cy MC MS DP cc nL own) (d : decode cc pc = .ok (.i2l, 1))  (k : WP p l e R s m args below meth c D cy base ρ0 h0 cs ss nL Q (pc + 1) ls (.long x.toInt64 :: st) h) : WP p l e R s m args below meth c D cy base ρ0 h0 cs ss nL Q pc ls (.int x :: st) h := fun ρ H locs cells slots la h1 h2 h3 h4 => lv_i2l C.1.1 C.1.2.1 d rfl (k ρ H locs cells slots la h1 h2 h3 ⟨trivial, h4.2⟩)
theorem r_l2i {x : Int64} (C : Cx p R s m args meth c D cy MC MS DP cc nL own) (d : decode cc pc = .ok (.l2i, 1))  (k : WP p l e R s m args below meth c D cy base ρ0 h0 cs ss nL Q (pc + 1) ls (.int x.toInt32 :: st) h) : WP p l e R s m args below meth c D cy base ρ0 h0 cs ss nL Q pc ls (.long x :: st) h := fun ρ H locs cells slots la h1 h2 h3 h4 => lv_l2i C.1.1 C.1.2.1 d rfl (k ρ H locs cells slots la h1 h2 h3 ⟨trivial, h4.2⟩)
theorem r_dup {v : Value} (C : Cx p R s m args meth c D cy MC MS DP cc nL own) (d : decode cc pc = .ok (.dup, 1)) (hc : v.category = 1) (k : WP p l e R s m args below meth c D cy base ρ0 h0 cs ss nL Q (pc + 1) ls (v :: v :: st) h) : WP p l e R s m args below meth c D cy base ρ0 h0 cs ss nL Q pc ls (v :: st) h := fun ρ H locs cells slots la h1 h2 h3 h4 => lv_dup C.1.1 C.1.2.1 d (by rw [rv_cat]; exact hc) (k ρ H locs cells slots la h1 h2 h3 ⟨h4.1, h4⟩)
theorem r_dup_x1 {v w : Value} (C : Cx p R s m args meth c D cy MC MS DP cc nL own) (d : decode cc pc = .ok (.dup_x1, 1)) (hc : v.category = 1) (hc2 : w.category = 1) (k : WP p l e R s m args below meth c D cy base ρ0 h0 cs ss nL Q (pc + 1) ls (v :: w :: v :: st) h) : WP p l e R s m args below meth c D cy base ρ0 h0 cs ss nL Q pc ls (v :: w :: st) h := fun ρ H locs cells slots la h1 h2 h3 h4 => lv_dup_x1 C.1.1 C.1.2.1 d (by rw [rv_cat]; exact hc) (by rw [rv_cat]; exact hc2) (k ρ H locs cells slots la h1 h2 h3 ⟨h4.1, h4.2.1, h4.1, h4.2.2⟩)
theorem r_dup2 {v w : Value} (C : Cx p R s m args meth c D cy MC MS DP cc nL own) (d : decode cc pc = .ok (.dup2, 1)) (hc : v.category = 1) (hc2 : w.category = 1) (k : WP p l e R s m args below meth c D cy base ρ0 h0 cs ss nL Q (pc + 1) ls (v :: w :: v :: w :: st) h) : WP p l e R s m args below meth c D cy base ρ0 h0 cs ss nL Q pc ls (v :: w :: st) h := fun ρ H locs cells slots la h1 h2 h3 h4 => lv_dup2_11 C.1.1 C.1.2.1 d (by rw [rv_cat]; exact hc) (by rw [rv_cat]; exact hc2) (k ρ H locs cells slots la h1 h2 h3 ⟨h4.1, h4.2.1, h4⟩)
theorem r_pop {v : Value} (C : Cx p R s m args meth c D cy MC MS DP cc nL own) (d : decode cc pc = .ok (.pop, 1)) (hc : v.category = 1) (k : WP p l e R s m args below meth c D cy base ρ0 h0 cs ss nL Q (pc + 1) ls st h) : WP p l e R s m args below meth c D cy base ρ0 h0 cs ss nL Q pc ls (v :: st) h := fun ρ H locs cells slots la h1 h2 h3 h4 => lv_pop C.1.1 C.1.2.1 d (by rw [rv_cat]; exact hc) (k ρ H locs cells slots la h1 h2 h3 h4.2)
theorem r_iload {i : Nat} {x : Int32} (C : Cx p R s m args meth c D cy MC MS DP cc nL own) (d : decode cc pc = .ok (.iload i, 2)) (q : Nat) (hq : ls[q]? = some (i, .int x)) (k : WP p l e R s m args below meth c D cy base ρ0 h0 cs ss nL Q (pc + 2) ls (.int x :: st) h) : WP p l e R s m args below meth c D cy base ρ0 h0 cs ss nL Q pc ls st h := fun ρ H locs cells slots la h1 h2 h3 h4 => lv_iload C.1.1 C.1.2.1 d (r_at h2 q hq) (k ρ H locs cells slots la h1 h2 h3 ⟨okL_at h3 hq, h4⟩)
theorem r_iload_n {kk : Fin 4} {i : Nat} {x : Int32} (C : Cx p R s m args meth c D cy MC MS DP cc nL own) (d : decode cc pc = .ok (.iload_n kk, 1)) (hi : (kk : Nat) = i) (q : Nat) (hq : ls[q]? = some (i, .int x)) (k : WP p l e R s m args below meth c D cy base ρ0 h0 cs ss nL Q (pc + 1) ls (.int x :: st) h) : WP p l e R s m args below meth c D cy base ρ0 h0 cs ss nL Q pc ls st h := fun ρ H locs cells slots la h1 h2 h3 h4 => lv_iload_n C.1.1 C.1.2.1 d hi (r_at h2 q hq) (k ρ H locs cells slots la h1 h2 h3 ⟨okL_at h3 hq, h4⟩)
theorem r_lload {i : Nat} {x : Int64} (C : Cx p R s m args meth c D cy MC MS DP cc nL own) (d : decode cc pc = .ok (.lload i, 2)) (q : Nat) (hq : ls[q]? = some (i, .long x)) (k : WP p l e R s m args below meth c D cy base ρ0 h0 cs ss nL Q (pc + 2) ls (.long x :: st) h) : WP p l e R s m args below meth c D cy base ρ0 h0 cs ss nL Q pc ls st h := fun ρ H locs cells slots la h1 h2 h3 h4 => lv_lload C.1.1 C.1.2.1 d (r_at h2 q hq) (k ρ H locs cells slots la h1 h2 h3 ⟨okL_at h3 hq, h4⟩)
theorem r_lload_n {kk : Fin 4} {i : Nat} {x : Int64} (C : Cx p R s m args meth c D cy MC MS DP cc nL own) (d : decode cc pc = .ok (.lload_n kk, 1)) (hi : (kk : Nat) = i) (q : Nat) (hq : ls[q]? = some (i, .long x)) (k : WP p l e R s m args below meth c D cy base ρ0 h0 cs ss nL Q (pc + 1) ls (.long x :: st) h) : WP p l e R s m args below meth c D cy base ρ0 h0 cs ss nL Q pc ls st h := fun ρ H locs cells slots la h1 h2 h3 h4 => lv_lload_n C.1.1 C.1.2.1 d hi (r_at h2 q hq) (k ρ H locs cells slots la h1 h2 h3 ⟨okL_at h3 hq, h4⟩)
theorem r_aload {i : Nat} {x : Nat} (C : Cx p R s m args meth c D cy MC MS DP cc nL own) (d : decode cc pc = .ok (.aload i, 2)) (q : Nat) (hq : ls[q]? = some (i, .ref x)) (k : WP p l e R s m args below meth c D cy base ρ0 h0 cs ss nL Q (pc + 2) ls (.ref x :: st) h) : WP p l e R s m args below meth c D cy base ρ0 h0 cs ss nL Q pc ls st h := fun ρ H locs cells slots la h1 h2 h3 h4 => lv_aload C.1.1 C.1.2.1 d (r_at h2 q hq) (k ρ H locs cells slots la h1 h2 h3 ⟨okL_at h3 hq, h4⟩)
theorem r_aload_n {kk : Fin 4} {i : Nat} {x : Nat} (C : Cx p R s m args meth c D cy MC MS DP cc nL own) (d : decode cc pc = .ok (.aload_n kk, 1)) (hi : (kk : Nat) = i) (q : Nat) (hq : ls[q]? = some (i, .ref x)) (k : WP p l e R s m args below meth c D cy base ρ0 h0 cs ss nL Q (pc + 1) ls (.ref x :: st) h) : WP p l e R s m args below meth c D cy base ρ0 h0 cs ss nL Q pc ls st h := fun ρ H locs cells slots la h1 h2 h3 h4 => lv_aload_n C.1.1 C.1.2.1 d hi (r_at h2 q hq) (k ρ H locs cells slots la h1 h2 h3 ⟨okL_at h3 hq, h4⟩)
end PR
end
section
section PR2
variable {p : Program} {l : Launch} {e : Env} {R : Room} {s : State} {m : MethodId} {args : Array Value} {below : List Frame} {meth : Method} {c : Code}
variable {D : va_G} {cy : Nat → ClassId} {base : Nat} {ρ0 : Nat → Nat} {h0 : PM} {cs ss MC MS DP nL : Nat} {Q : State → Prop}
variable {cc : ByteArray} {own : String} {pc : Nat} {ls ls' : List (Nat × Value)} {st : List Value} {h : PM} {β : Type} {X : β}
def st1 (ls : List (Nat × Value)) (i : Nat) (v : Value) : List (Nat × Value) := (i, v) :: ls.filter (fun q => !(q.1 == i) && !(q.1 + 1 == i && q.2.category == 2))
def st2 (ls : List (Nat × Value)) (i : Nat) (v : Value) : List (Nat × Value) := (i, v) :: ls.filter (fun q => !(q.1 == i) && (!(q.1 == i + 1) && !(q.1 + 1 == i && q.2.category == 2)))
theorem mp_st1 (ρ : Nat → Nat) (ls : List (Nat × Value)) (i : Nat) (v : Value) : (i, rv ρ v) :: (mp ρ ls).filter (fun q => !(q.1 == i) && !(q.1 + 1 == i && q.2.category == 2)) = mp ρ (st1 ls i v) := by
  simp only [mp, st1, List.map_cons, List.filter_map]
  congr 2
  apply List.filter_congr
  intro q _
  simp [rv_cat]
theorem mp_st2 (ρ : Nat → Nat) (ls : List (Nat × Value)) (i : Nat) (v : Value) : (i, rv ρ v) :: (mp ρ ls).filter (fun q => !(q.1 == i) && (!(q.1 == i + 1) && !(q.1 + 1 == i && q.2.category == 2))) = mp ρ (st2 ls i v) := by
  simp only [mp, st2, List.map_cons, List.filter_map]
  congr 2
  apply List.filter_congr
  intro q _
  simp [rv_cat]
theorem okL_st1 (ho : okL h ls) {i : Nat} {v : Value} (hv : okv h v) : okL h (st1 ls i v) := ⟨hv, okL_of fun q hq => okL_mem ho (List.mem_filter.mp hq).1⟩
theorem okL_st2 (ho : okL h ls) {i : Nat} {v : Value} (hv : okv h v) : okL h (st2 ls i v) := ⟨hv, okL_of fun q hq => okL_mem ho (List.mem_filter.mp hq).1⟩
theorem r_istore {i : Nat} {x : Int32} (C : Cx p R s m args meth c D cy MC MS DP cc nL own) (d : decode cc pc = .ok (.istore i, 2)) (hn : i < nL) (hl : st1 ls i (.int x) = ls') (k : WP p l e R s m args below meth c D cy base ρ0 h0 cs ss nL Q (pc + 2) ls' st h) : WP p l e R s m args below meth c D cy base ρ0 h0 cs ss nL Q pc ls (.int x :: st) h := fun ρ H locs cells slots la h1 h2 h3 h4 => lv_istore (x := x) C.1.1 C.1.2.1 d h2 hn (mp_st1 ρ ls i (.int x)) (fun la2 hl2 => k ρ H locs cells slots la2 h1 (by rw [← hl]; exact hl2) (by rw [← hl]; exact okL_st1 h3 h4.1) h4.2)
theorem r_istore_n {kk : Fin 4} {i : Nat} {x : Int32} (C : Cx p R s m args meth c D cy MC MS DP cc nL own) (d : decode cc pc = .ok (.istore_n kk, 1)) (hi : (kk : Nat) = i) (hn : i < nL) (hl : st1 ls i (.int x) = ls') (k : WP p l e R s m args below meth c D cy base ρ0 h0 cs ss nL Q (pc + 1) ls' st h) : WP p l e R s m args below meth c D cy base ρ0 h0 cs ss nL Q pc ls (.int x :: st) h := fun ρ H locs cells slots la h1 h2 h3 h4 => lv_istore_n (x := x) C.1.1 C.1.2.1 d hi h2 hn (mp_st1 ρ ls i (.int x)) (fun la2 hl2 => k ρ H locs cells slots la2 h1 (by rw [← hl]; exact hl2) (by rw [← hl]; exact okL_st1 h3 h4.1) h4.2)
theorem r_astore {i : Nat} {x : Nat} (C : Cx p R s m args meth c D cy MC MS DP cc nL own) (d : decode cc pc = .ok (.astore i, 2)) (hn : i < nL) (hl : st1 ls i (.ref x) = ls') (k : WP p l e R s m args below meth c D cy base ρ0 h0 cs ss nL Q (pc + 2) ls' st h) : WP p l e R s m args below meth c D cy base ρ0 h0 cs ss nL Q pc ls (.ref x :: st) h := fun ρ H locs cells slots la h1 h2 h3 h4 => lv_astore (x := ρ x) C.1.1 C.1.2.1 d h2 hn (mp_st1 ρ ls i (.ref x)) (fun la2 hl2 => k ρ H locs cells slots la2 h1 (by rw [← hl]; exact hl2) (by rw [← hl]; exact okL_st1 h3 h4.1) h4.2)
theorem r_astore_n {kk : Fin 4} {i : Nat} {x : Nat} (C : Cx p R s m args meth c D cy MC MS DP cc nL own) (d : decode cc pc = .ok (.astore_n kk, 1)) (hi : (kk : Nat) = i) (hn : i < nL) (hl : st1 ls i (.ref x) = ls') (k : WP p l e R s m args below meth c D cy base ρ0 h0 cs ss nL Q (pc + 1) ls' st h) : WP p l e R s m args below meth c D cy base ρ0 h0 cs ss nL Q pc ls (.ref x :: st) h := fun ρ H locs cells slots la h1 h2 h3 h4 => lv_astore_n (x := ρ x) C.1.1 C.1.2.1 d hi h2 hn (mp_st1 ρ ls i (.ref x)) (fun la2 hl2 => k ρ H locs cells slots la2 h1 (by rw [← hl]; exact hl2) (by rw [← hl]; exact okL_st1 h3 h4.1) h4.2)
theorem r_lstore {i : Nat} {x : Int64} (C : Cx p R s m args meth c D cy MC MS DP cc nL own) (d : decode cc pc = .ok (.lstore i, 2)) (hn : i + 1 < nL) (hl : st2 ls i (.long x) = ls') (k : WP p l e R s m args below meth c D cy base ρ0 h0 cs ss nL Q (pc + 2) ls' st h) : WP p l e R s m args below meth c D cy base ρ0 h0 cs ss nL Q pc ls (.long x :: st) h := fun ρ H locs cells slots la h1 h2 h3 h4 => lv_lstore (x := x) C.1.1 C.1.2.1 d h2 hn (mp_st2 ρ ls i (.long x)) (fun la2 hl2 => k ρ H locs cells slots la2 h1 (by rw [← hl]; exact hl2) (by rw [← hl]; exact okL_st2 h3 h4.1) h4.2)
theorem r_lstore_n {kk : Fin 4} {i : Nat} {x : Int64} (C : Cx p R s m args meth c D cy MC MS DP cc nL own) (d : decode cc pc = .ok (.lstore_n kk, 1)) (hi : (kk : Nat) = i) (hn : i + 1 < nL) (hl : st2 ls i (.long x) = ls') (k : WP p l e R s m args below meth c D cy base ρ0 h0 cs ss nL Q (pc + 1) ls' st h) : WP p l e R s m args below meth c D cy base ρ0 h0 cs ss nL Q pc ls (.long x :: st) h := fun ρ H locs cells slots la h1 h2 h3 h4 => lv_lstore_n (x := x) C.1.1 C.1.2.1 d hi h2 hn (mp_st2 ρ ls i (.long x)) (fun la2 hl2 => k ρ H locs cells slots la2 h1 (by rw [← hl]; exact hl2) (by rw [← hl]; exact okL_st2 h3 h4.1) h4.2)
theorem r_iinc {i : Nat} {n : Int} {x v : Int32} (C : Cx p R s m args meth c D cy MC MS DP cc nL own) (d : decode cc pc = .ok (.iinc i n, 3)) (q : Nat) (hq : ls[q]? = some (i, .int x)) (hv : x + Int32.ofInt n = v) (hn : i < nL) (hl : st1 ls i (.int v) = ls') (k : WP p l e R s m args below meth c D cy base ρ0 h0 cs ss nL Q (pc + 3) ls' st h) : WP p l e R s m args below meth c D cy base ρ0 h0 cs ss nL Q pc ls st h := fun ρ H locs cells slots la h1 h2 h3 h4 => lv_iinc (k := q) C.1.1 C.1.2.1 d h2 (by simp [mp, hq, rv]) hv hn (mp_st1 ρ ls i (.int v)) (fun la2 hl2 => k ρ H locs cells slots la2 h1 (by rw [← hl]; exact hl2) (by rw [← hl]; exact okL_st1 h3 trivial) h4)
theorem r_sub (ks : List Nat) (hk : lv_pick ls ks = ls') (k : WP p l e R s m args below meth c D cy base ρ0 h0 cs ss nL Q pc ls' st h) : WP p l e R s m args below meth c D cy base ρ0 h0 cs ss nL Q pc ls st h := fun ρ H locs cells slots la h1 h2 h3 h4 => k ρ H locs cells slots la h1 ⟨h2.1, h2.2.1, fun q hq => by
    obtain ⟨q0, hq0, rfl⟩ := List.mem_map.mp hq
    rw [← hk] at hq0
    obtain ⟨i, -, hi⟩ := List.mem_filterMap.mp hq0
    exact h2.2.2 _ (List.mem_map.mpr ⟨q0, List.mem_of_getElem? hi, rfl⟩)⟩ (okL_of fun q hq => by
    rw [← hk] at hq
    obtain ⟨i, -, hi⟩ := List.mem_filterMap.mp hq
    exact okL_mem h3 (List.mem_of_getElem? hi)) h4
theorem r_if_eq {x : Int32} {off : Int} {tgt : Nat} {f1 f2 : Option β} (C : Cx p R s m args meth c D cy MC MS DP cc nL own) (d : decode cc pc = .ok (.ifCond .eq off, 3)) (ht : (pc : Int) + off = (tgt : Int)) (hF : (if x = 0 then f1 else f2) = some X) (kt : f1 = some X → WP p l e R s m args below meth c D cy base ρ0 h0 cs ss nL Q tgt ls st h) (kf : f2 = some X → WP p l e R s m args below meth c D cy base ρ0 h0 cs ss nL Q (pc + 3) ls st h) : WP p l e R s m args below meth c D cy base ρ0 h0 cs ss nL Q pc ls (.int x :: st) h := fun ρ H locs cells slots la h1 h2 h3 h4 =>
  lv_if_eq C.1.1 C.1.2.1 d ht (fun q => kt (by rw [if_pos q] at hF; exact hF) ρ H locs cells slots la h1 h2 h3 h4.2) (fun q => kf (by rw [if_neg (by exact q)] at hF; exact hF) ρ H locs cells slots la h1 h2 h3 h4.2)
theorem r_if_ne {x : Int32} {off : Int} {tgt : Nat} {f1 f2 : Option β} (C : Cx p R s m args meth c D cy MC MS DP cc nL own) (d : decode cc pc = .ok (.ifCond .ne off, 3)) (ht : (pc : Int) + off = (tgt : Int)) (hF : (if ¬ x = 0 then f1 else f2) = some X) (kt : f1 = some X → WP p l e R s m args below meth c D cy base ρ0 h0 cs ss nL Q tgt ls st h) (kf : f2 = some X → WP p l e R s m args below meth c D cy base ρ0 h0 cs ss nL Q (pc + 3) ls st h) : WP p l e R s m args below meth c D cy base ρ0 h0 cs ss nL Q pc ls (.int x :: st) h := fun ρ H locs cells slots la h1 h2 h3 h4 =>
  lv_if_ne C.1.1 C.1.2.1 d ht (fun q => kt (by rw [if_pos q] at hF; exact hF) ρ H locs cells slots la h1 h2 h3 h4.2) (fun q => kf (by rw [if_neg (by exact fun z => z q)] at hF; exact hF) ρ H locs cells slots la h1 h2 h3 h4.2)
theorem r_if_lt {x : Int32} {off : Int} {tgt : Nat} {f1 f2 : Option β} (C : Cx p R s m args meth c D cy MC MS DP cc nL own) (d : decode cc pc = .ok (.ifCond .lt off, 3)) (ht : (pc : Int) + off = (tgt : Int)) (hF : (if x < 0 then f1 else f2) = some X) (kt : f1 = some X → WP p l e R s m args below meth c D cy base ρ0 h0 cs ss nL Q tgt ls st h) (kf : f2 = some X → WP p l e R s m args below meth c D cy base ρ0 h0 cs ss nL Q (pc + 3) ls st h) : WP p l e R s m args below meth c D cy base ρ0 h0 cs ss nL Q pc ls (.int x :: st) h := fun ρ H locs cells slots la h1 h2 h3 h4 =>
  lv_if_lt C.1.1 C.1.2.1 d ht (fun q => kt (by rw [if_pos q] at hF; exact hF) ρ H locs cells slots la h1 h2 h3 h4.2) (fun q => kf (by rw [if_neg (by exact q)] at hF; exact hF) ρ H locs cells slots la h1 h2 h3 h4.2)
theorem r_if_ge {x : Int32} {off : Int} {tgt : Nat} {f1 f2 : Option β} (C : Cx p R s m args meth c D cy MC MS DP cc nL own) (d : decode cc pc = .ok (.ifCond .ge off, 3)) (ht : (pc : Int) + off = (tgt : Int)) (hF : (if 0 ≤ x then f1 else f2) = some X) (kt : f1 = some X → WP p l e R s m args below meth c D cy base ρ0 h0 cs ss nL Q tgt ls st h) (kf : f2 = some X → WP p l e R s m args below meth c D cy base ρ0 h0 cs ss nL Q (pc + 3) ls st h) : WP p l e R s m args below meth c D cy base ρ0 h0 cs ss nL Q pc ls (.int x :: st) h := fun ρ H locs cells slots la h1 h2 h3 h4 =>
  lv_if_ge C.1.1 C.1.2.1 d ht (fun q => kt (by rw [if_pos q] at hF; exact hF) ρ H locs cells slots la h1 h2 h3 h4.2) (fun q => kf (by rw [if_neg (by exact q)] at hF; exact hF) ρ H locs cells slots la h1 h2 h3 h4.2)
theorem r_if_gt {x : Int32} {off : Int} {tgt : Nat} {f1 f2 : Option β} (C : Cx p R s m args meth c D cy MC MS DP cc nL own) (d : decode cc pc = .ok (.ifCond .gt off, 3)) (ht : (pc : Int) + off = (tgt : Int)) (hF : (if 0 < x then f1 else f2) = some X) (kt : f1 = some X → WP p l e R s m args below meth c D cy base ρ0 h0 cs ss nL Q tgt ls st h) (kf : f2 = some X → WP p l e R s m args below meth c D cy base ρ0 h0 cs ss nL Q (pc + 3) ls st h) : WP p l e R s m args below meth c D cy base ρ0 h0 cs ss nL Q pc ls (.int x :: st) h := fun ρ H locs cells slots la h1 h2 h3 h4 =>
  lv_if_gt C.1.1 C.1.2.1 d ht (fun q => kt (by rw [if_pos q] at hF; exact hF) ρ H locs cells slots la h1 h2 h3 h4.2) (fun q => kf (by rw [if_neg (by exact q)] at hF; exact hF) ρ H locs cells slots la h1 h2 h3 h4.2)
theorem r_if_le {x : Int32} {off : Int} {tgt : Nat} {f1 f2 : Option β} (C : Cx p R s m args meth c D cy MC MS DP cc nL own) (d : decode cc pc = .ok (.ifCond .le off, 3)) (ht : (pc : Int) + off = (tgt : Int)) (hF : (if x ≤ 0 then f1 else f2) = some X) (kt : f1 = some X → WP p l e R s m args below meth c D cy base ρ0 h0 cs ss nL Q tgt ls st h) (kf : f2 = some X → WP p l e R s m args below meth c D cy base ρ0 h0 cs ss nL Q (pc + 3) ls st h) : WP p l e R s m args below meth c D cy base ρ0 h0 cs ss nL Q pc ls (.int x :: st) h := fun ρ H locs cells slots la h1 h2 h3 h4 =>
  lv_if_le C.1.1 C.1.2.1 d ht (fun q => kt (by rw [if_pos q] at hF; exact hF) ρ H locs cells slots la h1 h2 h3 h4.2) (fun q => kf (by rw [if_neg (by exact q)] at hF; exact hF) ρ H locs cells slots la h1 h2 h3 h4.2)
theorem r_icmp_eq {x y : Int32} {off : Int} {tgt : Nat} {f1 f2 : Option β} (C : Cx p R s m args meth c D cy MC MS DP cc nL own) (d : decode cc pc = .ok (.if_icmp .eq off, 3)) (ht : (pc : Int) + off = (tgt : Int)) (hF : (if x = y then f1 else f2) = some X) (kt : f1 = some X → WP p l e R s m args below meth c D cy base ρ0 h0 cs ss nL Q tgt ls st h) (kf : f2 = some X → WP p l e R s m args below meth c D cy base ρ0 h0 cs ss nL Q (pc + 3) ls st h) : WP p l e R s m args below meth c D cy base ρ0 h0 cs ss nL Q pc ls (.int y :: .int x :: st) h := fun ρ H locs cells slots la h1 h2 h3 h4 =>
  lv_icmp_eq C.1.1 C.1.2.1 d ht (fun q => kt (by rw [if_pos q] at hF; exact hF) ρ H locs cells slots la h1 h2 h3 h4.2.2) (fun q => kf (by rw [if_neg (by exact q)] at hF; exact hF) ρ H locs cells slots la h1 h2 h3 h4.2.2)
theorem r_icmp_ne {x y : Int32} {off : Int} {tgt : Nat} {f1 f2 : Option β} (C : Cx p R s m args meth c D cy MC MS DP cc nL own) (d : decode cc pc = .ok (.if_icmp .ne off, 3)) (ht : (pc : Int) + off = (tgt : Int)) (hF : (if ¬ x = y then f1 else f2) = some X) (kt : f1 = some X → WP p l e R s m args below meth c D cy base ρ0 h0 cs ss nL Q tgt ls st h) (kf : f2 = some X → WP p l e R s m args below meth c D cy base ρ0 h0 cs ss nL Q (pc + 3) ls st h) : WP p l e R s m args below meth c D cy base ρ0 h0 cs ss nL Q pc ls (.int y :: .int x :: st) h := fun ρ H locs cells slots la h1 h2 h3 h4 =>
  lv_icmp_ne C.1.1 C.1.2.1 d ht (fun q => kt (by rw [if_pos q] at hF; exact hF) ρ H locs cells slots la h1 h2 h3 h4.2.2) (fun q => kf (by rw [if_neg (by exact fun z => z q)] at hF; exact hF) ρ H locs cells slots la h1 h2 h3 h4.2.2)
theorem r_icmp_lt {x y : Int32} {off : Int} {tgt : Nat} {f1 f2 : Option β} (C : Cx p R s m args meth c D cy MC MS DP cc nL own) (d : decode cc pc = .ok (.if_icmp .lt off, 3)) (ht : (pc : Int) + off = (tgt : Int)) (hF : (if x < y then f1 else f2) = some X) (kt : f1 = some X → WP p l e R s m args below meth c D cy base ρ0 h0 cs ss nL Q tgt ls st h) (kf : f2 = some X → WP p l e R s m args below meth c D cy base ρ0 h0 cs ss nL Q (pc + 3) ls st h) : WP p l e R s m args below meth c D cy base ρ0 h0 cs ss nL Q pc ls (.int y :: .int x :: st) h := fun ρ H locs cells slots la h1 h2 h3 h4 =>
  lv_icmp_lt C.1.1 C.1.2.1 d ht (fun q => kt (by rw [if_pos q] at hF; exact hF) ρ H locs cells slots la h1 h2 h3 h4.2.2) (fun q => kf (by rw [if_neg (by exact q)] at hF; exact hF) ρ H locs cells slots la h1 h2 h3 h4.2.2)
theorem r_icmp_ge {x y : Int32} {off : Int} {tgt : Nat} {f1 f2 : Option β} (C : Cx p R s m args meth c D cy MC MS DP cc nL own) (d : decode cc pc = .ok (.if_icmp .ge off, 3)) (ht : (pc : Int) + off = (tgt : Int)) (hF : (if y ≤ x then f1 else f2) = some X) (kt : f1 = some X → WP p l e R s m args below meth c D cy base ρ0 h0 cs ss nL Q tgt ls st h) (kf : f2 = some X → WP p l e R s m args below meth c D cy base ρ0 h0 cs ss nL Q (pc + 3) ls st h) : WP p l e R s m args below meth c D cy base ρ0 h0 cs ss nL Q pc ls (.int y :: .int x :: st) h := fun ρ H locs cells slots la h1 h2 h3 h4 =>
  lv_icmp_ge C.1.1 C.1.2.1 d ht (fun q => kt (by rw [if_pos q] at hF; exact hF) ρ H locs cells slots la h1 h2 h3 h4.2.2) (fun q => kf (by rw [if_neg (by exact q)] at hF; exact hF) ρ H locs cells slots la h1 h2 h3 h4.2.2)
theorem r_icmp_gt {x y : Int32} {off : Int} {tgt : Nat} {f1 f2 : Option β} (C : Cx p R s m args meth c D cy MC MS DP cc nL own) (d : decode cc pc = .ok (.if_icmp .gt off, 3)) (ht : (pc : Int) + off = (tgt : Int)) (hF : (if y < x then f1 else f2) = some X) (kt : f1 = some X → WP p l e R s m args below meth c D cy base ρ0 h0 cs ss nL Q tgt ls st h) (kf : f2 = some X → WP p l e R s m args below meth c D cy base ρ0 h0 cs ss nL Q (pc + 3) ls st h) : WP p l e R s m args below meth c D cy base ρ0 h0 cs ss nL Q pc ls (.int y :: .int x :: st) h := fun ρ H locs cells slots la h1 h2 h3 h4 =>
  lv_icmp_gt C.1.1 C.1.2.1 d ht (fun q => kt (by rw [if_pos q] at hF; exact hF) ρ H locs cells slots la h1 h2 h3 h4.2.2) (fun q => kf (by rw [if_neg (by exact q)] at hF; exact hF) ρ H locs cells slots la h1 h2 h3 h4.2.2)
theorem r_icmp_le {x y : Int32} {off : Int} {tgt : Nat} {f1 f2 : Option β} (C : Cx p R s m args meth c D cy MC MS DP cc nL own) (d : decode cc pc = .ok (.if_icmp .le off, 3)) (ht : (pc : Int) + off = (tgt : Int)) (hF : (if x ≤ y then f1 else f2) = some X) (kt : f1 = some X → WP p l e R s m args below meth c D cy base ρ0 h0 cs ss nL Q tgt ls st h) (kf : f2 = some X → WP p l e R s m args below meth c D cy base ρ0 h0 cs ss nL Q (pc + 3) ls st h) : WP p l e R s m args below meth c D cy base ρ0 h0 cs ss nL Q pc ls (.int y :: .int x :: st) h := fun ρ H locs cells slots la h1 h2 h3 h4 =>
  lv_icmp_le C.1.1 C.1.2.1 d ht (fun q => kt (by rw [if_pos q] at hF; exact hF) ρ H locs cells slots la h1 h2 h3 h4.2.2) (fun q => kf (by rw [if_neg (by exact q)] at hF; exact hF) ρ H locs cells slots la h1 h2 h3 h4.2.2)
theorem r_goto {off : Int} {tgt : Nat} (C : Cx p R s m args meth c D cy MC MS DP cc nL own) (d : decode cc pc = .ok (.goto off, 3)) (ht : (pc : Int) + off = (tgt : Int)) (k : WP p l e R s m args below meth c D cy base ρ0 h0 cs ss nL Q tgt ls st h) : WP p l e R s m args below meth c D cy base ρ0 h0 cs ss nL Q pc ls st h := fun ρ H locs cells slots la h1 h2 h3 h4 => lv_goto C.1.1 C.1.2.1 d ht (k ρ H locs cells slots la h1 h2 h3 h4)
theorem r_lcmp {x y : Int64} (C : Cx p R s m args meth c D cy MC MS DP cc nL own) (d : decode cc pc = .ok (.lcmp, 1)) (k : WP p l e R s m args below meth c D cy base ρ0 h0 cs ss nL Q (pc + 1) ls (.int (lg_cmp x y) :: st) h) : WP p l e R s m args below meth c D cy base ρ0 h0 cs ss nL Q pc ls (.long y :: .long x :: st) h := fun ρ H locs cells slots la h1 h2 h3 h4 => W.lcmp C.1.1 C.1.2.1 d (k ρ H locs cells slots la h1 h2 h3 ⟨trivial, h4.2.2⟩)
theorem r_ldc {ix : Nat} {v : Int32} (C : Cx p R s m args meth c D cy MC MS DP cc nL own) (d : decode cc pc = .ok (.ldc ix, 2)) (hw : Cond.constant own ix v ∈ gw) (k : WP p l e R s m args below meth c D cy base ρ0 h0 cs ss nL Q (pc + 2) ls (.int v :: st) h) : WP p l e R s m args below meth c D cy base ρ0 h0 cs ss nL Q pc ls st h := fun ρ H locs cells slots la h1 h2 h3 h4 => W.ldc C.1.1 C.1.2.1 C.1.2.2.2.1 (C.1.2.2.2.2 _ hw) rfl d (k ρ H locs cells slots la h1 h2 h3 ⟨trivial, h4⟩)
theorem r_ldc2 {ix : Nat} {v : Int64} (C : Cx p R s m args meth c D cy MC MS DP cc nL own) (d : decode cc pc = .ok (.ldc2_w ix, 3)) (hw : Cond.constantLong own ix v ∈ gw) (k : WP p l e R s m args below meth c D cy base ρ0 h0 cs ss nL Q (pc + 3) ls (.long v :: st) h) : WP p l e R s m args below meth c D cy base ρ0 h0 cs ss nL Q pc ls st h := fun ρ H locs cells slots la h1 h2 h3 h4 => W.ldc2 C.1.1 C.1.2.1 C.1.2.2.2.1 (C.1.2.2.2.2 _ hw) rfl d (k ρ H locs cells slots la h1 h2 h3 ⟨trivial, h4⟩)
theorem r_tableIn {dflt lo hi off : Int} {offs : Array Int} {len tgt : Nat} {x : Int32} (C : Cx p R s m args meth c D cy MC MS DP cc nL own) (d : decode cc pc = .ok (.tableswitch dflt lo hi offs, len)) (q1 : ¬ x.toInt < lo) (q2 : ¬ hi < x.toInt) (ho : offs[(x.toInt - lo).toNat]? = some off) (ht : (pc : Int) + off = (tgt : Int)) (k : WP p l e R s m args below meth c D cy base ρ0 h0 cs ss nL Q tgt ls st h) : WP p l e R s m args below meth c D cy base ρ0 h0 cs ss nL Q pc ls (.int x :: st) h := fun ρ H locs cells slots la h1 h2 h3 h4 => lv_tableIn C.1.1 C.1.2.1 d q1 q2 ho ht (k ρ H locs cells slots la h1 h2 h3 h4.2)
theorem r_tableOut {dflt lo hi : Int} {offs : Array Int} {len tgt : Nat} {x : Int32} (C : Cx p R s m args meth c D cy MC MS DP cc nL own) (d : decode cc pc = .ok (.tableswitch dflt lo hi offs, len)) (q : x.toInt < lo ∨ hi < x.toInt) (ht : (pc : Int) + dflt = (tgt : Int)) (k : WP p l e R s m args below meth c D cy base ρ0 h0 cs ss nL Q tgt ls st h) : WP p l e R s m args below meth c D cy base ρ0 h0 cs ss nL Q pc ls (.int x :: st) h := fun ρ H locs cells slots la h1 h2 h3 h4 => lv_tableOut C.1.1 C.1.2.1 d q ht (k ρ H locs cells slots la h1 h2 h3 h4.2)
theorem r_lookup {dflt off : Int} {ps : Array (Int × Int)} {len tgt : Nat} {x : Int32} (C : Cx p R s m args meth c D cy MC MS DP cc nL own) (d : decode cc pc = .ok (.lookupswitch dflt ps, len)) (hp : (ps.toList.zip (ps.toList.drop 1)).all (fun (a, next) => a.1 < next.1) = true) (ho : Op.lookupswitch.offset ps.toList dflt x.toInt = off) (ht : (pc : Int) + off = (tgt : Int)) (k : WP p l e R s m args below meth c D cy base ρ0 h0 cs ss nL Q tgt ls st h) : WP p l e R s m args below meth c D cy base ρ0 h0 cs ss nL Q pc ls (.int x :: st) h := fun ρ H locs cells slots la h1 h2 h3 h4 => lv_lookup C.1.1 C.1.2.1 d hp ho ht (k ρ H locs cells slots la h1 h2 h3 h4.2)
end PR2
end
section
/-! ===== the memory is changed at one name; a name comes ===== -/
theorem en_congr {cy : Nat → ClassId} {ρ : Nat → Nat} {h h' : PM} {a : Nat} (hT : mT h' a = mT h a) (hN : mN h' a = mN h a) (hI : mI h' a = mI h a) (hJ : mJ h' a = mJ h a) (hR : mR h' a = mR h a) : en cy ρ h' a = en cy ρ h a := by
  have e2 : ∀ c, fv ρ h' c a = fv ρ h c a := fun c => funext fun k => by simp only [fv, hI, hR]
  simp only [en, co, e2, hT, hN, hI, hJ, hR]
theorem Rep.set {D : va_G} {cy : Nat → ClassId} {base : Nat} {ρ : Nat → Nat} {h h' : PM} {U : State} {H H1 : Heap} {a : Nat} (hr : Rep D cy base ρ h U H) (ha : own1 (mT h a)) (hT : mT h' = mT h) (hN : mN h' = mN h)
    (hI : ∀ b, b ≠ a → mI h' b = mI h b) (hJ : ∀ b, b ≠ a → mJ h' b = mJ h b) (hR : ∀ b, b ≠ a → mR h' b = mR h b) (hat : va_at D vwCl (ρ a, en cy ρ h' a) H1) (oq : ∀ q : Nat, q ≠ ρ a → H1[q]? = H[q]?)
    (hv : ∀ k, mR h' a k = 0 ∨ mT h (mR h' a k) ≠ 0) : Rep D cy base ρ h' U H1 := by
  obtain ⟨r1, r2, r3, r4, r5⟩ := hr
  have hlt := (r1 a ha).1
  refine ⟨fun b hb => ?_, fun b hb => ?_, fun b hb => ?_, ?_, fun b k hb => ?_⟩
  · rw [hT] at hb
    by_cases e : b = a
    · subst e; exact ⟨hlt, hat⟩
    · refine ⟨(r1 b hb).1, ?_⟩
      rw [en_congr (by rw [hT]) (by rw [hN]) (hI b e) (hJ b e) (hR b e)]
      exact (r1 b hb).2.kept (oq _ (fun z => e (r4 b a hb.1 ha.1 z)))
  · rw [hT] at hb
    have e : b ≠ a := fun z => by subst z; exact ha.2.1 hb
    rw [hN, hI b e]
    exact ⟨(r2 b hb).1, (r2 b hb).2.kept (oq _ (fun z => e (r4 b a (by omega) ha.1 z)))⟩
  · rw [hT] at hb
    have e : b ≠ a := fun z => by subst z; exact ha.2.2 hb
    rw [hN]
    obtain ⟨scr, q1, q2⟩ := (r3 b hb).2
    exact ⟨(r3 b hb).1, scr, by rw [oq _ (fun z => e (r4 b a (by omega) ha.1 z))]; exact q1, q2⟩
  · rw [hT]; exact r4
  · rw [hT] at hb ⊢
    by_cases e : b = a
    · subst e; exact hv k
    · rw [hR b e]; exact r5 b k hb
theorem rn_up {ρ : Nat → Nat} {n q r : Nat} (h : r = 0 ∨ r ≠ n) : rn (va_up ρ n q) r = rn ρ r := by
  unfold rn va_up
  rcases h with h | h
  · simp [h]
  · simp [h]
theorem en_up {cy : Nat → ClassId} {ρ : Nat → Nat} {h : PM} {a n q : Nat} (hr : ∀ k, mR h a k = 0 ∨ mR h a k ≠ n) : en cy (va_up ρ n q) h a = en cy ρ h a := by
  have e : (fun j => rn (va_up ρ n q) (mR h a j)) = fun j => rn ρ (mR h a j) := funext fun j => rn_up (hr j)
  have e2 : ∀ c, fv (va_up ρ n q) h c a = fv ρ h c a := fun c => funext fun k => by simp only [fv, rn_up (hr k)]
  simp only [en, co, e, e2]
/-- a name n comes, at the cell q that is new -/
theorem Rep.new {D : va_G} {cy : Nat → ClassId} {base : Nat} {ρ : Nat → Nat} {h h' : PM} {U : State} {H H1 : Heap} {n : Nat} (hr : Rep D cy base ρ h U H) (hn : mT h n = 0) (hn0 : own1 (mT h' n)) (hT : ∀ b, b ≠ n → mT h' b = mT h b) (hN : ∀ b, b ≠ n → mN h' b = mN h b)
    (hI : ∀ b, b ≠ n → mI h' b = mI h b) (hJ : ∀ b, b ≠ n → mJ h' b = mJ h b) (hR : ∀ b, b ≠ n → mR h' b = mR h b) (hR0 : ∀ k, mR h' n k = 0) (hbs : base ≤ H.size) (oq : ∀ q : Nat, q < H.size → H1[q]? = H[q]?)
    (hat : va_at D vwCl (H.size, en cy (va_up ρ n H.size) h' n) H1) : Rep D cy base (va_up ρ n H.size) h' U H1 := by
  obtain ⟨r1, r2, r3, r4, r5⟩ := hr
  have up : ∀ b, b ≠ n → va_up ρ n H.size b = ρ b := fun b e => by simp [va_up, e]
  have us : va_up ρ n H.size n = H.size := by simp [va_up]
  have nn : ∀ b k, mT h b ≠ 0 → mR h b k = 0 ∨ mR h b k ≠ n := fun b k hb => (r5 b k hb).imp id (fun z e => z (by rw [e]; exact hn))
  have lt : ∀ b, mT h b ≠ 0 → ρ b < H.size := fun b hb => by
    by_cases e1 : mT h b = 23
    · obtain ⟨-, scr, q, -⟩ := r2 b e1; exact (Array.getElem?_eq_some_iff.mp q).1
    · by_cases e2 : mT h b = 27
      · obtain ⟨-, scr, q, -⟩ := r3 b e2; exact (Array.getElem?_eq_some_iff.mp q).1
      · exact (r1 b ⟨hb, e1, e2⟩).2.lt
  refine ⟨fun b hb => ?_, fun b hb => ?_, fun b hb => ?_, fun a b ha hb hab => ?_, fun b k hb => ?_⟩
  · by_cases e : b = n
    · subst e; rw [us]; exact ⟨hbs, hat⟩
    · rw [hT b e] at hb
      rw [up b e]
      refine ⟨(r1 b hb).1, ?_⟩
      rw [en_congr (hT b e) (hN b e) (hI b e) (hJ b e) (hR b e), en_up (fun k => nn b k hb.1)]
      exact (r1 b hb).2.kept (oq _ (lt b hb.1))
  · have e : b ≠ n := fun z => by subst z; exact hn0.2.1 hb
    rw [hT b e] at hb
    rw [up b e, hN b e, hI b e]
    exact ⟨(r2 b hb).1, (r2 b hb).2.kept (oq _ (lt b (by omega)))⟩
  · have e : b ≠ n := fun z => by subst z; exact hn0.2.2 hb
    rw [hT b e] at hb
    rw [up b e, hN b e]
    obtain ⟨scr, q1, q2⟩ := (r3 b hb).2
    exact ⟨(r3 b hb).1, scr, by rw [oq _ (lt b (by omega))]; exact q1, q2⟩
  · by_cases e1 : a = n
    · by_cases e2 : b = n
      · rw [e1, e2]
      · rw [hT b e2] at hb
        rw [e1, us, up b e2] at hab
        have := lt b hb; omega
    · rw [hT a e1] at ha
      by_cases e2 : b = n
      · rw [e2, us, up a e1] at hab
        have := lt a ha; omega
      · rw [hT b e2] at hb
        rw [up a e1, up b e2] at hab
        exact r4 a b ha hb hab
  · by_cases e : b = n
    · subst e; exact Or.inl (hR0 k)
    · rw [hT b e] at hb
      rw [hR b e]
      rcases r5 b k hb with z | z
      · exact Or.inl z
      · have : mR h b k ≠ n := fun y => z (by rw [y]; exact hn)
        exact Or.inr (by rw [hT _ this]; exact z)
theorem rv_up {h : PM} {ρ : Nat → Nat} {n q : Nat} (hn : mT h n = 0) {v : Value} (hv : okv h v) : rv (va_up ρ n q) v = rv ρ v := by
  cases v with
  | ref a =>
    have : a ≠ n := fun e => hv (by rw [e]; exact hn)
    simp [rv, va_up, this]
  | _ => rfl
theorem rvS_up {h : PM} {ρ : Nat → Nat} {n q : Nat} (hn : mT h n = 0) {st : List Value} (hv : okS h st) : st.map (rv (va_up ρ n q)) = st.map (rv ρ) := by
  induction st with
  | nil => rfl
  | cons v t ih => rw [List.map_cons, List.map_cons, rv_up hn hv.1, ih hv.2]
theorem mp_up {h : PM} {ρ : Nat → Nat} {n q : Nat} (hn : mT h n = 0) {ls : List (Nat × Value)} (hv : okL h ls) : mp (va_up ρ n q) ls = mp ρ ls := by
  induction ls with
  | nil => rfl
  | cons v t ih =>
    have := ih hv.2
    simp only [mp, List.map_cons] at this ⊢
    rw [rv_up hn hv.1, this]
theorem okv_mono {h h' : PM} (hm : ∀ a, mT h a ≠ 0 → mT h' a ≠ 0) {v : Value} (hv : okv h v) : okv h' v := by
  cases v with
  | ref a => exact hm a hv
  | _ => trivial
theorem okS_mono {h h' : PM} (hm : ∀ a, mT h a ≠ 0 → mT h' a ≠ 0) {st : List Value} (hv : okS h st) : okS h' st := by
  induction st with
  | nil => trivial
  | cons v t ih => exact ⟨okv_mono hm hv.1, ih hv.2⟩
theorem okL_mono {h h' : PM} (hm : ∀ a, mT h a ≠ 0 → mT h' a ≠ 0) {ls : List (Nat × Value)} (hv : okL h ls) : okL h' ls := by
  induction ls with
  | nil => trivial
  | cons v t ih => exact ⟨okv_mono hm hv.1, ih hv.2⟩
/-! ===== the classes ===== -/
def rty (t : FieldType) : Bool := match t with
  | .object _ => true
  | .array _ => true
  | _ => false
theorem rty_ok {t : FieldType} (h : rty t = true) (a : Nat) : narrow t (.ref a) = .ref a ∧ fits t (.ref a) = true ∧ defaultValue t = .null := by
  cases t <;> first | exact ⟨rfl, rfl, rfl⟩ | cases h
def Cls (ci : Nat) (Cn : String) (T : u_T) (N : Nat) : Prop :=
  vwCl[ci]? = some (Cn, T, N) ∧ (∀ w ∈ u_ws Cn T N, w ∈ gw) ∧ (∃ ty : Nat → FieldType, (∀ k, k < N → parseFieldDescriptor (T k).2.2.1 = some (ty k)) ∧ ∀ k, k < N → (fk ci k = 0 → ty k = .int) ∧ (fk ci k = 1 → ty k = .boolean) ∧ (fk ci k = 2 → rty (ty k) = true)) ∧ (∀ a, a < N → ∀ b, b < N → a ≠ b → (T a).2.1 ≠ (T b).2.1) ∧ nF ci = N ∧ ci < 14 ∧ (∀ k, fk ci k ≤ 2)
theorem cls_0 : Cls 0 RJx4a65c TJx4a65c 3 := ⟨rfl, g_inJx4a65c, ⟨tyJx4a65c, tyJx4a65c_ok, fun k hk => by revert k; decide +kernel⟩, nmJx4a65c, by decide +kernel, by decide, fun k => by
  by_cases hk : k < 3
  · revert k; decide +kernel
  · have : fk 0 k = 0 := by
      unfold fk fkL
      simp [List.getD]
      rw [List.getElem?_eq_none (by simp; omega)]
      rfl
    omega⟩
theorem cls_1 : Cls 1 RX0 TX0 8 := ⟨rfl, g_inX0, ⟨tyX0, tyX0_ok, fun k hk => by revert k; decide +kernel⟩, nmX0, by decide +kernel, by decide, fun k => by
  by_cases hk : k < 8
  · revert k; decide +kernel
  · have : fk 1 k = 0 := by
      unfold fk fkL
      simp [List.getD]
      rw [List.getElem?_eq_none (by simp; omega)]
      rfl
    omega⟩
theorem cls_2 : Cls 2 RX1 TX1 8 := ⟨rfl, g_inX1, ⟨tyX1, tyX1_ok, fun k hk => by revert k; decide +kernel⟩, nmX1, by decide +kernel, by decide, fun k => by
  by_cases hk : k < 8
  · revert k; decide +kernel
  · have : fk 2 k = 0 := by
      unfold fk fkL
      simp [List.getD]
      rw [List.getElem?_eq_none (by simp; omega)]
      rfl
    omega⟩
theorem cls_3 : Cls 3 RX2 TX2 4 := ⟨rfl, g_inX2, ⟨tyX2, tyX2_ok, fun k hk => by revert k; decide +kernel⟩, nmX2, by decide +kernel, by decide, fun k => by
  by_cases hk : k < 4
  · revert k; decide +kernel
  · have : fk 3 k = 0 := by
      unfold fk fkL
      simp [List.getD]
      rw [List.getElem?_eq_none (by simp; omega)]
      rfl
    omega⟩
theorem cls_4 : Cls 4 RX3 TX3 5 := ⟨rfl, g_inX3, ⟨tyX3, tyX3_ok, fun k hk => by revert k; decide +kernel⟩, nmX3, by decide +kernel, by decide, fun k => by
  by_cases hk : k < 5
  · revert k; decide +kernel
  · have : fk 4 k = 0 := by
      unfold fk fkL
      simp [List.getD]
      rw [List.getElem?_eq_none (by simp; omega)]
      rfl
    omega⟩
theorem cls_5 : Cls 5 RX4 TX4 4 := ⟨rfl, g_inX4, ⟨tyX4, tyX4_ok, fun k hk => by revert k; decide +kernel⟩, nmX4, by decide +kernel, by decide, fun k => by
  by_cases hk : k < 4
  · revert k; decide +kernel
  · have : fk 5 k = 0 := by
      unfold fk fkL
      simp [List.getD]
      rw [List.getElem?_eq_none (by simp; omega)]
      rfl
    omega⟩
theorem cls_6 : Cls 6 RX5 TX5 3 := ⟨rfl, g_inX5, ⟨tyX5, tyX5_ok, fun k hk => by revert k; decide +kernel⟩, nmX5, by decide +kernel, by decide, fun k => by
  by_cases hk : k < 3
  · revert k; decide +kernel
  · have : fk 6 k = 0 := by
      unfold fk fkL
      simp [List.getD]
      rw [List.getElem?_eq_none (by simp; omega)]
      rfl
    omega⟩
theorem cls_7 : Cls 7 RX6 TX6 8 := ⟨rfl, g_inX6, ⟨tyX6, tyX6_ok, fun k hk => by revert k; decide +kernel⟩, nmX6, by decide +kernel, by decide, fun k => by
  by_cases hk : k < 8
  · revert k; decide +kernel
  · have : fk 7 k = 0 := by
      unfold fk fkL
      simp [List.getD]
      rw [List.getElem?_eq_none (by simp; omega)]
      rfl
    omega⟩
theorem cls_8 : Cls 8 RX7 TX7 4 := ⟨rfl, g_inX7, ⟨tyX7, tyX7_ok, fun k hk => by revert k; decide +kernel⟩, nmX7, by decide +kernel, by decide, fun k => by
  by_cases hk : k < 4
  · revert k; decide +kernel
  · have : fk 8 k = 0 := by
      unfold fk fkL
      simp [List.getD]
      rw [List.getElem?_eq_none (by simp; omega)]
      rfl
    omega⟩
theorem cls_9 : Cls 9 RX8 TX8 13 := ⟨rfl, g_inX8, ⟨tyX8, tyX8_ok, fun k hk => by revert k; decide +kernel⟩, nmX8, by decide +kernel, by decide, fun k => by
  by_cases hk : k < 13
  · revert k; decide +kernel
  · have : fk 9 k = 0 := by
      unfold fk fkL
      simp [List.getD]
      rw [List.getElem?_eq_none (by simp; omega)]
      rfl
    omega⟩
theorem cls_10 : Cls 10 RX9 TX9 9 := ⟨rfl, g_inX9, ⟨tyX9, tyX9_ok, fun k hk => by revert k; decide +kernel⟩, nmX9, by decide +kernel, by decide, fun k => by
  by_cases hk : k < 9
  · revert k; decide +kernel
  · have : fk 10 k = 0 := by
      unfold fk fkL
      simp [List.getD]
      rw [List.getElem?_eq_none (by simp; omega)]
      rfl
    omega⟩
theorem cls_11 : Cls 11 RX10 TX10 3 := ⟨rfl, g_inX10, ⟨tyX10, tyX10_ok, fun k hk => by revert k; decide +kernel⟩, nmX10, by decide +kernel, by decide, fun k => by
  by_cases hk : k < 3
  · revert k; decide +kernel
  · have : fk 11 k = 0 := by
      unfold fk fkL
      simp [List.getD]
      rw [List.getElem?_eq_none (by simp; omega)]
      rfl
    omega⟩
theorem cls_12 : Cls 12 RX11 TX11 10 := ⟨rfl, g_inX11, ⟨tyX11, tyX11_ok, fun k hk => by revert k; decide +kernel⟩, nmX11, by decide +kernel, by decide, fun k => by
  by_cases hk : k < 10
  · revert k; decide +kernel
  · have : fk 12 k = 0 := by
      unfold fk fkL
      simp [List.getD]
      rw [List.getElem?_eq_none (by simp; omega)]
      rfl
    omega⟩
theorem cls_13 : Cls 13 RX12 TX12 58 := ⟨rfl, g_inX12, ⟨tyX12, tyX12_ok, fun k hk => by revert k; decide +kernel⟩, nmX12, by decide +kernel, by decide, fun k => by
  by_cases hk : k < 58
  · revert k; decide +kernel
  · have : fk 13 k = 0 := by
      unfold fk fkL
      simp [List.getD]
      rw [List.getElem?_eq_none (by simp; omega)]
      rfl
    omega⟩
end
section
/-! ===== reading and writing: the combinators of the pure programs, and a rule for each ===== -/
section CMB
variable {β : Type}
def gI (h : PM) (a c k : Nat) (f : Int32 → Option β) : Option β := if mT h a = c + 1 then f (mI h a k) else none
def gR (h : PM) (a c k : Nat) (f : Nat → Option β) : Option β := if mT h a = c + 1 ∧ mR h a k ≠ 0 then f (mR h a k) else none
def pI (h : PM) (a c k : Nat) (v : Int32) (f : PM → Option β) : Option β := if mT h a = c + 1 then f (setI h a k v) else none
def pZ (h : PM) (a c k : Nat) (v : Int32) (f : PM → Option β) : Option β := if mT h a = c + 1 ∧ (v = 0 ∨ v = 1) then f (setI h a k v) else none
def pR (h : PM) (a c k r : Nat) (f : PM → Option β) : Option β := if mT h a = c + 1 ∧ mT h r ≠ 0 ∧ r ≠ 0 then f (setR h a k r) else none
def aI (h : PM) (a : Nat) (i : Int32) (f : Int32 → Option β) : Option β := if mT h a = 20 ∧ ¬ (i < 0 ∨ mN h a ≤ i.toNatClampNeg) then f (mI h a i.toNatClampNeg) else none
def aS (h : PM) (a : Nat) (i : Int32) (f : Int32 → Option β) : Option β := if mT h a = 23 ∧ ¬ (i < 0 ∨ mN h a ≤ i.toNatClampNeg) then f (mI h a i.toNatClampNeg) else none
def aZ (h : PM) (a : Nat) (i : Int32) (f : Int32 → Option β) : Option β := if mT h a = 22 ∧ ¬ (i < 0 ∨ mN h a ≤ i.toNatClampNeg) then f (mI h a i.toNatClampNeg) else none
def aJ (h : PM) (a : Nat) (i : Int32) (f : Int64 → Option β) : Option β := if mT h a = 21 ∧ ¬ (i < 0 ∨ mN h a ≤ i.toNatClampNeg) then f (mJ h a i.toNatClampNeg) else none
def aR (h : PM) (a : Nat) (i : Int32) (f : Nat → Option β) : Option β := if (mT h a = 24 ∨ mT h a = 25 ∨ mT h a = 26) ∧ ¬ (i < 0 ∨ mN h a ≤ i.toNatClampNeg) ∧ mR h a i.toNatClampNeg ≠ 0 then f (mR h a i.toNatClampNeg) else none
def sI (h : PM) (a : Nat) (i v : Int32) (f : PM → Option β) : Option β := if mT h a = 20 ∧ ¬ (i < 0 ∨ mN h a ≤ i.toNatClampNeg) then f (setI h a i.toNatClampNeg v) else none
def sZ (h : PM) (a : Nat) (i v : Int32) (f : PM → Option β) : Option β := if (mT h a = 22 ∧ ¬ (i < 0 ∨ mN h a ≤ i.toNatClampNeg)) ∧ (v = 0 ∨ v = 1) then f (setI h a i.toNatClampNeg v) else none
def sJ (h : PM) (a : Nat) (i : Int32) (v : Int64) (f : PM → Option β) : Option β := if mT h a = 21 ∧ ¬ (i < 0 ∨ mN h a ≤ i.toNatClampNeg) then f (setJ h a i.toNatClampNeg v) else none
def ln (h : PM) (a : Nat) (f : Int32 → Option β) : Option β := if 20 ≤ mT h a ∧ mT h a ≤ 27 then f (Int32.ofNat (mN h a)) else none
end CMB
theorem okL_T {h h' : PM} {ls : List (Nat × Value)} (hT : mT h' = mT h) (ho : okL h ls) : okL h' ls := okL_mono (fun a z => by rw [hT]; exact z) ho
theorem okS_T {h h' : PM} {st : List Value} (hT : mT h' = mT h) (ho : okS h st) : okS h' st := okS_mono (fun a z => by rw [hT]; exact z) ho
theorem ite_some {β : Type} {c : Prop} [Decidable c] {f : Option β} {X : β} (h : (if c then f else none) = some X) : c ∧ f = some X := by
  by_cases q : c
  · rw [if_pos q] at h; exact ⟨q, h⟩
  · rw [if_neg q] at h; cases h
theorem en_obj {cy : Nat → ClassId} {ρ : Nat → Nat} {h : PM} {a ci N : Nat} (ht : mT h a = ci + 1) (hc : ci < 14) (hN : nF ci = N) : en cy ρ h a = .inr (ci, (List.range N).map (fv ρ h ci a)) := by
  subst hN
  simp only [en, ht, Nat.add_sub_cancel]
  rw [if_pos (by omega)]
theorem en_arr {cy : Nat → ClassId} {ρ : Nat → Nat} {h : PM} {a t : Nat} (ht : mT h a = t) (hc : 20 ≤ t) : en cy ρ h a = .inl (cy t, mN h a, co ρ h t a) := by
  simp only [en, ht]
  rw [if_neg (by omega)]
theorem fs_at {ρ : Nat → Nat} {h : PM} {c a N k : Nat} (hk : k < N) : ((List.range N).map (fv ρ h c a))[k]? = some (fv ρ h c a k) := by simp [hk]
theorem fs_len {ρ : Nat → Nat} {h : PM} {c a N : Nat} : ((List.range N).map (fv ρ h c a)).length = N := by simp
theorem fs_set {ρ : Nat → Nat} {h h' : PM} {c a N k : Nat} {v : Value} (hv : fv ρ h' c a k = v) (ho : ∀ j, j ≠ k → fv ρ h' c a j = fv ρ h c a j) : ((List.range N).map (fv ρ h c a)).set k v = (List.range N).map (fv ρ h' c a) := by
  apply List.ext_getElem?
  intro j
  by_cases hj : j < N
  · by_cases e : j = k
    · subst e
      rw [List.getElem?_set_self (by simp [hj])]
      simp [hj, hv]
    · rw [List.getElem?_set_ne (Ne.symm e)]
      simp [hj, ho j e]
  · rw [List.getElem?_eq_none (by simp; omega), List.getElem?_eq_none (by simp; omega)]
section ACC
variable {p : Program} {l : Launch} {e : Env} {R : Room} {s : State} {m : MethodId} {args : Array Value} {below : List Frame} {meth : Method} {c : Code}
variable {D : va_G} {cy : Nat → ClassId} {base : Nat} {ρ0 : Nat → Nat} {h0 : PM} {cs ss MC MS DP nL : Nat} {Q : State → Prop}
variable {cc : ByteArray} {own ref : String} {pc : Nat} {ls ls' : List (Nat × Value)} {st : List Value} {h : PM} {β : Type} {X : β}
variable {ci ix k a N : Nat} {Cn : String} {T : u_T}
theorem own_obj (hc : ci < 14) (ht : mT h a = ci + 1) : own1 (mT h a) := ⟨by omega, by omega, by omega⟩
theorem SH.put {ρ : Nat → Nat} {H H1 : Heap} {locs : List Loc} {cells slots : Nat} {h' : PM} {j : Nat} (h1 : SH D cy base s ρ0 h0 cs ss ρ H locs cells slots h) (ha : own1 (mT h a)) (hz : H1.size = H.size) (oq : ∀ q : Nat, q ≠ ρ a → H1[q]? = H[q]?) (hr : Rep D cy base ρ h' s H1) (hT : mT h' = mT h) : SH D cy base s ρ0 h0 cs ss ρ H1 (locs ++ [⟨ρ a, j⟩]) cells slots h' :=
  ⟨hr, h1.2.1.put hz oq (h1.1.1 a ha).1, h1.2.2.1, by rw [hT]; exact h1.2.2.2.1, h1.2.2.2.2⟩
theorem r_getI {f : Int32 → Option β} (C : Cx p R s m args meth c D cy MC MS DP cc nL own) (d : decode cc pc = .ok (.getfield ix, 3)) (K : Cls ci Cn T N) (hk : k < N) (hf : fk ci k ≠ 2) (hl : Cond.fieldLink own ix ref (T k).2.1 (T k).2.2.1 ∈ gw) (hsame : ∀ x, s.fieldFound? (T k).1 (T k).2.1 (T k).2.2.1 = some x → s.fieldFound? ref (T k).2.1 (T k).2.2.1 = some x)
    (hF : gI h a ci k f = some X) (kk : f (mI h a k) = some X → WP p l e R s m args below meth c D cy base ρ0 h0 cs ss nL Q (pc + 3) ls (.int (mI h a k) :: st) h) : WP p l e R s m args below meth c D cy base ρ0 h0 cs ss nL Q pc ls (.ref a :: st) h := by
  intro ρ H locs cells slots la h1 h2 h3 h4
  obtain ⟨ht, hF⟩ := ite_some hF
  have hat := (h1.1.1 a (own_obj K.2.2.2.2.2.1 ht)).2
  rw [en_obj ht K.2.2.2.2.2.1 K.2.2.2.2.1] at hat
  refine va_get (D := D) (cl := vwCl) (ws := [(ρ a, .inr (ci, (List.range N).map (fv ρ h ci a)))]) C.1.1 C.1.2.1 C.1.2.2.2.2 K.2.1 C.1.2.2.2.1 C.2.1 (fun q z hz => ?_) 0 rfl K.1 k hk (C.1.2.2.2.2 _ hl) hsame (v := .int (mI h a k)) ?_ d (kk hF ρ H locs cells slots la h1 h2 h3 ⟨trivial, h4.2⟩)
  · have hq : q < 1 := (List.getElem?_eq_some_iff.mp hz).1
    rw [show q = 0 by omega] at hz
    cases hz
    exact hat
  · rw [fs_at hk]
    simp [fv, hf]
theorem r_getR {f : Nat → Option β} (C : Cx p R s m args meth c D cy MC MS DP cc nL own) (d : decode cc pc = .ok (.getfield ix, 3)) (K : Cls ci Cn T N) (hk : k < N) (hf : fk ci k = 2) (hl : Cond.fieldLink own ix ref (T k).2.1 (T k).2.2.1 ∈ gw) (hsame : ∀ x, s.fieldFound? (T k).1 (T k).2.1 (T k).2.2.1 = some x → s.fieldFound? ref (T k).2.1 (T k).2.2.1 = some x)
    (hF : gR h a ci k f = some X) (kk : f (mR h a k) = some X → WP p l e R s m args below meth c D cy base ρ0 h0 cs ss nL Q (pc + 3) ls (.ref (mR h a k) :: st) h) : WP p l e R s m args below meth c D cy base ρ0 h0 cs ss nL Q pc ls (.ref a :: st) h := by
  intro ρ H locs cells slots la h1 h2 h3 h4
  obtain ⟨⟨ht, hr0⟩, hF⟩ := ite_some hF
  have hat := (h1.1.1 a (own_obj K.2.2.2.2.2.1 ht)).2
  rw [en_obj ht K.2.2.2.2.2.1 K.2.2.2.2.1] at hat
  refine va_get (D := D) (cl := vwCl) (ws := [(ρ a, .inr (ci, (List.range N).map (fv ρ h ci a)))]) C.1.1 C.1.2.1 C.1.2.2.2.2 K.2.1 C.1.2.2.2.1 C.2.1 (fun q z hz => ?_) 0 rfl K.1 k hk (C.1.2.2.2.2 _ hl) hsame (v := .ref (ρ (mR h a k))) ?_ d (kk hF ρ H locs cells slots la h1 h2 h3 ⟨(h1.1.2.2.2.2 a k (by omega)).resolve_left hr0, h4.2⟩)
  · have hq : q < 1 := (List.getElem?_eq_some_iff.mp hz).1
    rw [show q = 0 by omega] at hz
    cases hz
    exact hat
  · rw [fs_at hk]
    simp [fv, hf, rn, hr0, va_rf]
/-- a field is written: what the machine does with it -/
theorem put_gen {H : Heap} {locs : List Loc} {cells slots : Nat} {la : Array Slot} {rest : List Value} {A : Nat} {fs : List Value} {v : Value} {ty : FieldType} (C : Cx p R s m args meth c D cy MC MS DP cc nL own) (d : decode cc pc = .ok (.putfield ix, 3)) (K : Cls ci Cn T N) (hk : k < N) (hl : Cond.fieldLink own ix ref (T k).2.1 (T k).2.2.1 ∈ gw) (hsame : ∀ x, s.fieldFound? (T k).1 (T k).2.1 (T k).2.2.1 = some x → s.fieldFound? ref (T k).2.1 (T k).2.2.1 = some x)
    (hfin : (T k).2.2.2 = false ∨ ((T k).2.2.2 = true ∧ meth.name = "<init>" ∧ (T k).1 = own)) (hd : parseFieldDescriptor (T k).2.2.1 = some ty) (hn : narrow ty v = v) (hfit : fits ty v = true) (hat : va_at D vwCl (A, .inr (ci, fs)) H) (hlen : k < fs.length)
    (kk : ∀ (H1 : Heap) (j : Nat), va_at D vwCl (A, .inr (ci, fs.set k v)) H1 → H1.size = H.size → (∀ q : Nat, q ≠ A → H1[q]? = H[q]?) → W p l e R s m args below meth c H1 (locs ++ [⟨A, j⟩]) cells slots Q (F0 m (pc + 3) la rest)) :
    W p l e R s m args below meth c H locs cells slots Q (F0 m pc la (v :: .ref A :: rest)) := by
  obtain ⟨hc, hin, ⟨ty0, hty, -⟩, hnm, -, -, -⟩ := K
  have hts := C.1.2.2.2.2
  have hown := C.1.2.2.2.1
  have hlink := hts _ hl
  have hK := C.2.1
  have hap := va_apart (own := own) hts hin ty0 hty hnm hK hc
  obtain ⟨r, h1, cell, q1, q2, q3, q4⟩ := hat
  have hr : r = (Cn, T, N) := Option.some.inj (h1.symm.trans hc)
  subst hr
  obtain ⟨hS, hfc, kC, hkC, hkind⟩ := hK.1 ci _ hc
  obtain ⟨cf, kf, fi, f, hi, hsl⟩ := hS k hk
  have hlay := hts _ (hin _ (u_in_lay hk))
  have hst := (u_facts hfc hkC (u_lays hts hin hk) hi).1
  unfold u_lay at hlay
  have fin : ∀ H' : Heap, H'[A]? = some (cell.setSlot f.slot v) → H'.size = H.size → (∀ q, q ≠ A → H'[q]? = H[q]?) → W p l e R s m args below meth c H' (locs ++ [⟨A, f.slot⟩]) cells slots Q (F0 m (pc + 3) la rest) := by
    intro H' e1 e2 e3
    refine kk H' f.slot ⟨_, hc, t_OB.to (V := updV (vp_V fs) k v) ⟨_, e1, q2, q3, ?_⟩ (fun j _ => vp_updV_set hlen v j)⟩ e2 e3
    rw [hsl]
    exact t_set q4 hap hk v
  rcases hfin with hfin | ⟨hfin, hin2, hdecl⟩
  · rw [if_neg (by rw [hfin]; decide)] at hlay
    have h6 := u_store hfc hkC hkind hlay hi hd hn hfit
    exact W.putK C.1.1 C.1.2.1 (f := f) ⟨hown, hlink, ⟨_, _, _, hsame _ hi⟩, hst⟩ (by rw [q2]; exact h6) q1 q3 (by rw [hsl]; exact k2_hasslot (q4 k hk)) rfl rfl d fin
  · rw [if_pos hfin] at hlay
    have hcf : m.cls = cf := by
      obtain ⟨_, _, c', _, _, _, -, -, hf', -, -, -, hown2, -⟩ := Cond.laysFinal_spec hlay
      have e1 : c' = cf := by have := hi.symm.trans hf'; simp at this; exact this.1.symm
      rw [hdecl] at hown2
      rw [← e1]; exact Option.some.inj (hown.symm.trans hown2)
    have h6 := u_fits hfc hkC hkind (Or.inr hlay) hi hd hn hfit
    exact W.putFinK C.1.1 C.1.2.1 hown hlink (hsame _ hi) hst hcf hin2 (by rw [q2]; exact h6) q1 q3 (by rw [hsl]; exact k2_hasslot (q4 k hk)) rfl rfl d fin
theorem rep_setI {ρ : Nat → Nat} {U : State} {H H1 : Heap} {v : Int32} (hr : Rep D cy base ρ h U H) (ha : own1 (mT h a)) (oq : ∀ q : Nat, q ≠ ρ a → H1[q]? = H[q]?) (hat : va_at D vwCl (ρ a, en cy ρ (setI h a k v) a) H1) : Rep D cy base ρ (setI h a k v) U H1 :=
  hr.set (h' := setI h a k v) ha rfl rfl (fun b hb => u2_ne hb) (fun _ _ => rfl) (fun _ _ => rfl) hat oq (fun j => hr.2.2.2.2 a j ha.1)
theorem rep_setJ {ρ : Nat → Nat} {U : State} {H H1 : Heap} {v : Int64} (hr : Rep D cy base ρ h U H) (ha : own1 (mT h a)) (oq : ∀ q : Nat, q ≠ ρ a → H1[q]? = H[q]?) (hat : va_at D vwCl (ρ a, en cy ρ (setJ h a k v) a) H1) : Rep D cy base ρ (setJ h a k v) U H1 :=
  hr.set (h' := setJ h a k v) ha rfl rfl (fun _ _ => rfl) (fun b hb => u2_ne hb) (fun _ _ => rfl) hat oq (fun j => hr.2.2.2.2 a j ha.1)
theorem rep_setR {ρ : Nat → Nat} {U : State} {H H1 : Heap} {v : Nat} (hr : Rep D cy base ρ h U H) (ha : own1 (mT h a)) (hv : mT h v ≠ 0) (oq : ∀ q : Nat, q ≠ ρ a → H1[q]? = H[q]?) (hat : va_at D vwCl (ρ a, en cy ρ (setR h a k v) a) H1) : Rep D cy base ρ (setR h a k v) U H1 :=
  hr.set (h' := setR h a k v) ha rfl rfl (fun _ _ => rfl) (fun _ _ => rfl) (fun b hb => u2_ne hb) hat oq (fun j => by
    have e0 : mR (setR h a k v) a j = if j = k then v else mR h a j := congrFun (u2_self (f := mR h)) j
    rw [e0]
    show (if j = k then v else mR h a j) = 0 ∨ mT h (if j = k then v else mR h a j) ≠ 0
    by_cases e : j = k
    · rw [if_pos e]; exact Or.inr hv
    · rw [if_neg e]; exact hr.2.2.2.2 a j ha.1)
theorem r_putI {f : PM → Option β} {v : Int32} (C : Cx p R s m args meth c D cy MC MS DP cc nL own) (d : decode cc pc = .ok (.putfield ix, 3)) (K : Cls ci Cn T N) (hk : k < N) (hf : fk ci k = 0) (hl : Cond.fieldLink own ix ref (T k).2.1 (T k).2.2.1 ∈ gw) (hsame : ∀ x, s.fieldFound? (T k).1 (T k).2.1 (T k).2.2.1 = some x → s.fieldFound? ref (T k).2.1 (T k).2.2.1 = some x)
    (hfin : (T k).2.2.2 = false ∨ ((T k).2.2.2 = true ∧ meth.name = "<init>" ∧ (T k).1 = own))
    (hF : pI h a ci k v f = some X) (kk : f (setI h a k v) = some X → WP p l e R s m args below meth c D cy base ρ0 h0 cs ss nL Q (pc + 3) ls st (setI h a k v)) : WP p l e R s m args below meth c D cy base ρ0 h0 cs ss nL Q pc ls (.int v :: .ref a :: st) h := by
  intro ρ H locs cells slots la h1 h2 h3 h4
  obtain ⟨ht, hF⟩ := ite_some hF
  have ha : own1 (mT h a) := own_obj K.2.2.2.2.2.1 ht
  have hat := (h1.1.1 a ha).2
  rw [en_obj ht K.2.2.2.2.2.1 K.2.2.2.2.1] at hat
  obtain ⟨ty0, hty, hkd⟩ := K.2.2.1
  refine put_gen (v := .int v) C d K hk hl hsame hfin (hty k hk) (by rw [(hkd k hk).1 hf]; rfl) (by rw [(hkd k hk).1 hf]; rfl) hat (by rw [fs_len]; exact hk) (fun H1 j e1 e2 e3 => ?_)
  rw [fs_set (h' := setI h a k v) (by simp [fv, hf, setI, mI, u2]) (fun j hj => by simp [fv, setI, mI, mR, u2, hj]), ← en_obj (h := setI h a k v) (cy := cy) ht K.2.2.2.2.2.1 K.2.2.2.2.1] at e1
  exact kk hF ρ H1 _ cells slots la (h1.put ha e2 e3 (rep_setI h1.1 ha e3 e1) rfl) h2 (okL_T (h := h) rfl h3) (okS_T (h := h) rfl h4.2.2)
theorem r_putZ {f : PM → Option β} {v : Int32} (C : Cx p R s m args meth c D cy MC MS DP cc nL own) (d : decode cc pc = .ok (.putfield ix, 3)) (K : Cls ci Cn T N) (hk : k < N) (hf : fk ci k = 1) (hl : Cond.fieldLink own ix ref (T k).2.1 (T k).2.2.1 ∈ gw) (hsame : ∀ x, s.fieldFound? (T k).1 (T k).2.1 (T k).2.2.1 = some x → s.fieldFound? ref (T k).2.1 (T k).2.2.1 = some x)
    (hfin : (T k).2.2.2 = false ∨ ((T k).2.2.2 = true ∧ meth.name = "<init>" ∧ (T k).1 = own))
    (hF : pZ h a ci k v f = some X) (kk : f (setI h a k v) = some X → WP p l e R s m args below meth c D cy base ρ0 h0 cs ss nL Q (pc + 3) ls st (setI h a k v)) : WP p l e R s m args below meth c D cy base ρ0 h0 cs ss nL Q pc ls (.int v :: .ref a :: st) h := by
  intro ρ H locs cells slots la h1 h2 h3 h4
  obtain ⟨⟨ht, hv⟩, hF⟩ := ite_some hF
  have ha : own1 (mT h a) := own_obj K.2.2.2.2.2.1 ht
  have hat := (h1.1.1 a ha).2
  rw [en_obj ht K.2.2.2.2.2.1 K.2.2.2.2.1] at hat
  obtain ⟨ty0, hty, hkd⟩ := K.2.2.1
  refine put_gen (v := .int v) C d K hk hl hsame hfin (hty k hk) (by rw [(hkd k hk).2.1 hf]; rcases hv with e | e <;> subst e <;> decide) (by rw [(hkd k hk).2.1 hf]; rcases hv with e | e <;> subst e <;> decide) hat (by rw [fs_len]; exact hk) (fun H1 j e1 e2 e3 => ?_)
  rw [fs_set (h' := setI h a k v) (by simp [fv, hf, setI, mI, u2]) (fun j hj => by simp [fv, setI, mI, mR, u2, hj]), ← en_obj (h := setI h a k v) (cy := cy) ht K.2.2.2.2.2.1 K.2.2.2.2.1] at e1
  exact kk hF ρ H1 _ cells slots la (h1.put ha e2 e3 (rep_setI h1.1 ha e3 e1) rfl) h2 (okL_T (h := h) rfl h3) (okS_T (h := h) rfl h4.2.2)
theorem r_putR {f : PM → Option β} {v : Nat} (C : Cx p R s m args meth c D cy MC MS DP cc nL own) (d : decode cc pc = .ok (.putfield ix, 3)) (K : Cls ci Cn T N) (hk : k < N) (hf : fk ci k = 2) (hl : Cond.fieldLink own ix ref (T k).2.1 (T k).2.2.1 ∈ gw) (hsame : ∀ x, s.fieldFound? (T k).1 (T k).2.1 (T k).2.2.1 = some x → s.fieldFound? ref (T k).2.1 (T k).2.2.1 = some x)
    (hfin : (T k).2.2.2 = false ∨ ((T k).2.2.2 = true ∧ meth.name = "<init>" ∧ (T k).1 = own))
    (hF : pR h a ci k v f = some X) (kk : f (setR h a k v) = some X → WP p l e R s m args below meth c D cy base ρ0 h0 cs ss nL Q (pc + 3) ls st (setR h a k v)) : WP p l e R s m args below meth c D cy base ρ0 h0 cs ss nL Q pc ls (.ref v :: .ref a :: st) h := by
  intro ρ H locs cells slots la h1 h2 h3 h4
  obtain ⟨⟨ht, hv, hv0⟩, hF⟩ := ite_some hF
  have ha : own1 (mT h a) := own_obj K.2.2.2.2.2.1 ht
  have hat := (h1.1.1 a ha).2
  rw [en_obj ht K.2.2.2.2.2.1 K.2.2.2.2.1] at hat
  obtain ⟨ty0, hty, hkd⟩ := K.2.2.1
  have hrt := rty_ok ((hkd k hk).2.2 hf) (ρ v)
  refine put_gen (v := .ref (ρ v)) C d K hk hl hsame hfin (hty k hk) hrt.1 hrt.2.1 hat (by rw [fs_len]; exact hk) (fun H1 j e1 e2 e3 => ?_)
  rw [fs_set (h' := setR h a k v) (by simp [fv, hf, setR, mR, u2, rn, hv0, va_rf]) (fun j hj => by simp [fv, setR, mI, mR, u2, hj]), ← en_obj (h := setR h a k v) (cy := cy) ht K.2.2.2.2.2.1 K.2.2.2.2.1] at e1
  exact kk hF ρ H1 _ cells slots la (h1.put ha e2 e3 (rep_setR h1.1 ha hv e3 e1) rfl) h2 (okL_T (h := h) rfl h3) (okS_T (h := h) rfl h4.2.2)
end ACC
end
section
section ARR
variable {p : Program} {l : Launch} {e : Env} {R : Room} {s : State} {m : MethodId} {args : Array Value} {below : List Frame} {meth : Method} {c : Code}
variable {D : va_G} {cy : Nat → ClassId} {base : Nat} {ρ0 : Nat → Nat} {h0 : PM} {cs ss MC MS DP nL : Nat} {Q : State → Prop}
variable {cc : ByteArray} {own ref : String} {pc : Nat} {ls ls' : List (Nat × Value)} {st : List Value} {h : PM} {β : Type} {X : β}
variable {a : Nat} {i : Int32}
theorem one_P {q : Nat × va_E} {H : Heap} (hat : va_at D vwCl q H) : va_P D vwCl [q] H := fun k z hz => by
  have hq : k < 1 := (List.getElem?_eq_some_iff.mp hz).1
  rw [show k = 0 by omega] at hz
  cases hz
  exact hat
theorem own_arr {t : Nat} (ht : mT h a = t) (hc : t = 20 ∨ t = 21 ∨ t = 22 ∨ t = 24 ∨ t = 25 ∨ t = 26) : own1 (mT h a) := by unfold own1; omega
theorem at_arr {ρ : Nat → Nat} {H : Heap} {t : Nat} (hr : Rep D cy base ρ h s H) (ht : mT h a = t) (hc : t = 20 ∨ t = 21 ∨ t = 22 ∨ t = 24 ∨ t = 25 ∨ t = 26) : va_at D vwCl (ρ a, .inl (cy t, mN h a, co ρ h t a)) H := by
  have := (hr.1 a (own_arr ht hc)).2
  rw [en_arr ht (by omega)] at this
  exact this
theorem r_aI {f : Int32 → Option β} (C : Cx p R s m args meth c D cy MC MS DP cc nL own) (d : decode cc pc = .ok (.iaload, 1)) (hF : aI h a i f = some X) (kk : f (mI h a i.toNatClampNeg) = some X → WP p l e R s m args below meth c D cy base ρ0 h0 cs ss nL Q (pc + 1) ls (.int (mI h a i.toNatClampNeg) :: st) h) : WP p l e R s m args below meth c D cy base ρ0 h0 cs ss nL Q pc ls (.int i :: .ref a :: st) h := by
  intro ρ H locs cells slots la h1 h2 h3 h4
  obtain ⟨⟨ht, hin⟩, hF⟩ := ite_some hF
  exact va_iald (D := D) (cl := vwCl) C.1.1 C.1.2.1 C.2.1 (one_P (at_arr h1.1 ht (by decide))) 0 0 rfl rfl hin d (kk hF ρ H locs cells slots la h1 h2 h3 ⟨trivial, h4.2.2⟩)
theorem r_aZ {f : Int32 → Option β} (C : Cx p R s m args meth c D cy MC MS DP cc nL own) (d : decode cc pc = .ok (.baload, 1)) (hF : aZ h a i f = some X) (kk : f (mI h a i.toNatClampNeg) = some X → WP p l e R s m args below meth c D cy base ρ0 h0 cs ss nL Q (pc + 1) ls (.int (mI h a i.toNatClampNeg) :: st) h) : WP p l e R s m args below meth c D cy base ρ0 h0 cs ss nL Q pc ls (.int i :: .ref a :: st) h := by
  intro ρ H locs cells slots la h1 h2 h3 h4
  obtain ⟨⟨ht, hin⟩, hF⟩ := ite_some hF
  exact va_zald (D := D) (cl := vwCl) C.1.1 C.1.2.1 C.2.1 (one_P (at_arr h1.1 ht (by decide))) 0 2 rfl rfl hin d (kk hF ρ H locs cells slots la h1 h2 h3 ⟨trivial, h4.2.2⟩)
theorem r_aJ {f : Int64 → Option β} (C : Cx p R s m args meth c D cy MC MS DP cc nL own) (d : decode cc pc = .ok (.laload, 1)) (hF : aJ h a i f = some X) (kk : f (mJ h a i.toNatClampNeg) = some X → WP p l e R s m args below meth c D cy base ρ0 h0 cs ss nL Q (pc + 1) ls (.long (mJ h a i.toNatClampNeg) :: st) h) : WP p l e R s m args below meth c D cy base ρ0 h0 cs ss nL Q pc ls (.int i :: .ref a :: st) h := by
  intro ρ H locs cells slots la h1 h2 h3 h4
  obtain ⟨⟨ht, hin⟩, hF⟩ := ite_some hF
  exact va_lald (D := D) (cl := vwCl) C.1.1 C.1.2.1 C.2.1 (one_P (at_arr h1.1 ht (by decide))) 0 1 rfl rfl hin d (kk hF ρ H locs cells slots la h1 h2 h3 ⟨trivial, h4.2.2⟩)
theorem r_aS {f : Int32 → Option β} (C : Cx p R s m args meth c D cy MC MS DP cc nL own) (d : decode cc pc = .ok (.iaload, 1)) (hF : aS h a i f = some X) (kk : f (mI h a i.toNatClampNeg) = some X → WP p l e R s m args below meth c D cy base ρ0 h0 cs ss nL Q (pc + 1) ls (.int (mI h a i.toNatClampNeg) :: st) h) : WP p l e R s m args below meth c D cy base ρ0 h0 cs ss nL Q pc ls (.int i :: .ref a :: st) h := by
  intro ρ H locs cells slots la h1 h2 h3 h4
  obtain ⟨⟨ht, hin⟩, hF⟩ := ite_some hF
  obtain ⟨-, scr, q1, q2, q3, q4, q5⟩ := h1.1.2.1 a ht
  have hlt : i.toNatClampNeg < mN h a := Nat.not_le.mp fun q => hin (Or.inr q)
  exact W.iald (v := .int (mI h a i.toNatClampNeg)) C.1.1 C.1.2.1 q1 q2 q3 (by rw [q4]; exact hin) (q5 _ hlt) rfl rfl d (kk hF ρ H locs cells slots la h1 h2 h3 ⟨trivial, h4.2.2⟩)
theorem r_aR {f : Nat → Option β} (C : Cx p R s m args meth c D cy MC MS DP cc nL own) (d : decode cc pc = .ok (.aaload, 1)) (hF : aR h a i f = some X) (kk : f (mR h a i.toNatClampNeg) = some X → WP p l e R s m args below meth c D cy base ρ0 h0 cs ss nL Q (pc + 1) ls (.ref (mR h a i.toNatClampNeg) :: st) h) : WP p l e R s m args below meth c D cy base ρ0 h0 cs ss nL Q pc ls (.int i :: .ref a :: st) h := by
  intro ρ H locs cells slots la h1 h2 h3 h4
  obtain ⟨⟨ht, hin, hr0⟩, hF⟩ := ite_some hF
  have hk := kk hF ρ H locs cells slots la h1 h2 h3 ⟨(h1.1.2.2.2.2 a _ (by omega)).resolve_left hr0, h4.2.2⟩
  have hlt : i.toNatClampNeg < mN h a := Nat.not_le.mp fun q => hin (Or.inr q)
  have rd : ∀ (t t0 : Nat) (ty : FieldType), mT h a = t → (t = 20 ∨ t = 21 ∨ t = 22 ∨ t = 24 ∨ t = 25 ∨ t = 26) → 24 ≤ t → (tyL cy)[t0]? = some (cy t, ty) → ty.isReference = true → W p l e R s m args below meth c H locs cells slots Q (F0 m pc la (.int i :: .ref (ρ a) :: st.map (rv ρ))) := by
    intro t t0 ty e1 e2 e3 e4 e5
    have hat := at_arr h1.1 e1 e2
    have hco : co ρ h t a = .inr (.inr (.inr (.inr (fun j => rn ρ (mR h a j))))) := by
      unfold co
      rw [if_neg (by omega), if_pos e3]
    rw [hco] at hat
    refine W.aald (v := .ref (ρ (mR h a i.toNatClampNeg))) (ty := ty) C.1.1 C.1.2.1 hat ((C.2.1.2 t0 _ e4).1 _ (fun j => va_rf (rn ρ (mR h a j)))) e5 (fun q => by cases q) (by show ¬ (i < 0 ∨ (arrV _ _ _).slots.size ≤ _); rw [arrV_size]; exact hin) (by show (arrV _ _ _).slots[_]? = _; rw [arrV_read _ _ hlt]; simp [rn, hr0, va_rf]) rfl rfl d hk
  rcases ht with ht | ht | ht
  · exact rd 24 3 _ ht (by decide) (by decide) rfl rfl
  · exact rd 25 4 _ ht (by decide) (by decide) rfl rfl
  · exact rd 26 5 _ ht (by decide) (by decide) rfl rfl
theorem r_sI {f : PM → Option β} {v : Int32} (C : Cx p R s m args meth c D cy MC MS DP cc nL own) (d : decode cc pc = .ok (.iastore, 1)) (hF : sI h a i v f = some X) (kk : f (setI h a i.toNatClampNeg v) = some X → WP p l e R s m args below meth c D cy base ρ0 h0 cs ss nL Q (pc + 1) ls st (setI h a i.toNatClampNeg v)) : WP p l e R s m args below meth c D cy base ρ0 h0 cs ss nL Q pc ls (.int v :: .int i :: .ref a :: st) h := by
  intro ρ H locs cells slots la h1 h2 h3 h4
  obtain ⟨⟨ht, hin⟩, hF⟩ := ite_some hF
  have hat := at_arr h1.1 ht (by decide)
  refine W.iast C.1.1 C.1.2.1 hat ((C.2.1.2 0 _ rfl).1 _ (fun j => .int (mI h a j))) (fun q => by cases q) (by show ¬ (i < 0 ∨ (arrV _ _ _).slots.size ≤ _); rw [arrV_size]; exact hin) rfl rfl d fun H1 e1 z oq => ?_
  have ha := own_arr ht (by decide)
  refine kk hF ρ H1 _ cells slots la (h1.put ha z oq (rep_setI h1.1 ha oq ?_) rfl) h2 (okL_T (h := h) rfl h3) (okS_T (h := h) rfl h4.2.2.2)
  rw [en_arr (h := setI h a i.toNatClampNeg v) ht (by decide)]
  show H1[ρ a]? = some (arrV (cy 20) (mN h a) (fun j => .int (mI (setI h a i.toNatClampNeg v) a j)))
  rw [e1]
  show some ((arrV (cy 20) (mN h a) (fun j => .int (mI h a j))).setSlot _ _) = _
  rw [arrV_store]
  congr 2
  funext j
  have e0 : mI (setI h a i.toNatClampNeg v) a j = if j = i.toNatClampNeg then v else mI h a j := congrFun (u2_self (f := mI h)) j
  rw [e0]
  by_cases hj : j = i.toNatClampNeg
  · rw [hj]; simp [updV]
  · simp [updV, hj]
theorem r_sZ {f : PM → Option β} {v : Int32} (C : Cx p R s m args meth c D cy MC MS DP cc nL own) (d : decode cc pc = .ok (.bastore, 1)) (hF : sZ h a i v f = some X) (kk : f (setI h a i.toNatClampNeg v) = some X → WP p l e R s m args below meth c D cy base ρ0 h0 cs ss nL Q (pc + 1) ls st (setI h a i.toNatClampNeg v)) : WP p l e R s m args below meth c D cy base ρ0 h0 cs ss nL Q pc ls (.int v :: .int i :: .ref a :: st) h := by
  intro ρ H locs cells slots la h1 h2 h3 h4
  obtain ⟨⟨⟨ht, hin⟩, hv⟩, hF⟩ := ite_some hF
  have hat := at_arr h1.1 ht (by decide)
  refine W.zast C.1.1 C.1.2.1 hat ((C.2.1.2 2 _ rfl).1 _ (fun j => .int (mI h a j))) (fun q => by cases q) (by show ¬ (i < 0 ∨ (arrV _ _ _).slots.size ≤ _); rw [arrV_size]; exact hin) rfl rfl d fun H1 e1 z oq => ?_
  have ha := own_arr ht (by decide)
  refine kk hF ρ H1 _ cells slots la (h1.put ha z oq (rep_setI h1.1 ha oq ?_) rfl) h2 (okL_T (h := h) rfl h3) (okS_T (h := h) rfl h4.2.2.2)
  rw [en_arr (h := setI h a i.toNatClampNeg v) ht (by decide)]
  show H1[ρ a]? = some (arrV (cy 22) (mN h a) (fun j => .int (mI (setI h a i.toNatClampNeg v) a j)))
  rw [e1]
  show some ((arrV (cy 22) (mN h a) (fun j => .int (mI h a j))).setSlot _ _) = _
  rw [arrV_store]
  congr 2
  funext j
  have e0 : mI (setI h a i.toNatClampNeg v) a j = if j = i.toNatClampNeg then v else mI h a j := congrFun (u2_self (f := mI h)) j
  rw [e0]
  by_cases hj : j = i.toNatClampNeg
  · rw [hj]; rcases hv with q | q <;> subst q <;> simp [updV] <;> rfl
  · simp [updV, hj]
theorem r_sJ {f : PM → Option β} {v : Int64} (C : Cx p R s m args meth c D cy MC MS DP cc nL own) (d : decode cc pc = .ok (.lastore, 1)) (hF : sJ h a i v f = some X) (kk : f (setJ h a i.toNatClampNeg v) = some X → WP p l e R s m args below meth c D cy base ρ0 h0 cs ss nL Q (pc + 1) ls st (setJ h a i.toNatClampNeg v)) : WP p l e R s m args below meth c D cy base ρ0 h0 cs ss nL Q pc ls (.long v :: .int i :: .ref a :: st) h := by
  intro ρ H locs cells slots la h1 h2 h3 h4
  obtain ⟨⟨ht, hin⟩, hF⟩ := ite_some hF
  have hat := at_arr h1.1 ht (by decide)
  refine W.last C.1.1 C.1.2.1 hat ((C.2.1.2 1 _ rfl).1 _ (fun j => .long (mJ h a j))) (fun q => by cases q) (by show ¬ (i < 0 ∨ (arrV _ _ _).slots.size ≤ _); rw [arrV_size]; exact hin) rfl rfl d fun H1 e1 z oq => ?_
  have ha := own_arr ht (by decide)
  refine kk hF ρ H1 _ cells slots la (h1.put ha z oq (rep_setJ h1.1 ha oq ?_) rfl) h2 (okL_T (h := h) rfl h3) (okS_T (h := h) rfl h4.2.2.2)
  rw [en_arr (h := setJ h a i.toNatClampNeg v) ht (by decide)]
  show H1[ρ a]? = some (arrV (cy 21) (mN h a) (fun j => .long (mJ (setJ h a i.toNatClampNeg v) a j)))
  rw [e1]
  show some ((arrV (cy 21) (mN h a) (fun j => .long (mJ h a j))).setSlot _ _) = _
  rw [arrV_store]
  congr 2
  funext j
  have e0 : mJ (setJ h a i.toNatClampNeg v) a j = if j = i.toNatClampNeg then v else mJ h a j := congrFun (u2_self (f := mJ h)) j
  rw [e0]
  by_cases hj : j = i.toNatClampNeg
  · rw [hj]; simp [updV]
  · simp [updV, hj]
theorem r_ln {f : Int32 → Option β} (C : Cx p R s m args meth c D cy MC MS DP cc nL own) (d : decode cc pc = .ok (.arraylength, 1)) (hF : ln h a f = some X) (kk : f (Int32.ofNat (mN h a)) = some X → WP p l e R s m args below meth c D cy base ρ0 h0 cs ss nL Q (pc + 1) ls (.int (Int32.ofNat (mN h a)) :: st) h) : WP p l e R s m args below meth c D cy base ρ0 h0 cs ss nL Q pc ls (.ref a :: st) h := by
  intro ρ H locs cells slots la h1 h2 h3 h4
  obtain ⟨hb, hF⟩ := ite_some hF
  have hne : mT h a = 20 ∨ mT h a = 21 ∨ mT h a = 22 ∨ mT h a = 23 ∨ mT h a = 24 ∨ mT h a = 25 ∨ mT h a = 26 ∨ mT h a = 27 := by omega
  have hk := kk hF ρ H locs cells slots la h1 h2 h3 ⟨trivial, h4.2⟩
  have rd : ∀ (t t0 : Nat) (ty : FieldType), mT h a = t → (t = 20 ∨ t = 21 ∨ t = 22 ∨ t = 24 ∨ t = 25 ∨ t = 26) → (tyL cy)[t0]? = some (cy t, ty) → W p l e R s m args below meth c H locs cells slots Q (F0 m pc la (.ref (ρ a) :: st.map (rv ρ))) := fun t t0 ty e1 e2 e4 =>
    va_alen (D := D) (cl := vwCl) C.1.1 C.1.2.1 C.2.1 (one_P (at_arr h1.1 e1 e2)) 0 t0 rfl e4 rfl d hk
  rcases hne with q | q | q | q | q | q | q | q
  · exact rd 20 0 _ q (by decide) rfl
  · exact rd 21 1 _ q (by decide) rfl
  · exact rd 22 2 _ q (by decide) rfl
  · obtain ⟨-, scr, q1, q2, q3, q4, -⟩ := h1.1.2.1 a q
    exact W.alen (n := Int32.ofNat (mN h a)) C.1.1 C.1.2.1 q1 q2 (by rw [q4] <;> rfl) rfl rfl d hk
  · exact rd 24 3 _ q (by decide) rfl
  · exact rd 25 4 _ q (by decide) rfl
  · exact rd 26 5 _ q (by decide) rfl
  · obtain ⟨-, scr, q1, q2, q3, q4⟩ := h1.1.2.2.1 a q
    exact W.alen (n := Int32.ofNat (mN h a)) C.1.1 C.1.2.1 q1 q2 (by rw [q4] <;> rfl) rfl rfl d hk
end ARR
end
section
/-! ===== what holds of the start of every method beside its words: nest words, casts, texts, statics ===== -/
def isN (w : Cond) : Bool := match w with
  | .methodLinkNest .. => true
  | .fieldLinkNest .. => true
  | .castable .. => true
  | _ => false
def nw : List Cond := lw_tbl.filter isN
def strL : List (String × Nat × String) := lw_tbl.filterMap (fun w => match w with
  | .stringRef a b c => some (a, b, c)
  | _ => none)
def alN : String := "java/util/ArrayList"
def EV (base : Nat) (ρ : Nat → Nat) (h : PM) (U : State) (H : Heap) : Prop :=
  (∀ w ∈ nw, va_Nw w U) ∧ (va_AO "java/lang/Object" U ∧ va_AO "RoughStones$Part" U ∧ va_AOA .long U) ∧ (∀ q ∈ strL, ∃ sa, vk_R q.1 q.2.1 q.2.2 sa U) ∧
  (vx_Zq Bundle.tN "UNASSIGNED_STACK" Bundle.steD (fun q => base ≤ q) U H ∧ vx_Zq Bundle.tN "SUPPRESSED_SENTINEL" Bundle.listD (fun q => base ≤ q) U H) ∧
  (mT h 1 ≠ 0 ∧ va_Z "RoughStones" "TURNED" "[I" (.ref (ρ 1)) (fun q => base ≤ q) U H) ∧ (mT h 2 ≠ 0 ∧ va_Z alN "DEFAULTCAPACITY_EMPTY_ELEMENTDATA" "[Ljava/lang/Object;" (.ref (ρ 2)) (fun q => base ≤ q) U H) ∧
  (∃ mi, va_Mi "[Ljava/lang/Object;" mi U)
theorem aoa_spec {ty : FieldType} {s : State} (h : va_AOA ty s) : ∃ comp c k, s.vm.findClass (FieldType.array ty).toString = some comp ∧ (s.vm.classes.findIdx? fun (x : Class) => match x.kind with | .array component _ => component == comp | _ => false) = some c ∧ s.vm.classes[c]? = some k ∧ k.kind = .array comp (.array ty) ∧ s.vm.findClass ("[" ++ (FieldType.array ty).toString) = some c := by
  have h : (Cond.arrayOver (.array ty)).holds #[] s none s [] = true := h
  simp only [Cond.holds, Cond.value, beq_iff_eq] at h
  cases hc : s.vm.findClass (FieldType.array ty).toString with
  | none => simp [hc] at h
  | some comp =>
    simp only [hc, Option.bind_some, Option.bind_eq_some_iff, Option.map_eq_some_iff] at h
    obtain ⟨c, hi, k, hk, hb⟩ := h
    obtain ⟨hlt, hp, -⟩ := Array.findIdx?_eq_some_iff_getElem.mp hi
    have hkk : s.vm.classes[c] = k := (Array.getElem?_eq_some_iff.mp hk).2
    rw [hkk] at hp
    cases hkind : k.kind with
    | array component ty =>
      rw [hkind] at hb hp
      simp at hb hp
      exact ⟨comp, c, k, rfl, hi, hk, by rw [hkind, hp, hb.1], hb.2⟩
    | _ => rw [hkind] at hb; simp at hb
theorem va_AOA.moved {ty : FieldType} {u U : State} (hvm : u.vm.Alike U.vm) (h : va_AOA ty u) : va_AOA ty U := by
  obtain ⟨comp, c, k, h1, h2, h3, h4, h5⟩ := aoa_spec h
  obtain ⟨k', hk', he⟩ := hvm.2.2 _ _ h3
  have hi : (U.vm.classes.findIdx? fun (x : Class) => match x.kind with | .array component _ => component == comp | _ => false) = some c := by
    have eb : U.vm.bare = u.vm.bare := by first | exact hvm.bare_eq | exact hvm.bare_eq.symm
    have e1 := va_idx_bare U.vm comp
    rw [eb] at e1
    exact e1.symm.trans ((va_idx_bare u.vm comp).trans h2)
  have hkind : k'.kind = .array comp (.array ty) := by rw [he]; exact h4
  have f1 : U.vm.findClass (FieldType.array ty).toString = some comp := by rw [hvm.findClass]; exact h1
  have f2 : U.vm.findClass ("[" ++ (FieldType.array ty).toString) = some c := by rw [hvm.findClass]; exact h5
  unfold va_AOA Cond.before Cond.holds
  simp only [Cond.value]
  rw [f1, Option.bind_some]
  refine (congrArg (fun o : Option Nat => (o.bind (fun c => (U.vm.classes[c]?).map fun (k : Class) => match k.kind with | .array _ t9 => decide (t9 = FieldType.array ty) && decide (U.vm.findClass ("[" ++ (FieldType.array ty).toString) = some c) | _ => false) == some true)) hi).trans ?_
  simp [hk', hkind, f2]
theorem Nw_warm {w : Cond} (hw : isN w = true) {s U : State} (hW : s.WarmedH U.vm) (h : va_Nw w s) : va_Nw w U := by
  cases w <;> first | exact va_Nw.warmF hW h | exact va_Nw.warmM hW h | exact va_Nw.warmC hW h | cases hw
theorem EV.move {base : Nat} {ρ ρ' : Nat → Nat} {h h' : PM} {s U : State} {H H1 : Heap} (E : EV base ρ h s H) (hW : s.WarmedH U.vm) (hk : ∀ a : Nat, a < H.size → ¬ base ≤ a → H1[a]? = H[a]?) (hx : ∀ a, mT h a ≠ 0 → mT h' a ≠ 0 ∧ ρ' a = ρ a) : EV base ρ' h' U H1 := by
  obtain ⟨e1, ⟨e2, e3, e4⟩, e5, ⟨e6, e7⟩, ⟨e8, e9⟩, ⟨e10, e11⟩, mi, e12⟩ := E
  refine ⟨fun w hw => Nw_warm (List.mem_filter.mp hw).2 hW (e1 w hw), ⟨va_AO.moved hW.alike e2, va_AO.moved hW.alike e3, va_AOA.moved hW.alike e4⟩, fun q hq => ?_, ⟨vx_Zq.moved hW.alike (e6.kept hk), vx_Zq.moved hW.alike (e7.kept hk)⟩, ⟨(hx 1 e8).1, ?_⟩, ⟨(hx 2 e10).1, ?_⟩, mi, va_Mi.moved hW.alike e12⟩
  · obtain ⟨sa, hsa⟩ := e5 q hq
    exact ⟨sa, vk_R.warm hW hsa⟩
  · rw [(hx 1 e8).2]; exact va_Z.moved hW.alike (e9.kept hk)
  · rw [(hx 2 e10).2]; exact va_Z.moved hW.alike (e11.kept hk)
section CMB2
variable {β : Type}
def nO (h : PM) (a c : Nat) (f : PM → Option β) : Option β := if a ≠ 0 ∧ mT h a = 0 then f (newM h a (c + 1) 0) else none
def nA (h : PM) (a t : Nat) (n : Int32) (f : PM → Option β) : Option β := if (a ≠ 0 ∧ mT h a = 0) ∧ (¬ n < 0 ∧ n.toNatClampNeg ≤ 65536) then f (newM h a t n.toNatClampNeg) else none
def sR (h : PM) (a : Nat) (i : Int32) (r : Nat) (f : PM → Option β) : Option β := if ((mT h a = 24 ∧ mT h r = 6) ∨ (mT h a = 25 ∧ (mT h r = 5 ∨ mT h r = 8 ∨ mT h r = 10))) ∧ ¬ (i < 0 ∨ mN h a ≤ i.toNatClampNeg) ∧ r ≠ 0 then f (setR h a i.toNatClampNeg r) else none
def tst (h : PM) (r c : Nat) (f : Option β) : Option β := if mT h r = c + 1 then f else none
end CMB2
section NEW
variable {p : Program} {l : Launch} {e : Env} {R : Room} {s : State} {m : MethodId} {args : Array Value} {below : List Frame} {meth : Method} {c : Code}
variable {D : va_G} {cy : Nat → ClassId} {base : Nat} {ρ0 : Nat → Nat} {h0 : PM} {cs ss MC MS DP nL : Nat} {Q : State → Prop}
variable {cc : ByteArray} {own ref : String} {pc : Nat} {ls ls' : List (Nat × Value)} {st : List Value} {h : PM} {β : Type} {X : β}
variable {ci ix k a N : Nat} {i : Int32} {Cn : String} {T : u_T}
/-- a cell comes at H.size: the frame goes on with the name a for it -/
theorem go_new {t n sl : Nat} {ρ : Nat → Nat} {H H1 : Heap} {locs : List Loc} {cells slots : Nat} {la : Array Slot} {pc' : Nat} (h1 : SH D cy base s ρ0 h0 cs ss ρ H locs cells slots h) (h2 : lv_has la nL (mp ρ ls)) (h3 : okL h ls) (h4 : okS h st)
    (ha : mT h a = 0) (ht : own1 t) (hsz : H1.size = H.size + 1) (oq : ∀ q : Nat, q < H.size → H1[q]? = H[q]?) (hat : va_at D vwCl (H.size, en cy (va_up ρ a H.size) (newM h a t n) a) H1)
    (kk : WP p l e R s m args below meth c D cy base ρ0 h0 (cs + 1) (ss + sl) nL Q pc' ls (.ref a :: st) (newM h a t n)) : W p l e R s m args below meth c H1 locs (cells + 1) (slots + sl) Q (F0 m pc' la (.ref H.size :: st.map (rv ρ))) := by
  obtain ⟨r1, r2, r3, r4, r5⟩ := h1
  have mono : ∀ b, mT h b ≠ 0 → mT (newM h a t n) b ≠ 0 := fun b hb => by
    have : b ≠ a := fun z => hb (by rw [z]; exact ha)
    show u1 (mT h) a t b ≠ 0
    rw [u1_ne this]; exact hb
  have hself : mT (newM h a t n) a = t := u1_self
  have hrep : Rep D cy base (va_up ρ a H.size) (newM h a t n) s H1 := r1.new ha (by rw [hself]; exact ht) (fun b hb => u1_ne hb) (fun b hb => u1_ne hb) (fun b hb => u1_ne hb) (fun b hb => u1_ne hb) (fun b hb => u1_ne hb) (fun k => by show u1 (mR h) a (fun _ => 0) a k = 0; rw [u1_self]) (Nat.le_trans r5 r2.1) oq hat
  have := kk (va_up ρ a H.size) H1 locs (cells + 1) (slots + sl) la ⟨hrep, ⟨Nat.le_trans r2.1 (by omega), fun q q1 q2 => (oq q (Nat.lt_of_lt_of_le q1 r2.1)).trans (r2.2.1 q q1 q2), r2.2.2⟩, ⟨by have := r3.1; omega, by have := r3.2; omega⟩, fun b hb => ⟨mono b (r4 b hb).1, by
      have : b ≠ a := fun z => (r4 b hb).1 (by rw [z]; exact ha)
      rw [← (r4 b hb).2]; simp [va_up, this]⟩, r5⟩ (by rw [mp_up ha h3]; exact h2) (okL_mono mono h3) ⟨by show mT (newM h a t n) a ≠ 0; rw [hself]; exact ht.1, okS_mono mono h4⟩
  rw [List.map_cons, rvS_up ha h4] at this
  have e0 : rv (va_up ρ a H.size) (.ref a) = .ref H.size := by simp [rv, va_up]
  rw [e0] at this
  exact this
theorem new_I : mI (newM h a k N) a = fun _ => 0 := u1_self
theorem new_J : mJ (newM h a k N) a = fun _ => 0 := u1_self
theorem new_R : mR (newM h a k N) a = fun _ => 0 := u1_self
theorem new_T : mT (newM h a k N) a = k := u1_self
theorem new_N : mN (newM h a k N) a = N := u1_self
theorem r_new {f : PM → Option β} (C : Cx p R s m args meth c D cy MC MS DP cc nL own) (d : decode cc pc = .ok (.new ix, 3)) (K : Cls ci Cn T N) (hl : Cond.classLink own ix Cn ∈ gw) (hi : Cond.instantiable Cn N ∈ gw) (hin : Cond.initialized Cn ∈ gw) (hcs : cs + 1 ≤ MC) (hss : ss + N ≤ MS) (a : Nat)
    (hF : nO h a ci f = some X) (kk : f (newM h a (ci + 1) 0) = some X → WP p l e R s m args below meth c D cy base ρ0 h0 (cs + 1) (ss + N) nL Q (pc + 3) ls (.ref a :: st) (newM h a (ci + 1) 0)) : WP p l e R s m args below meth c D cy base ρ0 h0 cs ss nL Q pc ls st h := by
  intro ρ H locs cells slots la h1 h2 h3 h4
  obtain ⟨⟨ha0, ha⟩, hF⟩ := ite_some hF
  have hts := C.1.2.2.2.2
  have hKn := C.2.1.1 ci _ K.1
  have hN := K.2.2.2.2.1
  have hb := h1.2.2.1
  obtain ⟨ty0, hty, hkd⟩ := K.2.2.1
  refine W.newcK C.1.1 C.1.2.1 C.1.2.2.2.1 (hts _ hl) (hts _ hi) (hts _ hin) rfl d (by have := C.2.2.2.1; omega) (by have := C.2.2.2.2.1; omega) hKn.2.1 rfl fun H1 kC hkC e1 z1 o1 => ?_
  refine go_new h1 h2 h3 h4 ha (own_obj (h := newM h a (ci + 1) 0) K.2.2.2.2.2.1 new_T |> fun z => by rw [new_T] at z; exact z) z1 o1 ?_ (kk hF)
  rw [en_obj new_T K.2.2.2.2.2.1 hN]
  refine ⟨_, K.1, (u_born ty0 hts K.2.1 hKn hkC e1 hty).to (fun j hj => ?_)⟩
  have hv : vp_V ((List.range N).map (fv (va_up ρ a H.size) (newM h a (ci + 1) 0) ci a)) j = fv (va_up ρ a H.size) (newM h a (ci + 1) 0) ci a j := by simp [vp_V, hj]
  rw [hv]
  have h2' := K.2.2.2.2.2.2 j
  obtain ⟨k1, k2, k3⟩ := hkd j hj
  unfold fv
  rw [new_I, new_R]
  by_cases e2 : fk ci j = 2
  · rw [if_pos e2, (rty_ok (k3 e2) 0).2.2]; rfl
  · rw [if_neg e2]
    by_cases e0 : fk ci j = 0
    · rw [k1 e0]; rfl
    · rw [k2 (by omega)]; rfl
theorem r_newa {f : PM → Option β} {n : Int32} {at' : ArrayType} {ty : FieldType} {t t0 : Nat} (C : Cx p R s m args meth c D cy MC MS DP cc nL own) (d : decode cc pc = .ok (.newarray at', 2)) (hty : newarray.typeOf at' = ty) (hw : Cond.arrayClass ty ∈ gw) (hcm : componentBytes ty ≤ 8) (ht : own1 t) (ht1 : 20 ≤ t) (ht2 : t < 24) (htl : (tyL cy)[t0]? = some (cy t, ty)) (hra : ∀ cA, va_RA s cA ty → s.vm.findClass ("[" ++ ty.toString) = some cA)
    (hdef : ∀ (ρ : Nat → Nat) (h9 : PM) (cA : ClassId) (n : Nat), mI h9 a = (fun _ => 0) → mJ h9 a = (fun _ => 0) → arrV cA n (fun _ => defaultValue ty) = vp_cell cA (n, co ρ h9 t a)) (hcs : cs + 1 ≤ MC) (hss : ss + n.toNatClampNeg ≤ MS)
    (hF : nA h a t n f = some X) (kk : f (newM h a t n.toNatClampNeg) = some X → WP p l e R s m args below meth c D cy base ρ0 h0 (cs + 1) (ss + n.toNatClampNeg) nL Q (pc + 2) ls (.ref a :: st) (newM h a t n.toNatClampNeg)) : WP p l e R s m args below meth c D cy base ρ0 h0 cs ss nL Q pc ls (.int n :: st) h := by
  intro ρ H locs cells slots la h1 h2 h3 h4
  obtain ⟨⟨⟨ha0, ha⟩, hn, hn2⟩, hF⟩ := ite_some hF
  have hb := h1.2.2.1
  subst hty
  refine va_newaK C.1.1 C.1.2.1 (C.1.2.2.2.2 _ hw) rfl d rfl hn rfl (Nat.le_trans (Nat.mul_le_mul hn2 hcm) (by decide)) (by have := C.2.2.2.1; omega) (by have := C.2.2.2.2.1; omega) rfl fun H1 cA e1 z1 o1 _ hNm => ?_
  have hcA : cA = cy t := Option.some.inj (hNm.symm.trans (hra _ (C.2.1.2 t0 _ htl).2))
  subst hcA
  refine go_new h1 h2 h3 h4.2 ha ht z1 o1 ?_ (kk hF)
  rw [en_arr new_T ht1]
  show H1[H.size]? = some (vp_cell _ _)
  rw [e1, new_N, hdef (va_up ρ a H.size) _ _ _ new_I new_J]
theorem r_newi {f : PM → Option β} {n : Int32} (C : Cx p R s m args meth c D cy MC MS DP cc nL own) (d : decode cc pc = .ok (.newarray .int, 2)) (hw : Cond.arrayClass .int ∈ gw) (hcs : cs + 1 ≤ MC) (hss : ss + n.toNatClampNeg ≤ MS) (a : Nat) (hF : nA h a 20 n f = some X) (kk : f (newM h a 20 n.toNatClampNeg) = some X → WP p l e R s m args below meth c D cy base ρ0 h0 (cs + 1) (ss + n.toNatClampNeg) nL Q (pc + 2) ls (.ref a :: st) (newM h a 20 n.toNatClampNeg)) : WP p l e R s m args below meth c D cy base ρ0 h0 cs ss nL Q pc ls (.int n :: st) h :=
  r_newa (ty := .int) (t := 20) (t0 := 0) C d rfl hw (by decide) (by unfold own1; decide) (by decide) (by decide) rfl (fun _ z => z) (fun ρ h9 cA n e1 e2 => by simp [co, e1, vp_cell]; rfl) hcs hss hF kk
theorem r_newj {f : PM → Option β} {n : Int32} (C : Cx p R s m args meth c D cy MC MS DP cc nL own) (d : decode cc pc = .ok (.newarray .long, 2)) (hw : Cond.arrayClass .long ∈ gw) (hcs : cs + 1 ≤ MC) (hss : ss + n.toNatClampNeg ≤ MS) (a : Nat) (hF : nA h a 21 n f = some X) (kk : f (newM h a 21 n.toNatClampNeg) = some X → WP p l e R s m args below meth c D cy base ρ0 h0 (cs + 1) (ss + n.toNatClampNeg) nL Q (pc + 2) ls (.ref a :: st) (newM h a 21 n.toNatClampNeg)) : WP p l e R s m args below meth c D cy base ρ0 h0 cs ss nL Q pc ls (.int n :: st) h :=
  r_newa (ty := .long) (t := 21) (t0 := 1) C d rfl hw (by decide) (by unfold own1; decide) (by decide) (by decide) rfl (fun _ z => z) (fun ρ h9 cA n e1 e2 => by simp [co, e2, vp_cell]; rfl) hcs hss hF kk
theorem r_newz {f : PM → Option β} {n : Int32} (C : Cx p R s m args meth c D cy MC MS DP cc nL own) (d : decode cc pc = .ok (.newarray .boolean, 2)) (hw : Cond.arrayClass .boolean ∈ gw) (hcs : cs + 1 ≤ MC) (hss : ss + n.toNatClampNeg ≤ MS) (a : Nat) (hF : nA h a 22 n f = some X) (kk : f (newM h a 22 n.toNatClampNeg) = some X → WP p l e R s m args below meth c D cy base ρ0 h0 (cs + 1) (ss + n.toNatClampNeg) nL Q (pc + 2) ls (.ref a :: st) (newM h a 22 n.toNatClampNeg)) : WP p l e R s m args below meth c D cy base ρ0 h0 cs ss nL Q pc ls (.int n :: st) h :=
  r_newa (ty := .boolean) (t := 22) (t0 := 2) C d rfl hw (by decide) (by unfold own1; decide) (by decide) (by decide) rfl (fun _ z => z) (fun ρ h9 cA n e1 e2 => by simp [co, e1, vp_cell]; rfl) hcs hss hF kk
end NEW
end
section
/-! ===== contracts over the pure memory; calls, returns ===== -/
theorem Rep.move {D : va_G} {cy : Nat → ClassId} {base : Nat} {ρ : Nat → Nat} {h : PM} {u U : State} {H : Heap} (hvm : u.vm.Alike U.vm) (hr : Rep D cy base ρ h u H) : Rep D cy base ρ h U H := by
  obtain ⟨r1, r2, r3, r4, r5⟩ := hr
  refine ⟨r1, fun a ha => ⟨(r2 a ha).1, va_X.moved hvm (r2 a ha).2⟩, fun a ha => ⟨(r3 a ha).1, ?_⟩, r4, r5⟩
  obtain ⟨scr, q1, q2, q3⟩ := (r3 a ha).2
  exact ⟨scr, q1, State.isArrayOf_alike hvm q2, q3⟩
def PR (D : va_G) (cy : Nat → ClassId) (base : Nat) (ρ : Nat → Nat) (h : PM) (As : List Value) : Array Value → State → Prop := fun v U =>
  v = (As.map (rv ρ)).toArray ∧ Rep D cy base ρ h U U.heap ∧ va_K D vwCl (tyL cy) U ∧ EV base ρ h U U.heap ∧ base ≤ U.heap.size ∧ okS h As
def QR (D : va_G) (cy : Nat → ClassId) (base : Nat) (ρ : Nat → Nat) (h : PM) (r : Option Value) (h' : PM) : Array Value → State → Outcome → State → Prop := fun _ st oc t =>
  ∃ ρ' : Nat → Nat, oc = .returned (r.map (rv ρ')) ∧ (∀ a, mT h a ≠ 0 → mT h' a ≠ 0 ∧ ρ' a = ρ a) ∧ Rep D cy base ρ' h' t t.heap ∧ (∀ v, r = some v → okv h' v) ∧ va_F (fun q => base ≤ q) st t
/-- the names of the exceptions by their numbers -/
def exN (k : Nat) : String := if k = 1 then "java/lang/IndexOutOfBoundsException" else if k = 2 then "java/lang/IllegalArgumentException" else if k = 3 then "java/lang/IllegalStateException" else "java/util/NoSuchElementException"
def XR (D : va_G) (cy : Nat → ClassId) (base : Nat) (ρ : Nat → Nat) (h : PM) (x : Nat) (h' : PM) : String → State → State → Prop := fun E st t =>
  E = exN x ∧ ∃ ρ' : Nat → Nat, (∀ a, mT h a ≠ 0 → mT h' a ≠ 0 ∧ ρ' a = ρ a) ∧ Rep D cy base ρ' h' t t.heap ∧ va_F (fun q => base ≤ q) st t
def rmN (MC MS DP : Nat) : Room := { frames := DP, cells := MC, slots := MS, locals := 64 * DP }
/-- a method that returns: r, over the memory h' -/
def CN (y : MethodName) (cc : ByteArray) (nL : Nat) (ret : Option FieldType) (MC MS DP : Nat) (As : List Value) (h : PM) (r : Option Value) (h' : PM) : Prop :=
  ∀ (l : Launch) (D : va_G) (cy : Nat → ClassId) (base : Nat) (ρ : Nat → Nat), l.stackTraces = false → Met l y (Cond.code y cc nL ret :: gw) (rmN MC MS DP) (PR D cy base ρ h As) (QR D cy base ρ h r h') MC MS (fun q => base ≤ q)
/-- a method that returns r (.inr) or throws the exception of a number (.inl), over the memory h' -/
def CX (y : MethodName) (cc : ByteArray) (nL : Nat) (ret : Option FieldType) (MC MS DP : Nat) (As : List Value) (h : PM) (r : Nat ⊕ Option Value) (h' : PM) : Prop :=
  ∀ (l : Launch) (D : va_G) (cy : Nat → ClassId) (base : Nat) (ρ : Nat → Nat), l.stackTraces = false → vx_Met l y (Cond.code y cc nL ret :: gw) (rmN MC MS DP) (PR D cy base ρ h As)
    (fun a st o t => ∃ v, r = .inr v ∧ QR D cy base ρ h v h' a st o t) (fun E st t => ∃ x, r = .inl x ∧ XR D cy base ρ h x h' E st t) MC MS (fun q => base ≤ q)
theorem PR_blind {D : va_G} {cy : Nat → ClassId} {base : Nat} {ρ : Nat → Nat} {h : PM} {As : List Value} : FrameBlind (PR D cy base ρ h As) := fun a U g mk q => by
  obtain ⟨q0, q1, q2, q3, q4, q5⟩ := q
  exact ⟨q0, Rep.move (u := U) (U := U.calling g mk a) (Vm.Alike.refl U.vm) q1, va_K.moved (u := U) (U := U.calling g mk a) (Vm.Alike.refl U.vm) q2, EV.move (s := U) (U := U.calling g mk a) q3 (State.WarmedH.refl U) (fun _ _ _ => rfl) (fun _ z => ⟨z, rfl⟩), q4, q5⟩
theorem gw_good : ∀ w ∈ gw, (w.onTables && w.keeps) = true ∨ ∃ ty, w = .arrayClass ty := fun w hw => good_of_word (List.mem_filter.mp hw).2
theorem gw_in {w : Cond} (h : w ∈ gw) : GoodIn gw (w :: gw) := fun z hz => by
  rcases List.mem_cons.mp hz with e | e
  · subst e; exact ⟨h, gw_good _ h⟩
  · exact ⟨e, gw_good _ e⟩
theorem lv_args_mp {ρ : Nat → Nat} : ∀ (As : List Value) (k : Nat), lv_args k (As.map (rv ρ)) = mp ρ (lv_args k As)
  | [], _ => rfl
  | v :: t, k => by
    show lv_args k (rv ρ v :: t.map (rv ρ)) = mp ρ (lv_args k (v :: t))
    unfold lv_args
    rw [rv_cat, lv_args_mp t]
    rfl
theorem okL_args {h : PM} : ∀ (As : List Value) (k : Nat), okS h As → okL h (lv_args k As)
  | [], _, _ => trivial
  | v :: t, k, ho => by
    unfold lv_args
    exact ⟨ho.1, okL_args t _ ho.2⟩
section CALL
variable {p : Program} {l : Launch} {e : Env} {R : Room} {s : State} {m : MethodId} {args : Array Value} {below : List Frame} {meth : Method} {c : Code}
variable {D : va_G} {cy : Nat → ClassId} {base : Nat} {ρ0 : Nat → Nat} {h0 : PM} {cs ss MC MS DP nL : Nat} {Q Q' : State → Prop}
variable {cc : ByteArray} {own : String} {pc : Nat} {ls ls' : List (Nat × Value)} {st stk : List Value} {h h' : PM} {β : Type} {X : β}
theorem rv_ext {ρ ρ' : Nat → Nat} (hx : ∀ a, mT h a ≠ 0 → mT h' a ≠ 0 ∧ ρ' a = ρ a) {v : Value} (hv : okv h v) : rv ρ' v = rv ρ v := by
  cases v with
  | ref a => simp [rv, (hx a hv).2]
  | _ => rfl
theorem rvS_ext {ρ ρ' : Nat → Nat} (hx : ∀ a, mT h a ≠ 0 → mT h' a ≠ 0 ∧ ρ' a = ρ a) {st : List Value} (hv : okS h st) : st.map (rv ρ') = st.map (rv ρ) := by
  induction st with
  | nil => rfl
  | cons v t ih => rw [List.map_cons, List.map_cons, rv_ext hx hv.1, ih hv.2]
theorem mp_ext {ρ ρ' : Nat → Nat} (hx : ∀ a, mT h a ≠ 0 → mT h' a ≠ 0 ∧ ρ' a = ρ a) {ls : List (Nat × Value)} (hv : okL h ls) : mp ρ' ls = mp ρ ls := by
  induction ls with
  | nil => rfl
  | cons v t ih =>
    have := ih hv.2
    simp only [mp, List.map_cons] at this ⊢
    rw [rv_ext hx hv.1, this]
theorem WP.mono (hq : ∀ t, Q t → Q' t) (k : WP p l e R s m args below meth c D cy base ρ0 h0 cs ss nL Q pc ls st h) : WP p l e R s m args below meth c D cy base ρ0 h0 cs ss nL Q' pc ls st h := fun ρ H locs cells slots la h1 h2 h3 h4 T hT Xs => by
  obtain ⟨t, a1, b1⟩ := k ρ H locs cells slots la h1 h2 h3 h4 T hT Xs
  exact ⟨t, a1, hq t b1⟩
theorem WP.cnt {cs' ss' : Nat} (hc : cs ≤ cs') (hs : ss ≤ ss') (k : WP p l e R s m args below meth c D cy base ρ0 h0 cs' ss' nL Q pc ls st h) : WP p l e R s m args below meth c D cy base ρ0 h0 cs ss nL Q pc ls st h := fun ρ H locs cells slots la h1 h2 h3 h4 =>
  k ρ H locs cells slots la ⟨h1.1, h1.2.1, ⟨Nat.le_trans h1.2.2.1.1 hc, Nat.le_trans h1.2.2.1.2 hs⟩, h1.2.2.2⟩ h2 h3 h4
/-- the state behind a call or a return, over s again -/
theorem SH.after {ρ ρ' : Nat → Nat} {H H1 : Heap} {locs L : List Loc} {cells slots mc ms : Nat} {st₀ t : State} (h1 : SH D cy base s ρ0 h0 cs ss ρ H locs cells slots h) (e0 : st₀.heap = H) (e1 : H1 = t.heap) (hvm : s.vm.Alike t.vm) (hext : ∀ a, mT h a ≠ 0 → mT h' a ≠ 0 ∧ ρ' a = ρ a) (hrep : Rep D cy base ρ' h' t t.heap) (hF : va_F (fun q => base ≤ q) st₀ t) (hL : ∀ q ∈ L, base ≤ q.base) : SH D cy base s ρ0 h0 (cs + mc) (ss + ms) ρ' H1 (locs ++ L) (cells + mc) (slots + ms) h' := by
  obtain ⟨r1, r2, r3, r4, r5⟩ := h1
  obtain ⟨hz, hk⟩ := hF
  rw [e0] at hz hk
  subst e1
  refine ⟨Rep.move hvm.symm hrep, ⟨Nat.le_trans r2.1 hz, fun q q1 q2 => (hk q (Nat.lt_of_lt_of_le q1 r2.1) q2).trans (r2.2.1 q q1 q2), fun q hq => ?_⟩, ⟨by have := r3.1; omega, by have := r3.2; omega⟩, fun a ha => ⟨(hext a (r4 a ha).1).1, ((hext a (r4 a ha).1).2).trans (r4 a ha).2⟩, r5⟩
  rcases List.mem_append.mp hq with z | z
  · exact r2.2.2 q z
  · exact hL q z
theorem go_call {ρ : Nat → Nat} {H : Heap} {locs : List Loc} {cells slots mc ms : Nat} {la : Array Slot} {st0 : List Value} {r : Option Value} {aa : Array Value} (h1 : SH D cy base s ρ0 h0 cs ss ρ H locs cells slots h) (h2 : lv_has la nL (mp ρ ls)) (h3 : okL h ls) (h4 : okS h st)
    (hr : va_Run p l e R s m args below meth c H locs cells slots mc ms (F0 m pc la st0) (st.map (rv ρ)) (QR D cy base ρ h r h' aa) (fun q => base ≤ q)) (kk : WP p l e R s m args below meth c D cy base ρ0 h0 (cs + mc) (ss + ms) nL Q (pc + 3) ls (r.toList ++ st) h') : W p l e R s m args below meth c H locs cells slots Q (F0 m pc la st0) := by
  intro T hT Xs
  obtain ⟨v, st₀, t, T', L, e0, X', hL, e1, e2, ⟨ρ', hv, hext, hrep, hok, hF⟩, go⟩ := hr T hT Xs
  have hv : v = r.map (rv ρ') := Outcome.returned.inj hv
  have hvm : s.vm.Alike t.vm := by rw [← e2]; exact X'.warmed.alike
  have mono : ∀ b, mT h b ≠ 0 → mT h' b ≠ 0 := fun b hb => (hext b hb).1
  have hst : (r.toList ++ st).map (rv ρ') = v.toList ++ st.map (rv ρ) := by
    rw [List.map_append, rvS_ext hext h4, hv]
    cases r <;> rfl
  have hok2 : okS h' (r.toList ++ st) := by
    cases r with
    | none => exact okS_mono mono h4
    | some z => exact ⟨hok z rfl, okS_mono mono h4⟩
  have := kk ρ' T'.heap (locs ++ L) (cells + mc) (slots + ms) la (h1.after e0 e1 hvm hext hrep hF hL) (by rw [mp_ext hext h3]; exact h2) (okL_mono mono h3) hok2
  rw [hst] at this
  obtain ⟨t2, a1, b1⟩ := this T' rfl X'
  exact ⟨t2, go t2 a1, b1⟩
theorem PR_of {ρ : Nat → Nat} {H : Heap} {locs : List Loc} {cells slots : Nat} {As : List Value} (C : Cx p R s m args meth c D cy MC MS DP cc nL own) (V : EV base ρ0 h0 s s.heap) (h1 : SH D cy base s ρ0 h0 cs ss ρ H locs cells slots h) (hA : okS h As) (U : State) (hU : U.heap = H) (hW : s.WarmedH U.vm) : PR D cy base ρ h As (As.map (rv ρ)).toArray U :=
  ⟨rfl, by rw [hU]; exact Rep.move hW.alike h1.1, va_K.moved hW.alike C.2.1, by rw [hU]; exact EV.move V hW h1.2.1.2.1 h1.2.2.2.1, by rw [hU]; exact Nat.le_trans h1.2.2.2.2 h1.2.1.1, hA⟩
theorem okS_app {a b : List Value} (ho : okS h (a ++ b)) : okS h a ∧ okS h b := by
  induction a with
  | nil => exact ⟨trivial, ho⟩
  | cons v t ih => exact ⟨⟨ho.1, (ih ho.2).1⟩, (ih ho.2).2⟩
theorem okS_mem (ho : okS h st) {v : Value} (hv : v ∈ st) : okv h v := by
  induction st with
  | nil => cases hv
  | cons w t ih =>
    rcases List.mem_cons.mp hv with e | e
    · rw [e]; exact ho.1
    · exact ih ho.2 e
theorem okS_of (hh : ∀ v ∈ st, okv h v) : okS h st := by
  induction st with
  | nil => trivial
  | cons w t ih => exact ⟨hh w List.mem_cons_self, ih (fun x hx => hh x (List.mem_cons_of_mem _ hx))⟩
theorem okS_rev {As : List Value} (ho : okS h (As.reverse ++ st)) : okS h As := okS_of fun v hv => okS_mem (okS_app ho).1 (List.mem_reverse.mpr hv)
theorem cat_map {ρ : Nat → Nat} : ((st.map (rv ρ)).map fun v => v.category) = st.map fun v => v.category := by
  rw [List.map_map]
  exact List.map_congr_left fun v _ => rv_cat ρ v
theorem stk_map {ρ : Nat → Nat} {As : List Value} (hstk : stk = As.reverse ++ st) : stk.map (rv ρ) = (As.map (rv ρ)).reverse ++ st.map (rv ρ) := by
  rw [hstk, List.map_append, List.map_reverse]
variable {y : MethodName} {cc' : ByteArray} {nL' : Nat} {ret' : Option FieldType} {MC' MS' DP' n ix : Nat} {As : List Value} {r : Option Value}
/-- a callee's words in gw, its depth, its room -/
def Cal (y : MethodName) (cc' : ByteArray) (nL' : Nat) (ret' : Option FieldType) (n : Nat) : Prop :=
  Cond.code y cc' nL' ret' ∈ gw ∧ Cond.initialized y.cls ∈ gw ∧ (y.cls ≠ "java/lang/invoke/MethodHandle" ∧ y.cls ≠ "java/lang/invoke/VarHandle" ∧ (parseMethodDescriptor y.desc).map (fun d => d.parameters.length) = some n) ∧ nL' ≤ 40
theorem calB (C : Cx p R s m args meth c D cy MC MS DP cc nL own) (K : Cal y cc' nL' ret' n) (hl : Cond.methodLink own ix y ∈ gw) (hdp : DP' + 1 ≤ DP) : CallB R s args own ix y cc' nL' ret' (Cond.code y cc' nL' ret' :: gw) (rmN MC' MS' DP') MC' MS' n := by
  have hts := C.1.2.2.2.2
  have hR := C.2.2.2
  refine callB_of n hts (gw_in K.1) rfl rfl rfl (hts _ K.2.1) (hts _ hl) K.2.2.1 ⟨by show DP' + 1 ≤ _; omega, ?_⟩
  show 8 + (nL' + 11) + 64 * DP' ≤ _
  have := K.2.2.2
  omega
theorem r_callS (C : Cx p R s m args meth c D cy MC MS DP cc nL own) (d : decode cc pc = .ok (.invokestatic ix, 3)) (V : EV base ρ0 h0 s s.heap) (hT : l.stackTraces = false) (K : Cal y cc' nL' ret' n) (hl : Cond.methodLink own ix y ∈ gw) (hs : Cond.static y ∈ gw) (hdp : DP' + 1 ≤ DP) (hAs : As.length = n) (hstk : stk = As.reverse ++ st) (h8 : (st.map fun v => v.category).sum ≤ 8) (hcs : cs + MC' ≤ MC) (hss : ss + MS' ≤ MS)
    (hM : CN y cc' nL' ret' MC' MS' DP' As h r h') (kk : WP p l e R s m args below meth c D cy base ρ0 h0 (cs + MC') (ss + MS') nL Q (pc + 3) ls (r.toList ++ st) h') : WP p l e R s m args below meth c D cy base ρ0 h0 cs ss nL Q pc ls stk h := by
  intro ρ H locs cells slots la h1 h2 h3 h4
  rw [hstk] at h4
  have hR := C.2.2.2
  have hb := h1.2.2.1
  refine go_call h1 h2 h3 (okS_app h4).2 (va_runS (As := As.map (rv ρ)) C.1 (hM l D cy base ρ hT) ⟨calB C K hl hdp, C.1.2.2.2.2 _ hs⟩ ⟨PR_blind, fun U hU hW => PR_of C V h1 (okS_rev h4) U hU hW⟩ rfl (by rw [List.length_map]; exact hAs) h2.1 (stk_map hstk) (by rw [cat_map]; exact (by show 2 * 0 + _ ≤ 8; omega)) d ⟨by omega, by omega⟩) kk
theorem r_callI {b : Nat} (C : Cx p R s m args meth c D cy MC MS DP cc nL own) (d : decode cc pc = .ok (.invokespecial ix, 3)) (V : EV base ρ0 h0 s s.heap) (hT : l.stackTraces = false) (K : Cal y cc' nL' none n) (hl : Cond.methodLink own ix y ∈ gw) (hs : Cond.instanceMethod y ∈ gw) (hy : y.name = "<init>") (hdp : DP' + 1 ≤ DP) (hAs : As.length = n) (hstk : stk = As.reverse ++ .ref b :: st) (h8 : (st.map fun v => v.category).sum ≤ 8) (hcs : cs + MC' ≤ MC) (hss : ss + MS' ≤ MS)
    (hM : CN y cc' nL' none MC' MS' DP' (.ref b :: As) h none h') (kk : WP p l e R s m args below meth c D cy base ρ0 h0 (cs + MC') (ss + MS') nL Q (pc + 3) ls st h') : WP p l e R s m args below meth c D cy base ρ0 h0 cs ss nL Q pc ls stk h := by
  intro ρ H locs cells slots la h1 h2 h3 h4
  rw [hstk] at h4
  have hR := C.2.2.2
  have hb := h1.2.2.1
  have hst : stk.map (rv ρ) = (As.map (rv ρ)).reverse ++ .ref (ρ b) :: st.map (rv ρ) := by rw [hstk, List.map_append, List.map_reverse]; rfl
  refine go_call (r := none) h1 h2 h3 (okS_app h4).2.2 (va_runI (As := As.map (rv ρ)) (b := ρ b) C.1 (hM l D cy base ρ hT) ⟨calB C K hl hdp, hy, C.1.2.2.2.2 _ hs⟩ ⟨PR_blind, fun U hU hW => PR_of (As := .ref b :: As) C V h1 ⟨(okS_app h4).2.1, okS_rev h4⟩ U hU hW⟩ rfl (by rw [List.length_map]; exact hAs) h2.1 hst (by rw [cat_map]; exact (by show 2 * 0 + _ ≤ 8; omega)) d ⟨by omega, by omega⟩) kk
theorem rcv_of {b ci N : Nat} {Cn : String} {T : u_T} {ρ : Nat → Nat} {H : Heap} {locs : List Loc} {cells slots : Nat} (C : Cx p R s m args meth c D cy MC MS DP cc nL own) (K : Cls ci Cn T N) (h1 : SH D cy base s ρ0 h0 cs ss ρ H locs cells slots h) (hb : mT h b = ci + 1) : ∃ cell : Cell, H[ρ b]? = some cell ∧ cell.vm.isStatics = false ∧ s.vm.findClass Cn = some cell.cls := by
  have hat := (h1.1.1 b (own_obj K.2.2.2.2.2.1 hb)).2
  rw [en_obj hb K.2.2.2.2.2.1 K.2.2.2.2.1] at hat
  exact va_recv (D := D) (q := (Cn, T, N)) C.2.1 (one_P hat) K.1 (q0 := 0) rfl
theorem r_callV {b ci N : Nat} {Cn : String} {T : u_T} (C : Cx p R s m args meth c D cy MC MS DP cc nL own) (d : decode cc pc = .ok (.invokevirtual ix, 3)) (V : EV base ρ0 h0 s s.heap) (hT : l.stackTraces = false) (K : Cal y cc' nL' ret' n) (Kc : Cls ci Cn T N) (hl : Cond.methodLink own ix y ∈ gw) (hs : Cond.instanceMethod y ∈ gw) (hse : Cond.selects Cn y y ∈ gw) (hb : mT h b = ci + 1) (hdp : DP' + 1 ≤ DP) (hAs : As.length = n) (hstk : stk = As.reverse ++ .ref b :: st) (h8 : (st.map fun v => v.category).sum ≤ 8) (hcs : cs + MC' ≤ MC) (hss : ss + MS' ≤ MS)
    (hM : CN y cc' nL' ret' MC' MS' DP' (.ref b :: As) h r h') (kk : WP p l e R s m args below meth c D cy base ρ0 h0 (cs + MC') (ss + MS') nL Q (pc + 3) ls (r.toList ++ st) h') : WP p l e R s m args below meth c D cy base ρ0 h0 cs ss nL Q pc ls stk h := by
  intro ρ H locs cells slots la h1 h2 h3 h4
  rw [hstk] at h4
  have hR := C.2.2.2
  have hb2 := h1.2.2.1
  have hst : stk.map (rv ρ) = (As.map (rv ρ)).reverse ++ .ref (ρ b) :: st.map (rv ρ) := by rw [hstk, List.map_append, List.map_reverse]; rfl
  refine go_call h1 h2 h3 (okS_app h4).2.2 (va_runV (As := As.map (rv ρ)) (b := ρ b) C.1 (hM l D cy base ρ hT) ⟨calB C K hl hdp, C.1.2.2.2.2 _ hs, C.1.2.2.2.2 _ hse⟩ ⟨PR_blind, rcv_of C Kc h1 hb, fun U hU hW => PR_of (As := .ref b :: As) C V h1 ⟨(okS_app h4).2.1, okS_rev h4⟩ U hU hW⟩ rfl (by rw [List.length_map]; exact hAs) h2.1 hst (by rw [cat_map]; exact (by show 2 * 0 + _ ≤ 8; omega)) d ⟨by omega, by omega⟩) kk
theorem calN {host : String} (C : Cx p R s m args meth c D cy MC MS DP cc nL own) (V : EV base ρ0 h0 s s.heap) (K : Cal y cc' nL' ret' n) (hl : Cond.methodLinkNest own ix y host ∈ nw) (hdp : DP' + 1 ≤ DP) : va_CN R s args own ix y host cc' nL' ret' (Cond.code y cc' nL' ret' :: gw) (rmN MC' MS' DP') MC' MS' n := by
  have hts := C.1.2.2.2.2
  have hR := C.2.2.2
  refine va_cnB n hts (gw_in K.1) rfl rfl rfl (V.1 _ hl) (hts _ K.2.1) K.2.2.1 ⟨by show DP' + 1 ≤ _; omega, ?_⟩
  show 8 + (nL' + 11) + 64 * DP' ≤ _
  have := K.2.2.2
  omega
theorem r_callSN {host : String} (C : Cx p R s m args meth c D cy MC MS DP cc nL own) (d : decode cc pc = .ok (.invokestatic ix, 3)) (V : EV base ρ0 h0 s s.heap) (hT : l.stackTraces = false) (K : Cal y cc' nL' ret' n) (hl : Cond.methodLinkNest own ix y host ∈ nw) (hs : Cond.static y ∈ gw) (hdp : DP' + 1 ≤ DP) (hAs : As.length = n) (hstk : stk = As.reverse ++ st) (h8 : (st.map fun v => v.category).sum ≤ 8) (hcs : cs + MC' ≤ MC) (hss : ss + MS' ≤ MS)
    (hM : CN y cc' nL' ret' MC' MS' DP' As h r h') (kk : WP p l e R s m args below meth c D cy base ρ0 h0 (cs + MC') (ss + MS') nL Q (pc + 3) ls (r.toList ++ st) h') : WP p l e R s m args below meth c D cy base ρ0 h0 cs ss nL Q pc ls stk h := by
  intro ρ H locs cells slots la h1 h2 h3 h4
  rw [hstk] at h4
  have hR := C.2.2.2
  have hb := h1.2.2.1
  refine go_call h1 h2 h3 (okS_app h4).2 (va_runSN (As := As.map (rv ρ)) C.1 (hM l D cy base ρ hT) ⟨calN C V K hl hdp, C.1.2.2.2.2 _ hs, trivial⟩ ⟨PR_blind, fun U hU hW => PR_of C V h1 (okS_rev h4) U hU hW⟩ rfl (by rw [List.length_map]; exact hAs) h2.1 (stk_map hstk) (by rw [cat_map]; exact (by show 2 * 0 + _ ≤ 8; omega)) d ⟨by omega, by omega⟩) kk
theorem r_callIN {b : Nat} {host : String} (C : Cx p R s m args meth c D cy MC MS DP cc nL own) (d : decode cc pc = .ok (.invokespecial ix, 3)) (V : EV base ρ0 h0 s s.heap) (hT : l.stackTraces = false) (K : Cal y cc' nL' none n) (hl : Cond.methodLinkNest own ix y host ∈ nw) (hs : Cond.instanceMethod y ∈ gw) (hy : y.name = "<init>") (hdp : DP' + 1 ≤ DP) (hAs : As.length = n) (hstk : stk = As.reverse ++ .ref b :: st) (h8 : (st.map fun v => v.category).sum ≤ 8) (hcs : cs + MC' ≤ MC) (hss : ss + MS' ≤ MS)
    (hM : CN y cc' nL' none MC' MS' DP' (.ref b :: As) h none h') (kk : WP p l e R s m args below meth c D cy base ρ0 h0 (cs + MC') (ss + MS') nL Q (pc + 3) ls st h') : WP p l e R s m args below meth c D cy base ρ0 h0 cs ss nL Q pc ls stk h := by
  intro ρ H locs cells slots la h1 h2 h3 h4
  rw [hstk] at h4
  have hR := C.2.2.2
  have hb := h1.2.2.1
  have hst : stk.map (rv ρ) = (As.map (rv ρ)).reverse ++ .ref (ρ b) :: st.map (rv ρ) := by rw [hstk, List.map_append, List.map_reverse]; rfl
  refine go_call (r := none) h1 h2 h3 (okS_app h4).2.2 (va_runIN (As := As.map (rv ρ)) (b := ρ b) C.1 (hM l D cy base ρ hT) ⟨calN C V K hl hdp, hy, C.1.2.2.2.2 _ hs⟩ ⟨PR_blind, fun U hU hW => PR_of (As := .ref b :: As) C V h1 ⟨(okS_app h4).2.1, okS_rev h4⟩ U hU hW⟩ rfl (by rw [List.length_map]; exact hAs) h2.1 hst (by rw [cat_map]; exact (by show 2 * 0 + _ ≤ 8; omega)) d ⟨by omega, by omega⟩) kk
theorem r_objInit {b : Nat} (C : Cx p R s m args meth c D cy MC MS DP cc nL own) (d : decode cc pc = .ok (.invokespecial ix, 3)) (hl : Cond.methodLink own ix objectInit ∈ gw) (hs : Cond.instanceMethod objectInit ∈ gw) (hc : Cond.code objectInit ⟨#[0xb1]⟩ 1 none ∈ gw) (hdp : 1 ≤ DP) (h8 : (st.map fun v => v.category).sum ≤ 8)
    (kk : WP p l e R s m args below meth c D cy base ρ0 h0 cs ss nL Q (pc + 3) ls st h) : WP p l e R s m args below meth c D cy base ρ0 h0 cs ss nL Q pc ls (.ref b :: st) h := by
  intro ρ H locs cells slots la h1 h2 h3 h4
  have hts := C.1.2.2.2.2
  have hR := C.2.2.2
  exact W.objInit C.1.1 C.1.2.1 C.1.2.2.2.1 (hts _ hl) (hts _ hs) (hts _ hc) rfl (by rw [C.1.2.2.1]; exact h2.1) rfl d (by omega) (by rw [cat_map]; show 2 * 0 + _ + 12 ≤ _; omega) (kk ρ H locs cells slots la h1 h2 h3 h4.2)
/-! returns -/
theorem QR_of {ρ : Nat → Nat} {H : Heap} {locs : List Loc} {cells slots : Nat} {aa : Array Value} (h1 : SH D cy base s ρ0 h0 cs ss ρ H locs cells slots h) (hr : ∀ v, r = some v → okv h v) (t : State) (ht : t.heap = H) (hW : s.WarmedH t.vm) : QR D cy base ρ0 h0 r h aa s (.returned (r.map (rv ρ))) t :=
  ⟨ρ, rfl, h1.2.2.2.1, by rw [ht]; exact Rep.move hW.alike h1.1, hr, h1.2.1.F ht⟩
theorem r_iret {v : Int32} (C : Cx p R s m args meth c D cy MC MS DP cc nL own) (d : decode cc pc = .ok (.ireturn, 1)) (hr : meth.sig.returnType = some .int) (hc : cs ≤ MC) (hs : ss ≤ MS) : WP p l e R s m args below meth c D cy base ρ0 h0 cs ss nL (MQ below (QR D cy base ρ0 h0 (some (.int v)) h) args s MC MS (fun q => base ≤ q)) pc ls [.int v] h := by
  intro ρ H locs cells slots la h1 h2 h3 h4
  have hb := h1.2.2.1
  refine W.widen (k := MC) (n := MS) (by omega) (by omega) ?_
  exact W.iret C.1.1 C.1.2.1 hr (fun t ht hW => QR_of h1 (fun v hv => by cases hv; trivial) t ht hW) h1.2.1.2.2 d C.2.2.1
theorem r_zret {v : Int32} (C : Cx p R s m args meth c D cy MC MS DP cc nL own) (d : decode cc pc = .ok (.ireturn, 1)) (hr : meth.sig.returnType = some .boolean) (hv : v = 0 ∨ v = 1) (hc : cs ≤ MC) (hs : ss ≤ MS) : WP p l e R s m args below meth c D cy base ρ0 h0 cs ss nL (MQ below (QR D cy base ρ0 h0 (some (.int v)) h) args s MC MS (fun q => base ≤ q)) pc ls [.int v] h := by
  intro ρ H locs cells slots la h1 h2 h3 h4
  have hb := h1.2.2.1
  refine W.widen (k := MC) (n := MS) (by omega) (by omega) ?_
  exact W.zret C.1.1 C.1.2.1 hr (by rcases hv with q | q <;> subst q <;> decide) (fun t ht hW => QR_of h1 (fun v hv => by cases hv; trivial) t ht hW) h1.2.1.2.2 d C.2.2.1
theorem r_lret {v : Int64} (C : Cx p R s m args meth c D cy MC MS DP cc nL own) (d : decode cc pc = .ok (.lreturn, 1)) (hr : meth.sig.returnType = some .long) (hc : cs ≤ MC) (hs : ss ≤ MS) : WP p l e R s m args below meth c D cy base ρ0 h0 cs ss nL (MQ below (QR D cy base ρ0 h0 (some (.long v)) h) args s MC MS (fun q => base ≤ q)) pc ls [.long v] h := by
  intro ρ H locs cells slots la h1 h2 h3 h4
  have hb := h1.2.2.1
  refine W.widen (k := MC) (n := MS) (by omega) (by omega) ?_
  exact W.lret C.1.1 C.1.2.1 hr (fun t ht hW => QR_of h1 (fun v hv => by cases hv; trivial) t ht hW) h1.2.1.2.2 d C.2.2.1
theorem r_aret {v : Nat} {rt : FieldType} (C : Cx p R s m args meth c D cy MC MS DP cc nL own) (d : decode cc pc = .ok (.areturn, 1)) (hr : meth.sig.returnType = some rt) (hrt : (∃ n, rt = .object n) ∨ ∃ t, rt = .array t) (hc : cs ≤ MC) (hs : ss ≤ MS) : WP p l e R s m args below meth c D cy base ρ0 h0 cs ss nL (MQ below (QR D cy base ρ0 h0 (some (.ref v)) h) args s MC MS (fun q => base ≤ q)) pc ls [.ref v] h := by
  intro ρ H locs cells slots la h1 h2 h3 h4
  have hb := h1.2.2.1
  refine W.widen (k := MC) (n := MS) (by omega) (by omega) ?_
  exact W.aret C.1.1 C.1.2.1 hr hrt (Or.inr ⟨_, rfl⟩) (fun t ht hW => QR_of (r := some (.ref v)) h1 (fun z hz => by cases hz; exact h4.1) t ht hW) h1.2.1.2.2 d C.2.2.1
theorem r_vret (C : Cx p R s m args meth c D cy MC MS DP cc nL own) (d : decode cc pc = .ok (.return_, 1)) (hr : meth.sig.returnType = none) (hc : cs ≤ MC) (hs : ss ≤ MS) : WP p l e R s m args below meth c D cy base ρ0 h0 cs ss nL (MQ below (QR D cy base ρ0 h0 none h) args s MC MS (fun q => base ≤ q)) pc ls [] h := by
  intro ρ H locs cells slots la h1 h2 h3 h4
  have hb := h1.2.2.1
  refine W.widen (k := MC) (n := MS) (by omega) (by omega) ?_
  exact W.vret C.1.1 C.1.2.1 hr (fun t ht hW => QR_of (r := none) h1 (fun v hv => by cases hv) t ht hW) h1.2.1.2.2 d C.2.2.1
end CALL
/-- a method's contract out of the walk of its body -/
theorem CN_of {y : MethodName} {cc : ByteArray} {nL : Nat} {ret : Option FieldType} {MC MS DP : Nat} {As : List Value} {h : PM} {r : Option Value} {h' : PM} {ls : List (Nat × Value)} (hy : plainName y.cls = true) (hn : ∀ ρ : Nat → Nat, (lg_sl (As.map (rv ρ))).length ≤ nL) (hls : lv_args 0 As = ls)
    (body : ∀ (p : Program) (l : Launch) (e : Env) (s : State) (m : MethodId) (args : Array Value) (below : List Frame) (meth : Method) (c : Code) (D : va_G) (cy : Nat → ClassId) (base : Nat) (ρ : Nat → Nat), l.stackTraces = false → Cx p (rmN MC MS DP) s m args meth c D cy MC MS DP cc nL y.cls → EV base ρ h s s.heap → meth.sig.returnType = ret → meth.name = y.name →
      WP p l e (rmN MC MS DP) s m args below meth c D cy base ρ h 0 0 nL (MQ below (QR D cy base ρ h r h') args s MC MS (fun q => base ≤ q)) 0 ls [] h) : CN y cc nL ret MC MS DP As h r h' := by
  intro l D cy base ρ hT
  refine Met.ofW (cc := cc) (maxL := nL) (ret := ret) hy rfl ?_
  intro p e s m args below meth c s₁ B hml hv
  obtain ⟨rfl, hR, hK, hE, hb, hA⟩ := hv
  have hts := atoms_spec (ws := Cond.code y cc nL ret :: gw) B.pre
  have hown : s.vm.findClass y.cls = some m.cls := findClass_of_methodNamed B.named
  have hl := lv_entry (As.map (rv ρ)) (n := nL) (hn ρ)
  rw [lg_entry_eq]
  generalize (lg_sl (As.map (rv ρ)) ++ List.replicate (nL - (lg_sl (As.map (rv ρ))).length) Slot.unset).toArray = la at hl ⊢
  rw [lv_args_mp, hls] at hl
  exact body p l e s m _ below meth c D cy base ρ hT ⟨⟨B.exec, B.bytes, hml, hown, fun w hw => hts w (List.mem_cons_of_mem _ hw)⟩, hK, B.notSynchronized, ⟨Nat.le_refl _, Nat.le_refl _, Nat.le_refl _, Nat.le_refl _⟩⟩ hE B.returns (name_of_methodNamed B.named B.method).1 ρ s.heap [] 0 0 la
    ⟨hR, va_S.rf, ⟨Nat.le_refl _, Nat.le_refl _⟩, fun a z => ⟨z, rfl⟩, hb⟩ hl (by rw [← hls]; exact okL_args As 0 hA) trivial
end
section
/-! ===== the rules as the programs' rows use them ===== -/
def FD (own : String) (ix ci k : Nat) (fin : Bool) : Prop := ∃ (Cn : String) (T : u_T) (N : Nat), Cls ci Cn T N ∧ k < N ∧ Cond.fieldLink own ix (T k).1 (T k).2.1 (T k).2.2.1 ∈ gw ∧ (T k).2.2.2 = fin ∧ (fin = true → (T k).1 = own)
theorem gwm (i : Nat) {w : Cond} (h : lw_tbl[i]? = some w) (g : goodWord w = true) : w ∈ gw := List.mem_filter.mpr ⟨List.mem_of_getElem? h, g⟩
theorem nwm (i : Nat) {w : Cond} (h : lw_tbl[i]? = some w) (g : isN w = true) : w ∈ nw := List.mem_filter.mpr ⟨List.mem_of_getElem? h, g⟩
section CPS
variable {α β γ : Type}
def cl (o : Option (α × PM)) (f : α → PM → Option β) : Option β := match o with
  | none => none
  | some x => f x.1 x.2
theorem cl_some {o : Option (α × PM)} {f : α → PM → Option β} {X : β} (h : cl o f = some X) : ∃ (r : α) (h' : PM), o = some (r, h') ∧ f r h' = some X := by
  cases o with
  | none => cases h
  | some x => exact ⟨x.1, x.2, rfl, h⟩
def jn (k : γ) (b : γ → Option β) : Option β := b k
theorem jn_some {k : γ} {b : γ → Option β} {X : β} (h : jn k b = some X) : ∃ k', k' = k ∧ b k' = some X := ⟨k, rfl, h⟩
def lt_ (x : α) (f : α → Option β) : Option β := f x
theorem tst_some {h : PM} {r c : Nat} {f : Option β} {X : β} (hF : tst h r c f = some X) : mT h r = c + 1 ∧ f = some X := ite_some hF
def dv (y : Int32) (f : Option β) : Option β := if ¬ y = 0 then f else none
def rz (v : Int32) (h : PM) : Option (Int32 × PM) := if v = 0 ∨ v = 1 then some (v, h) else none
def LF : Nat := 20000
end CPS
section KR
variable {p : Program} {l : Launch} {e : Env} {R : Room} {s : State} {m : MethodId} {args : Array Value} {below : List Frame} {meth : Method} {c : Code}
variable {D : va_G} {cy : Nat → ClassId} {base : Nat} {ρ0 : Nat → Nat} {h0 : PM} {cs ss MC MS DP nL : Nat} {Q : State → Prop}
variable {cc : ByteArray} {own : String} {pc : Nat} {ls : List (Nat × Value)} {st : List Value} {h : PM} {β : Type} {X : β} {ci ix k a : Nat} {fin : Bool}
theorem k_gI {f : Int32 → Option β} (C : Cx p R s m args meth c D cy MC MS DP cc nL own) (d : decode cc pc = .ok (.getfield ix, 3)) (F : FD own ix ci k fin) (hf : fk ci k ≠ 2) (hF : gI h a ci k f = some X) (kk : ∀ x, f x = some X → WP p l e R s m args below meth c D cy base ρ0 h0 cs ss nL Q (pc + 3) ls (.int x :: st) h) : WP p l e R s m args below meth c D cy base ρ0 h0 cs ss nL Q pc ls (.ref a :: st) h := by
  obtain ⟨Cn, T, N, K, hk, hl, -, -⟩ := F
  exact r_getI C d K hk hf hl (fun _ z => z) hF (kk _)
theorem k_gR {f : Nat → Option β} (C : Cx p R s m args meth c D cy MC MS DP cc nL own) (d : decode cc pc = .ok (.getfield ix, 3)) (F : FD own ix ci k fin) (hf : fk ci k = 2) (hF : gR h a ci k f = some X) (kk : ∀ x, f x = some X → WP p l e R s m args below meth c D cy base ρ0 h0 cs ss nL Q (pc + 3) ls (.ref x :: st) h) : WP p l e R s m args below meth c D cy base ρ0 h0 cs ss nL Q pc ls (.ref a :: st) h := by
  obtain ⟨Cn, T, N, K, hk, hl, -, -⟩ := F
  exact r_getR C d K hk hf hl (fun _ z => z) hF (kk _)
theorem fin_of {T : u_T} (hi : fin = true → meth.name = "<init>") (h1 : (T k).2.2.2 = fin) (h2 : fin = true → (T k).1 = own) : (T k).2.2.2 = false ∨ ((T k).2.2.2 = true ∧ meth.name = "<init>" ∧ (T k).1 = own) := by
  cases fin with
  | false => exact Or.inl h1
  | true => exact Or.inr ⟨h1, hi rfl, h2 rfl⟩
theorem k_pI {f : PM → Option β} {v : Int32} (C : Cx p R s m args meth c D cy MC MS DP cc nL own) (d : decode cc pc = .ok (.putfield ix, 3)) (F : FD own ix ci k fin) (hi : fin = true → meth.name = "<init>") (hf : fk ci k = 0) (hF : pI h a ci k v f = some X) (kk : ∀ h', f h' = some X → WP p l e R s m args below meth c D cy base ρ0 h0 cs ss nL Q (pc + 3) ls st h') : WP p l e R s m args below meth c D cy base ρ0 h0 cs ss nL Q pc ls (.int v :: .ref a :: st) h := by
  obtain ⟨Cn, T, N, K, hk, hl, h1, h2⟩ := F
  exact r_putI C d K hk hf hl (fun _ z => z) (fin_of hi h1 h2) hF (kk _)
theorem k_pZ {f : PM → Option β} {v : Int32} (C : Cx p R s m args meth c D cy MC MS DP cc nL own) (d : decode cc pc = .ok (.putfield ix, 3)) (F : FD own ix ci k fin) (hi : fin = true → meth.name = "<init>") (hf : fk ci k = 1) (hF : pZ h a ci k v f = some X) (kk : ∀ h', f h' = some X → WP p l e R s m args below meth c D cy base ρ0 h0 cs ss nL Q (pc + 3) ls st h') : WP p l e R s m args below meth c D cy base ρ0 h0 cs ss nL Q pc ls (.int v :: .ref a :: st) h := by
  obtain ⟨Cn, T, N, K, hk, hl, h1, h2⟩ := F
  exact r_putZ C d K hk hf hl (fun _ z => z) (fin_of hi h1 h2) hF (kk _)
theorem k_pR {f : PM → Option β} {v : Nat} (C : Cx p R s m args meth c D cy MC MS DP cc nL own) (d : decode cc pc = .ok (.putfield ix, 3)) (F : FD own ix ci k fin) (hi : fin = true → meth.name = "<init>") (hf : fk ci k = 2) (hF : pR h a ci k v f = some X) (kk : ∀ h', f h' = some X → WP p l e R s m args below meth c D cy base ρ0 h0 cs ss nL Q (pc + 3) ls st h') : WP p l e R s m args below meth c D cy base ρ0 h0 cs ss nL Q pc ls (.ref v :: .ref a :: st) h := by
  obtain ⟨Cn, T, N, K, hk, hl, h1, h2⟩ := F
  exact r_putR C d K hk hf hl (fun _ z => z) (fin_of hi h1 h2) hF (kk _)
theorem k_lti {x : Int32} {f : Int32 → Option β} (hF : lt_ x f = some X) (kk : ∀ x, f x = some X → WP p l e R s m args below meth c D cy base ρ0 h0 cs ss nL Q pc ls (.int x :: st) h) : WP p l e R s m args below meth c D cy base ρ0 h0 cs ss nL Q pc ls (.int x :: st) h := kk x hF
theorem k_ltl {x : Int64} {f : Int64 → Option β} (hF : lt_ x f = some X) (kk : ∀ x, f x = some X → WP p l e R s m args below meth c D cy base ρ0 h0 cs ss nL Q pc ls (.long x :: st) h) : WP p l e R s m args below meth c D cy base ρ0 h0 cs ss nL Q pc ls (.long x :: st) h := kk x hF
theorem k_idiv {x y : Int32} {f : Option β} (C : Cx p R s m args meth c D cy MC MS DP cc nL own) (d : decode cc pc = .ok (.idiv, 1)) (hF : dv y f = some X) (kk : f = some X → WP p l e R s m args below meth c D cy base ρ0 h0 cs ss nL Q (pc + 1) ls (.int (x / y) :: st) h) : WP p l e R s m args below meth c D cy base ρ0 h0 cs ss nL Q pc ls (.int y :: .int x :: st) h := by
  obtain ⟨hy, hF⟩ := ite_some hF
  exact r_idiv C d hy (kk hF)
theorem k_irem {x y : Int32} {f : Option β} (C : Cx p R s m args meth c D cy MC MS DP cc nL own) (d : decode cc pc = .ok (.irem, 1)) (hF : dv y f = some X) (kk : f = some X → WP p l e R s m args below meth c D cy base ρ0 h0 cs ss nL Q (pc + 1) ls (.int (x - x / y * y) :: st) h) : WP p l e R s m args below meth c D cy base ρ0 h0 cs ss nL Q pc ls (.int y :: .int x :: st) h := by
  obtain ⟨hy, hF⟩ := ite_some hF
  exact r_irem C d hy (kk hF)
theorem k_iret {v : Int32} {X : Int32 × PM} (C : Cx p R s m args meth c D cy MC MS DP cc nL own) (d : decode cc pc = .ok (.ireturn, 1)) (hr : meth.sig.returnType = some .int) (hc : cs ≤ MC) (hs : ss ≤ MS) (hF : some (v, h) = some X) : WP p l e R s m args below meth c D cy base ρ0 h0 cs ss nL (MQ below (QR D cy base ρ0 h0 (some (.int X.1)) X.2) args s MC MS (fun q => base ≤ q)) pc ls [.int v] h := by
  cases hF
  exact r_iret C d hr hc hs
theorem k_zret {v : Int32} {X : Int32 × PM} (C : Cx p R s m args meth c D cy MC MS DP cc nL own) (d : decode cc pc = .ok (.ireturn, 1)) (hr : meth.sig.returnType = some .boolean) (hc : cs ≤ MC) (hs : ss ≤ MS) (hF : rz v h = some X) : WP p l e R s m args below meth c D cy base ρ0 h0 cs ss nL (MQ below (QR D cy base ρ0 h0 (some (.int X.1)) X.2) args s MC MS (fun q => base ≤ q)) pc ls [.int v] h := by
  obtain ⟨hv, hF⟩ := ite_some hF
  cases hF
  exact r_zret C d hr hv hc hs
theorem k_lret {v : Int64} {X : Int64 × PM} (C : Cx p R s m args meth c D cy MC MS DP cc nL own) (d : decode cc pc = .ok (.lreturn, 1)) (hr : meth.sig.returnType = some .long) (hc : cs ≤ MC) (hs : ss ≤ MS) (hF : some (v, h) = some X) : WP p l e R s m args below meth c D cy base ρ0 h0 cs ss nL (MQ below (QR D cy base ρ0 h0 (some (.long X.1)) X.2) args s MC MS (fun q => base ≤ q)) pc ls [.long v] h := by
  cases hF
  exact r_lret C d hr hc hs
theorem k_aret {v : Nat} {rt : FieldType} {X : Nat × PM} (C : Cx p R s m args meth c D cy MC MS DP cc nL own) (d : decode cc pc = .ok (.areturn, 1)) (hr : meth.sig.returnType = some rt) (hrt : (∃ n, rt = .object n) ∨ ∃ t, rt = .array t) (hc : cs ≤ MC) (hs : ss ≤ MS) (hF : some (v, h) = some X) : WP p l e R s m args below meth c D cy base ρ0 h0 cs ss nL (MQ below (QR D cy base ρ0 h0 (some (.ref X.1)) X.2) args s MC MS (fun q => base ≤ q)) pc ls [.ref v] h := by
  cases hF
  exact r_aret C d hr hrt hc hs
theorem k_vret {X : Unit × PM} (C : Cx p R s m args meth c D cy MC MS DP cc nL own) (d : decode cc pc = .ok (.return_, 1)) (hr : meth.sig.returnType = none) (hc : cs ≤ MC) (hs : ss ≤ MS) (hF : some ((), h) = some X) : WP p l e R s m args below meth c D cy base ρ0 h0 cs ss nL (MQ below (QR D cy base ρ0 h0 none X.2) args s MC MS (fun q => base ≤ q)) pc ls [] h := by
  cases hF
  exact r_vret C d hr hc hs
theorem k_aI {f : Int32 → Option β} {i : Int32} (C : Cx p R s m args meth c D cy MC MS DP cc nL own) (d : decode cc pc = .ok (.iaload, 1)) (hF : aI h a i f = some X) (kk : ∀ x, f x = some X → WP p l e R s m args below meth c D cy base ρ0 h0 cs ss nL Q (pc + 1) ls (.int x :: st) h) : WP p l e R s m args below meth c D cy base ρ0 h0 cs ss nL Q pc ls (.int i :: .ref a :: st) h := r_aI C d hF (kk _)
theorem k_aS {f : Int32 → Option β} {i : Int32} (C : Cx p R s m args meth c D cy MC MS DP cc nL own) (d : decode cc pc = .ok (.iaload, 1)) (hF : aS h a i f = some X) (kk : ∀ x, f x = some X → WP p l e R s m args below meth c D cy base ρ0 h0 cs ss nL Q (pc + 1) ls (.int x :: st) h) : WP p l e R s m args below meth c D cy base ρ0 h0 cs ss nL Q pc ls (.int i :: .ref a :: st) h := r_aS C d hF (kk _)
theorem k_aZ {f : Int32 → Option β} {i : Int32} (C : Cx p R s m args meth c D cy MC MS DP cc nL own) (d : decode cc pc = .ok (.baload, 1)) (hF : aZ h a i f = some X) (kk : ∀ x, f x = some X → WP p l e R s m args below meth c D cy base ρ0 h0 cs ss nL Q (pc + 1) ls (.int x :: st) h) : WP p l e R s m args below meth c D cy base ρ0 h0 cs ss nL Q pc ls (.int i :: .ref a :: st) h := r_aZ C d hF (kk _)
theorem k_aJ {f : Int64 → Option β} {i : Int32} (C : Cx p R s m args meth c D cy MC MS DP cc nL own) (d : decode cc pc = .ok (.laload, 1)) (hF : aJ h a i f = some X) (kk : ∀ x, f x = some X → WP p l e R s m args below meth c D cy base ρ0 h0 cs ss nL Q (pc + 1) ls (.long x :: st) h) : WP p l e R s m args below meth c D cy base ρ0 h0 cs ss nL Q pc ls (.int i :: .ref a :: st) h := r_aJ C d hF (kk _)
theorem k_aR {f : Nat → Option β} {i : Int32} (C : Cx p R s m args meth c D cy MC MS DP cc nL own) (d : decode cc pc = .ok (.aaload, 1)) (hF : aR h a i f = some X) (kk : ∀ x, f x = some X → WP p l e R s m args below meth c D cy base ρ0 h0 cs ss nL Q (pc + 1) ls (.ref x :: st) h) : WP p l e R s m args below meth c D cy base ρ0 h0 cs ss nL Q pc ls (.int i :: .ref a :: st) h := r_aR C d hF (kk _)
theorem k_sI {f : PM → Option β} {i : Int32} {v : Int32} (C : Cx p R s m args meth c D cy MC MS DP cc nL own) (d : decode cc pc = .ok (.iastore, 1)) (hF : sI h a i v f = some X) (kk : ∀ h', f h' = some X → WP p l e R s m args below meth c D cy base ρ0 h0 cs ss nL Q (pc + 1) ls st h') : WP p l e R s m args below meth c D cy base ρ0 h0 cs ss nL Q pc ls (.int v :: .int i :: .ref a :: st) h := r_sI C d hF (kk _)
theorem k_sZ {f : PM → Option β} {i : Int32} {v : Int32} (C : Cx p R s m args meth c D cy MC MS DP cc nL own) (d : decode cc pc = .ok (.bastore, 1)) (hF : sZ h a i v f = some X) (kk : ∀ h', f h' = some X → WP p l e R s m args below meth c D cy base ρ0 h0 cs ss nL Q (pc + 1) ls st h') : WP p l e R s m args below meth c D cy base ρ0 h0 cs ss nL Q pc ls (.int v :: .int i :: .ref a :: st) h := r_sZ C d hF (kk _)
theorem k_sJ {f : PM → Option β} {i : Int32} {v : Int64} (C : Cx p R s m args meth c D cy MC MS DP cc nL own) (d : decode cc pc = .ok (.lastore, 1)) (hF : sJ h a i v f = some X) (kk : ∀ h', f h' = some X → WP p l e R s m args below meth c D cy base ρ0 h0 cs ss nL Q (pc + 1) ls st h') : WP p l e R s m args below meth c D cy base ρ0 h0 cs ss nL Q pc ls (.long v :: .int i :: .ref a :: st) h := r_sJ C d hF (kk _)
theorem k_ln {f : Int32 → Option β} (C : Cx p R s m args meth c D cy MC MS DP cc nL own) (d : decode cc pc = .ok (.arraylength, 1)) (hF : ln h a f = some X) (kk : ∀ x, f x = some X → WP p l e R s m args below meth c D cy base ρ0 h0 cs ss nL Q (pc + 1) ls (.int x :: st) h) : WP p l e R s m args below meth c D cy base ρ0 h0 cs ss nL Q pc ls (.ref a :: st) h := r_ln C d hF (kk _)
theorem k_new {N : Nat} {Cn : String} {T : u_T} {f : PM → Option β} (C : Cx p R s m args meth c D cy MC MS DP cc nL own) (d : decode cc pc = .ok (.new ix, 3)) (K : Cls ci Cn T N) (hl : Cond.classLink own ix Cn ∈ gw) (hi : Cond.instantiable Cn N ∈ gw) (hin : Cond.initialized Cn ∈ gw) (hcs : cs + 1 ≤ MC) (hss : ss + N ≤ MS) (hF : nO h a ci f = some X) (kk : ∀ h', f h' = some X → WP p l e R s m args below meth c D cy base ρ0 h0 (cs + 1) (ss + N) nL Q (pc + 3) ls (.ref a :: st) h') : WP p l e R s m args below meth c D cy base ρ0 h0 cs ss nL Q pc ls st h := r_new C d K hl hi hin hcs hss a hF (kk _)
theorem k_newi {n : Int32} {N : Nat} {f : PM → Option β} (C : Cx p R s m args meth c D cy MC MS DP cc nL own) (d : decode cc pc = .ok (.newarray .int, 2)) (hw : Cond.arrayClass .int ∈ gw) (hn : n.toNatClampNeg = N) (hcs : cs + 1 ≤ MC) (hss : ss + N ≤ MS) (hF : nA h a 20 n f = some X) (kk : ∀ h', f h' = some X → WP p l e R s m args below meth c D cy base ρ0 h0 (cs + 1) (ss + N) nL Q (pc + 2) ls (.ref a :: st) h') : WP p l e R s m args below meth c D cy base ρ0 h0 cs ss nL Q pc ls (.int n :: st) h := by
  subst hn
  exact r_newi C d hw hcs hss a hF (kk _)
theorem k_newj {n : Int32} {N : Nat} {f : PM → Option β} (C : Cx p R s m args meth c D cy MC MS DP cc nL own) (d : decode cc pc = .ok (.newarray .long, 2)) (hw : Cond.arrayClass .long ∈ gw) (hn : n.toNatClampNeg = N) (hcs : cs + 1 ≤ MC) (hss : ss + N ≤ MS) (hF : nA h a 21 n f = some X) (kk : ∀ h', f h' = some X → WP p l e R s m args below meth c D cy base ρ0 h0 (cs + 1) (ss + N) nL Q (pc + 2) ls (.ref a :: st) h') : WP p l e R s m args below meth c D cy base ρ0 h0 cs ss nL Q pc ls (.int n :: st) h := by
  subst hn
  exact r_newj C d hw hcs hss a hF (kk _)
theorem k_newz {n : Int32} {N : Nat} {f : PM → Option β} (C : Cx p R s m args meth c D cy MC MS DP cc nL own) (d : decode cc pc = .ok (.newarray .boolean, 2)) (hw : Cond.arrayClass .boolean ∈ gw) (hn : n.toNatClampNeg = N) (hcs : cs + 1 ≤ MC) (hss : ss + N ≤ MS) (hF : nA h a 22 n f = some X) (kk : ∀ h', f h' = some X → WP p l e R s m args below meth c D cy base ρ0 h0 (cs + 1) (ss + N) nL Q (pc + 2) ls (.ref a :: st) h') : WP p l e R s m args below meth c D cy base ρ0 h0 cs ss nL Q pc ls (.int n :: st) h := by
  subst hn
  exact r_newz C d hw hcs hss a hF (kk _)
theorem sw_ne {x y : Int32} (h : ¬ x = y) : x.toInt ≠ y.toInt := fun z => h (Int32.toInt_inj.mp z)
end KR
end
section
theorem fd_X12_1 : FD RX12 1 13 0 false := ⟨_, _, _, cls_13, by decide, gwm 1172 (by decide +kernel) rfl, rfl, fun _ => by first | rfl | contradiction⟩
theorem fd_X12_126 : FD RX12 126 13 1 false := ⟨_, _, _, cls_13, by decide, gwm 1173 (by decide +kernel) rfl, rfl, fun _ => by first | rfl | contradiction⟩
theorem ml_X12_129 : Cond.methodLink RX12 129 yX12_within ∈ gw := gwm 1360 (by decide +kernel) rfl
theorem cal_X12_within : Cal yX12_within cX12_within 3 (some .boolean) 3 := ⟨gwm 1362 (by decide +kernel) rfl, gwm 76 (by decide +kernel) rfl, ⟨by decide, by decide, by decide +kernel⟩, by decide⟩
theorem sm_X12_within : Cond.static yX12_within ∈ gw := gwm 1361 (by decide +kernel) rfl
theorem ml_X12_133 : Cond.methodLink RX12 133 yX12_may ∈ gw := gwm 1363 (by decide +kernel) rfl
theorem cal_X12_may : Cal yX12_may cX12_may 3 (some .boolean) 2 := ⟨gwm 1366 (by decide +kernel) rfl, gwm 76 (by decide +kernel) rfl, ⟨by decide, by decide, by decide +kernel⟩, by decide⟩
theorem im_X12_may : Cond.instanceMethod yX12_may ∈ gw := gwm 1365 (by decide +kernel) rfl
theorem se_X12_may : Cond.selects RX12 yX12_may yX12_may ∈ gw := gwm 39 (by decide +kernel) rfl
theorem ml_X12_137 : Cond.methodLink RX12 137 yX12_isRough ∈ gw := gwm 1356 (by decide +kernel) rfl
theorem cal_X12_isRough : Cal yX12_isRough cX12_isRough 2 (some .boolean) 1 := ⟨gwm 1359 (by decide +kernel) rfl, gwm 76 (by decide +kernel) rfl, ⟨by decide, by decide, by decide +kernel⟩, by decide⟩
theorem im_X12_isRough : Cond.instanceMethod yX12_isRough ∈ gw := gwm 1358 (by decide +kernel) rfl
theorem se_X12_isRough : Cond.selects RX12 yX12_isRough yX12_isRough ∈ gw := gwm 38 (by decide +kernel) rfl
theorem fd_X12_13 : FD RX12 13 13 2 true := ⟨_, _, _, cls_13, by decide, gwm 1174 (by decide +kernel) rfl, rfl, fun _ => by first | rfl | contradiction⟩
theorem dX12_thrown_0 : decode cX12_thrown 0 = .ok (.aload_n 0, 1) := by decide +kernel
theorem dX12_thrown_1 : decode cX12_thrown 1 = .ok (.getfield 1, 3) := by decide +kernel
theorem dX12_thrown_4 : decode cX12_thrown 4 = .ok (.ireturn, 1) := by decide +kernel
theorem dX12_may_0 : decode cX12_may 0 = .ok (.iload_n 1, 1) := by decide +kernel
theorem dX12_may_1 : decode cX12_may 1 = .ok (.ifCond .ne 15, 3) := by decide +kernel
theorem dX12_may_4 : decode cX12_may 4 = .ok (.aload_n 0, 1) := by decide +kernel
theorem dX12_may_5 : decode cX12_may 5 = .ok (.getfield 1, 3) := by decide +kernel
theorem dX12_may_8 : decode cX12_may 8 = .ok (.ifCond .ne 8, 3) := by decide +kernel
theorem dX12_may_11 : decode cX12_may 11 = .ok (.aload_n 0, 1) := by decide +kernel
theorem dX12_may_12 : decode cX12_may 12 = .ok (.iload_n 2, 1) := by decide +kernel
theorem dX12_may_13 : decode cX12_may 13 = .ok (.putfield 1, 3) := by decide +kernel
theorem dX12_may_16 : decode cX12_may 16 = .ok (.aload_n 0, 1) := by decide +kernel
theorem dX12_may_17 : decode cX12_may 17 = .ok (.getfield 1, 3) := by decide +kernel
theorem dX12_may_20 : decode cX12_may 20 = .ok (.ifCond .ne 7, 3) := by decide +kernel
theorem dX12_may_23 : decode cX12_may 23 = .ok (.iconst 1, 1) := by decide +kernel
theorem dX12_may_24 : decode cX12_may 24 = .ok (.goto 4, 3) := by decide +kernel
theorem dX12_may_27 : decode cX12_may 27 = .ok (.iconst 0, 1) := by decide +kernel
theorem dX12_may_28 : decode cX12_may 28 = .ok (.ireturn, 1) := by decide +kernel
theorem dX12_within_0 : decode cX12_within 0 = .ok (.iload_n 0, 1) := by decide +kernel
theorem dX12_within_1 : decode cX12_within 1 = .ok (.iload_n 1, 1) := by decide +kernel
theorem dX12_within_2 : decode cX12_within 2 = .ok (.if_icmp .lt 12, 3) := by decide +kernel
theorem dX12_within_5 : decode cX12_within 5 = .ok (.iload_n 0, 1) := by decide +kernel
theorem dX12_within_6 : decode cX12_within 6 = .ok (.iload_n 2, 1) := by decide +kernel
theorem dX12_within_7 : decode cX12_within 7 = .ok (.if_icmp .gt 7, 3) := by decide +kernel
theorem dX12_within_10 : decode cX12_within 10 = .ok (.iconst 1, 1) := by decide +kernel
theorem dX12_within_11 : decode cX12_within 11 = .ok (.goto 4, 3) := by decide +kernel
theorem dX12_within_14 : decode cX12_within 14 = .ok (.iconst 0, 1) := by decide +kernel
theorem dX12_within_15 : decode cX12_within 15 = .ok (.ireturn, 1) := by decide +kernel
theorem dX12_rough_0 : decode cX12_rough 0 = .ok (.aload_n 0, 1) := by decide +kernel
theorem dX12_rough_1 : decode cX12_rough 1 = .ok (.iconst 0, 1) := by decide +kernel
theorem dX12_rough_2 : decode cX12_rough 2 = .ok (.putfield 1, 3) := by decide +kernel
theorem dX12_rough_5 : decode cX12_rough 5 = .ok (.aload_n 0, 1) := by decide +kernel
theorem dX12_rough_6 : decode cX12_rough 6 = .ok (.getfield 126, 3) := by decide +kernel
theorem dX12_rough_9 : decode cX12_rough 9 = .ok (.bipush 10, 2) := by decide +kernel
theorem dX12_rough_11 : decode cX12_rough 11 = .ok (.if_icmp .ne 5, 3) := by decide +kernel
theorem dX12_rough_14 : decode cX12_rough 14 = .ok (.iconst (-1), 1) := by decide +kernel
theorem dX12_rough_15 : decode cX12_rough 15 = .ok (.ireturn, 1) := by decide +kernel
theorem dX12_rough_16 : decode cX12_rough 16 = .ok (.aload_n 0, 1) := by decide +kernel
theorem dX12_rough_17 : decode cX12_rough 17 = .ok (.dup, 1) := by decide +kernel
theorem dX12_rough_18 : decode cX12_rough 18 = .ok (.getfield 126, 3) := by decide +kernel
theorem dX12_rough_21 : decode cX12_rough 21 = .ok (.iconst 1, 1) := by decide +kernel
theorem dX12_rough_22 : decode cX12_rough 22 = .ok (.iadd, 1) := by decide +kernel
theorem dX12_rough_23 : decode cX12_rough 23 = .ok (.putfield 126, 3) := by decide +kernel
theorem dX12_rough_26 : decode cX12_rough 26 = .ok (.aload_n 0, 1) := by decide +kernel
theorem dX12_rough_27 : decode cX12_rough 27 = .ok (.getfield 126, 3) := by decide +kernel
theorem dX12_rough_30 : decode cX12_rough 30 = .ok (.iconst 1, 1) := by decide +kernel
theorem dX12_rough_31 : decode cX12_rough 31 = .ok (.isub, 1) := by decide +kernel
theorem dX12_rough_32 : decode cX12_rough 32 = .ok (.ireturn, 1) := by decide +kernel
theorem dX12_isRough_0 : decode cX12_isRough 0 = .ok (.aload_n 0, 1) := by decide +kernel
theorem dX12_isRough_1 : decode cX12_isRough 1 = .ok (.iload_n 1, 1) := by decide +kernel
theorem dX12_isRough_2 : decode cX12_isRough 2 = .ok (.iconst 0, 1) := by decide +kernel
theorem dX12_isRough_3 : decode cX12_isRough 3 = .ok (.aload_n 0, 1) := by decide +kernel
theorem dX12_isRough_4 : decode cX12_isRough 4 = .ok (.getfield 126, 3) := by decide +kernel
theorem dX12_isRough_7 : decode cX12_isRough 7 = .ok (.iconst 1, 1) := by decide +kernel
theorem dX12_isRough_8 : decode cX12_isRough 8 = .ok (.isub, 1) := by decide +kernel
theorem dX12_isRough_9 : decode cX12_isRough 9 = .ok (.invokestatic 129, 3) := by decide +kernel
theorem dX12_isRough_12 : decode cX12_isRough 12 = .ok (.iconst 1, 1) := by decide +kernel
theorem dX12_isRough_13 : decode cX12_isRough 13 = .ok (.invokevirtual 133, 3) := by decide +kernel
theorem dX12_isRough_16 : decode cX12_isRough 16 = .ok (.ireturn, 1) := by decide +kernel
theorem dX12_stuff_0 : decode cX12_stuff 0 = .ok (.aload_n 0, 1) := by decide +kernel
theorem dX12_stuff_1 : decode cX12_stuff 1 = .ok (.iconst 0, 1) := by decide +kernel
theorem dX12_stuff_2 : decode cX12_stuff 2 = .ok (.putfield 1, 3) := by decide +kernel
theorem dX12_stuff_5 : decode cX12_stuff 5 = .ok (.aload_n 0, 1) := by decide +kernel
theorem dX12_stuff_6 : decode cX12_stuff 6 = .ok (.iload_n 1, 1) := by decide +kernel
theorem dX12_stuff_7 : decode cX12_stuff 7 = .ok (.invokevirtual 137, 3) := by decide +kernel
theorem dX12_stuff_10 : decode cX12_stuff 10 = .ok (.ifCond .ne 5, 3) := by decide +kernel
theorem dX12_stuff_13 : decode cX12_stuff 13 = .ok (.iconst 0, 1) := by decide +kernel
theorem dX12_stuff_14 : decode cX12_stuff 14 = .ok (.ireturn, 1) := by decide +kernel
theorem dX12_stuff_15 : decode cX12_stuff 15 = .ok (.iconst 0, 1) := by decide +kernel
theorem dX12_stuff_16 : decode cX12_stuff 16 = .ok (.istore_n 2, 1) := by decide +kernel
theorem dX12_stuff_17 : decode cX12_stuff 17 = .ok (.iconst 0, 1) := by decide +kernel
theorem dX12_stuff_18 : decode cX12_stuff 18 = .ok (.istore_n 3, 1) := by decide +kernel
theorem dX12_stuff_19 : decode cX12_stuff 19 = .ok (.iload_n 3, 1) := by decide +kernel
theorem dX12_stuff_20 : decode cX12_stuff 20 = .ok (.sipush 216, 3) := by decide +kernel
theorem dX12_stuff_23 : decode cX12_stuff 23 = .ok (.if_icmp .ge 24, 3) := by decide +kernel
theorem dX12_stuff_26 : decode cX12_stuff 26 = .ok (.iload_n 2, 1) := by decide +kernel
theorem dX12_stuff_27 : decode cX12_stuff 27 = .ok (.aload_n 0, 1) := by decide +kernel
theorem dX12_stuff_28 : decode cX12_stuff 28 = .ok (.getfield 13, 3) := by decide +kernel
theorem dX12_stuff_31 : decode cX12_stuff 31 = .ok (.sipush 216, 3) := by decide +kernel
theorem dX12_stuff_34 : decode cX12_stuff 34 = .ok (.iload_n 1, 1) := by decide +kernel
theorem dX12_stuff_35 : decode cX12_stuff 35 = .ok (.imul, 1) := by decide +kernel
theorem dX12_stuff_36 : decode cX12_stuff 36 = .ok (.iload_n 3, 1) := by decide +kernel
theorem dX12_stuff_37 : decode cX12_stuff 37 = .ok (.iadd, 1) := by decide +kernel
theorem dX12_stuff_38 : decode cX12_stuff 38 = .ok (.iaload, 1) := by decide +kernel
theorem dX12_stuff_39 : decode cX12_stuff 39 = .ok (.iadd, 1) := by decide +kernel
theorem dX12_stuff_40 : decode cX12_stuff 40 = .ok (.istore_n 2, 1) := by decide +kernel
theorem dX12_stuff_41 : decode cX12_stuff 41 = .ok (.iinc 3 1, 3) := by decide +kernel
theorem dX12_stuff_44 : decode cX12_stuff 44 = .ok (.goto (-25), 3) := by decide +kernel
theorem dX12_stuff_47 : decode cX12_stuff 47 = .ok (.iload_n 2, 1) := by decide +kernel
theorem dX12_stuff_48 : decode cX12_stuff 48 = .ok (.ireturn, 1) := by decide +kernel
def F_X12_thrown (a0 : Nat) (h0 : PM) : Option (Int32 × PM) := gI h0 a0 13 0 fun x1 => some (x1, h0)
set_option maxRecDepth 100000 in
set_option maxHeartbeats 4000000 in
theorem S_X12_thrown {a0 : Nat} {h0 : PM} (r : Int32) (h' : PM) (hF : F_X12_thrown a0 h0 = some (r, h')) : CN yX12_thrown cX12_thrown 1 (some .int) 0 0 0 [.ref a0] h0 (some (.int r)) h' := by
  obtain ⟨X, eX⟩ : ∃ X, X = (r, h') := ⟨_, rfl⟩
  rw [← eX] at hF
  have e1 : r = X.1 := by rw [eX]
  have e2 : h' = X.2 := by rw [eX]
  rw [e1, e2]
  clear eX e1 e2
  unfold F_X12_thrown at hF
  refine CN_of (by decide) (fun ρ => Nat.le_of_ble_eq_true rfl) rfl ?_
  intro p l e s m args below meth c D cy base ρ hT C V hr hnm
  refine r_aload_n C dX12_thrown_0 rfl 0 rfl ?_
  refine k_gI C dX12_thrown_1 fd_X12_1 (by decide) hF (fun x1 hF => ?_)
  exact k_iret C dX12_thrown_4 hr (by decide) (by decide) hF
def F_X12_may (a0 : Nat) (a1 : Int32) (a2 : Int32) (h0 : PM) : Option (Int32 × PM) := jn (fun  (h1 : PM) => gI h1 a0 13 0 fun x2 => jn (fun (s3 : Int32) (h4 : PM) => rz s3 h4) fun k28 => if ¬ x2 = 0 then (k28 0 h1) else (k28 1 h1)) fun k16 => if ¬ a1 = 0 then (k16 h0) else (gI h0 a0 13 0 fun x5 => if ¬ x5 = 0 then (k16 h0) else (pI h0 a0 13 0 a2 fun h6 => k16 h6))
set_option maxRecDepth 100000 in
set_option maxHeartbeats 4000000 in
theorem S_X12_may {a0 : Nat} {a1 : Int32} {a2 : Int32} {h0 : PM} (r : Int32) (h' : PM) (hF : F_X12_may a0 a1 a2 h0 = some (r, h')) : CN yX12_may cX12_may 3 (some .boolean) 0 0 0 [.ref a0, .int a1, .int a2] h0 (some (.int r)) h' := by
  obtain ⟨X, eX⟩ : ∃ X, X = (r, h') := ⟨_, rfl⟩
  rw [← eX] at hF
  have e1 : r = X.1 := by rw [eX]
  have e2 : h' = X.2 := by rw [eX]
  rw [e1, e2]
  clear eX e1 e2
  unfold F_X12_may at hF
  refine CN_of (by decide) (fun ρ => Nat.le_of_ble_eq_true rfl) rfl ?_
  intro p l e s m args below meth c D cy base ρ hT C V hr hnm
  refine r_iload_n C dX12_may_0 rfl 1 rfl ?_
  obtain ⟨k16, ek16, hF⟩ := jn_some hF
  have Jk16 : ∀  (h1 : PM), k16 h1 = some X → WP p l e (rmN 0 0 0) s m args below meth c D cy base ρ h0 0 0 3 (MQ below (QR D cy base ρ h0 (some (.int X.1)) X.2) args s 0 0 (fun q => base ≤ q)) 16 [(0, .ref a0)] [] h1 := by
    intro h1 hF
    rw [ek16] at hF
    refine r_aload_n C dX12_may_16 rfl 0 rfl ?_
    refine k_gI C dX12_may_17 fd_X12_1 (by decide) hF (fun x2 hF => ?_)
    obtain ⟨k28, ek28, hF⟩ := jn_some hF
    have Jk28 : ∀ (s3 : Int32) (h4 : PM), k28 s3 h4 = some X → WP p l e (rmN 0 0 0) s m args below meth c D cy base ρ h0 0 0 3 (MQ below (QR D cy base ρ h0 (some (.int X.1)) X.2) args s 0 0 (fun q => base ≤ q)) 28 [] [.int s3] h4 := by
      intro s3 h4 hF
      rw [ek28] at hF
      exact k_zret C dX12_may_28 hr (by decide) (by decide) hF
    refine r_if_ne (tgt := 27) C dX12_may_20 (by decide) hF (fun hF => ?_) (fun hF => ?_)
    · refine r_iconst (v := 0) C dX12_may_27 (by decide) ?_
      exact r_sub [] rfl (Jk28 _ _ hF)
    · refine r_iconst (v := 1) C dX12_may_23 (by decide) ?_
      refine r_goto (tgt := 28) C dX12_may_24 (by decide) ?_
      exact r_sub [] rfl (Jk28 _ _ hF)
  refine r_if_ne (tgt := 16) C dX12_may_1 (by decide) hF (fun hF => ?_) (fun hF => ?_)
  · exact r_sub [0] rfl (Jk16  _ hF)
  · refine r_aload_n C dX12_may_4 rfl 0 rfl ?_
    refine k_gI C dX12_may_5 fd_X12_1 (by decide) hF (fun x5 hF => ?_)
    refine r_if_ne (tgt := 16) C dX12_may_8 (by decide) hF (fun hF => ?_) (fun hF => ?_)
    · exact r_sub [0] rfl (Jk16  _ hF)
    · refine r_aload_n C dX12_may_11 rfl 0 rfl ?_
      refine r_iload_n C dX12_may_12 rfl 2 rfl ?_
      refine k_pI C dX12_may_13 fd_X12_1 (fun z => by cases z) (by decide) hF (fun h6 hF => ?_)
      exact r_sub [0] rfl (Jk16  _ hF)
def F_X12_within (a0 : Int32) (a1 : Int32) (a2 : Int32) (h0 : PM) : Option (Int32 × PM) := jn (fun (s1 : Int32) (h2 : PM) => rz s1 h2) fun k15 => jn (fun  (h3 : PM) => k15 0 h3) fun k14 => if a0 < a1 then (k14 h0) else (if a2 < a0 then (k14 h0) else (k15 1 h0))
set_option maxRecDepth 100000 in
set_option maxHeartbeats 4000000 in
theorem S_X12_within {a0 : Int32} {a1 : Int32} {a2 : Int32} {h0 : PM} (r : Int32) (h' : PM) (hF : F_X12_within a0 a1 a2 h0 = some (r, h')) : CN yX12_within cX12_within 3 (some .boolean) 0 0 0 [.int a0, .int a1, .int a2] h0 (some (.int r)) h' := by
  obtain ⟨X, eX⟩ : ∃ X, X = (r, h') := ⟨_, rfl⟩
  rw [← eX] at hF
  have e1 : r = X.1 := by rw [eX]
  have e2 : h' = X.2 := by rw [eX]
  rw [e1, e2]
  clear eX e1 e2
  unfold F_X12_within at hF
  refine CN_of (by decide) (fun ρ => Nat.le_of_ble_eq_true rfl) rfl ?_
  intro p l e s m args below meth c D cy base ρ hT C V hr hnm
  refine r_iload_n C dX12_within_0 rfl 0 rfl ?_
  refine r_iload_n C dX12_within_1 rfl 1 rfl ?_
  obtain ⟨k15, ek15, hF⟩ := jn_some hF
  have Jk15 : ∀ (s1 : Int32) (h2 : PM), k15 s1 h2 = some X → WP p l e (rmN 0 0 0) s m args below meth c D cy base ρ h0 0 0 3 (MQ below (QR D cy base ρ h0 (some (.int X.1)) X.2) args s 0 0 (fun q => base ≤ q)) 15 [] [.int s1] h2 := by
    intro s1 h2 hF
    rw [ek15] at hF
    exact k_zret C dX12_within_15 hr (by decide) (by decide) hF
  obtain ⟨k14, ek14, hF⟩ := jn_some hF
  have Jk14 : ∀  (h3 : PM), k14 h3 = some X → WP p l e (rmN 0 0 0) s m args below meth c D cy base ρ h0 0 0 3 (MQ below (QR D cy base ρ h0 (some (.int X.1)) X.2) args s 0 0 (fun q => base ≤ q)) 14 [] [] h3 := by
    intro h3 hF
    rw [ek14] at hF
    refine r_iconst (v := 0) C dX12_within_14 (by decide) ?_
    exact Jk15 _ _ hF
  refine r_icmp_lt (tgt := 14) C dX12_within_2 (by decide) hF (fun hF => ?_) (fun hF => ?_)
  · exact r_sub [] rfl (Jk14  _ hF)
  · refine r_iload_n C dX12_within_5 rfl 0 rfl ?_
    refine r_iload_n C dX12_within_6 rfl 2 rfl ?_
    refine r_icmp_gt (tgt := 14) C dX12_within_7 (by decide) hF (fun hF => ?_) (fun hF => ?_)
    · exact r_sub [] rfl (Jk14  _ hF)
    · refine r_iconst (v := 1) C dX12_within_10 (by decide) ?_
      refine r_goto (tgt := 15) C dX12_within_11 (by decide) ?_
      exact r_sub [] rfl (Jk15 _ _ hF)
def F_X12_rough (a0 : Nat) (h0 : PM) : Option (Int32 × PM) := pI h0 a0 13 0 0 fun h1 => gI h1 a0 13 1 fun x2 => if ¬ x2 = 10 then (gI h1 a0 13 1 fun x3 => pI h1 a0 13 1 (x3 + 1) fun h4 => gI h4 a0 13 1 fun x5 => some (x5 - 1, h4)) else (some ((-1), h1))
set_option maxRecDepth 100000 in
set_option maxHeartbeats 4000000 in
theorem S_X12_rough {a0 : Nat} {h0 : PM} (r : Int32) (h' : PM) (hF : F_X12_rough a0 h0 = some (r, h')) : CN yX12_rough cX12_rough 1 (some .int) 0 0 0 [.ref a0] h0 (some (.int r)) h' := by
  obtain ⟨X, eX⟩ : ∃ X, X = (r, h') := ⟨_, rfl⟩
  rw [← eX] at hF
  have e1 : r = X.1 := by rw [eX]
  have e2 : h' = X.2 := by rw [eX]
  rw [e1, e2]
  clear eX e1 e2
  unfold F_X12_rough at hF
  refine CN_of (by decide) (fun ρ => Nat.le_of_ble_eq_true rfl) rfl ?_
  intro p l e s m args below meth c D cy base ρ hT C V hr hnm
  refine r_aload_n C dX12_rough_0 rfl 0 rfl ?_
  refine r_iconst (v := 0) C dX12_rough_1 (by decide) ?_
  refine k_pI C dX12_rough_2 fd_X12_1 (fun z => by cases z) (by decide) hF (fun h1 hF => ?_)
  refine r_aload_n C dX12_rough_5 rfl 0 rfl ?_
  refine k_gI C dX12_rough_6 fd_X12_126 (by decide) hF (fun x2 hF => ?_)
  refine r_bipush (v := 10) C dX12_rough_9 (by decide) ?_
  refine r_icmp_ne (tgt := 16) C dX12_rough_11 (by decide) hF (fun hF => ?_) (fun hF => ?_)
  · refine r_aload_n C dX12_rough_16 rfl 0 rfl ?_
    refine r_dup C dX12_rough_17 rfl ?_
    refine k_gI C dX12_rough_18 fd_X12_126 (by decide) hF (fun x3 hF => ?_)
    refine r_iconst (v := 1) C dX12_rough_21 (by decide) ?_
    refine r_iadd C dX12_rough_22 ?_
    refine k_pI C dX12_rough_23 fd_X12_126 (fun z => by cases z) (by decide) hF (fun h4 hF => ?_)
    refine r_aload_n C dX12_rough_26 rfl 0 rfl ?_
    refine k_gI C dX12_rough_27 fd_X12_126 (by decide) hF (fun x5 hF => ?_)
    refine r_iconst (v := 1) C dX12_rough_30 (by decide) ?_
    refine r_isub C dX12_rough_31 ?_
    exact k_iret C dX12_rough_32 hr (by decide) (by decide) hF
  · refine r_iconst (v := (-1)) C dX12_rough_14 (by decide) ?_
    exact k_iret C dX12_rough_15 hr (by decide) (by decide) hF
def F_X12_isRough (a0 : Nat) (a1 : Int32) (h0 : PM) : Option (Int32 × PM) := gI h0 a0 13 1 fun x1 => cl (F_X12_within a1 0 (x1 - 1) h0) fun r2 h3 => tst h3 a0 13 (cl (F_X12_may a0 r2 1 h3) fun r5 h6 => rz r5 h6)
set_option maxRecDepth 100000 in
set_option maxHeartbeats 4000000 in
theorem S_X12_isRough {a0 : Nat} {a1 : Int32} {h0 : PM} (r : Int32) (h' : PM) (hF : F_X12_isRough a0 a1 h0 = some (r, h')) : CN yX12_isRough cX12_isRough 2 (some .boolean) 0 0 1 [.ref a0, .int a1] h0 (some (.int r)) h' := by
  obtain ⟨X, eX⟩ : ∃ X, X = (r, h') := ⟨_, rfl⟩
  rw [← eX] at hF
  have e1 : r = X.1 := by rw [eX]
  have e2 : h' = X.2 := by rw [eX]
  rw [e1, e2]
  clear eX e1 e2
  unfold F_X12_isRough at hF
  refine CN_of (by decide) (fun ρ => Nat.le_of_ble_eq_true rfl) rfl ?_
  intro p l e s m args below meth c D cy base ρ hT C V hr hnm
  refine r_aload_n C dX12_isRough_0 rfl 0 rfl ?_
  refine r_iload_n C dX12_isRough_1 rfl 1 rfl ?_
  refine r_iconst (v := 0) C dX12_isRough_2 (by decide) ?_
  refine r_aload_n C dX12_isRough_3 rfl 0 rfl ?_
  refine k_gI C dX12_isRough_4 fd_X12_126 (by decide) hF (fun x1 hF => ?_)
  refine r_iconst (v := 1) C dX12_isRough_7 (by decide) ?_
  refine r_isub C dX12_isRough_8 ?_
  obtain ⟨r2, h3, hc4, hF⟩ := cl_some hF
  refine r_callS (As := [.int a1, .int 0, .int (x1 - 1)]) C dX12_isRough_9 V hT cal_X12_within ml_X12_129 sm_X12_within (by decide) rfl rfl (Nat.le_of_ble_eq_true rfl) (by decide) (by decide) (S_X12_within _ _ hc4) ?_
  refine r_iconst (v := 1) C dX12_isRough_12 (by decide) ?_
  obtain ⟨ht, hF⟩ := tst_some hF
  obtain ⟨r5, h6, hc7, hF⟩ := cl_some hF
  refine r_callV (As := [.int r2, .int 1]) C dX12_isRough_13 V hT cal_X12_may cls_13 ml_X12_133 im_X12_may se_X12_may ht (by decide) rfl rfl (Nat.le_of_ble_eq_true rfl) (by decide) (by decide) (S_X12_may _ _ hc7) ?_
  exact k_zret C dX12_isRough_16 hr (by decide) (by decide) hF
def F_X12_stuff_L19 (c0 : Nat) (c1 : Int32) (k47 : Int32 → PM → Option (Int32 × PM)) : Nat → Int32 → Int32 → PM → Option (Int32 × PM)
  | 0, _, _, _ => none
  | fu + 1, v7, v8, h9 => if 216 ≤ v8 then (k47 v7 h9) else (gR h9 c0 13 2 fun x10 => aI h9 x10 ((216 * c1) + v8) fun x11 => lt_ (v7 + x11) fun x12 => F_X12_stuff_L19 c0 c1 k47 fu x12 (v8 + 1) h9)
def F_X12_stuff (a0 : Nat) (a1 : Int32) (h0 : PM) : Option (Int32 × PM) := pI h0 a0 13 0 0 fun h1 => tst h1 a0 13 (cl (F_X12_isRough a0 a1 h1) fun r2 h3 => if ¬ r2 = 0 then (jn (fun (v5 : Int32) (h6 : PM) => some (v5, h6)) fun k47 => F_X12_stuff_L19 a0 a1 k47 LF 0 0 h3) else (some (0, h3)))
set_option maxRecDepth 100000 in
set_option maxHeartbeats 4000000 in
theorem S_X12_stuff {a0 : Nat} {a1 : Int32} {h0 : PM} (r : Int32) (h' : PM) (hF : F_X12_stuff a0 a1 h0 = some (r, h')) : CN yX12_stuff cX12_stuff 4 (some .int) 0 0 2 [.ref a0, .int a1] h0 (some (.int r)) h' := by
  obtain ⟨X, eX⟩ : ∃ X, X = (r, h') := ⟨_, rfl⟩
  rw [← eX] at hF
  have e1 : r = X.1 := by rw [eX]
  have e2 : h' = X.2 := by rw [eX]
  rw [e1, e2]
  clear eX e1 e2
  unfold F_X12_stuff at hF
  refine CN_of (by decide) (fun ρ => Nat.le_of_ble_eq_true rfl) rfl ?_
  intro p l e s m args below meth c D cy base ρ hT C V hr hnm
  refine r_aload_n C dX12_stuff_0 rfl 0 rfl ?_
  refine r_iconst (v := 0) C dX12_stuff_1 (by decide) ?_
  refine k_pI C dX12_stuff_2 fd_X12_1 (fun z => by cases z) (by decide) hF (fun h1 hF => ?_)
  refine r_aload_n C dX12_stuff_5 rfl 0 rfl ?_
  refine r_iload_n C dX12_stuff_6 rfl 1 rfl ?_
  obtain ⟨ht, hF⟩ := tst_some hF
  obtain ⟨r2, h3, hc4, hF⟩ := cl_some hF
  refine r_callV (As := [.int a1]) C dX12_stuff_7 V hT cal_X12_isRough cls_13 ml_X12_137 im_X12_isRough se_X12_isRough ht (by decide) rfl rfl (Nat.le_of_ble_eq_true rfl) (by decide) (by decide) (S_X12_isRough _ _ hc4) ?_
  refine r_if_ne (tgt := 15) C dX12_stuff_10 (by decide) hF (fun hF => ?_) (fun hF => ?_)
  · refine r_iconst (v := 0) C dX12_stuff_15 (by decide) ?_
    refine r_istore_n C dX12_stuff_16 rfl (by decide) rfl ?_
    refine r_iconst (v := 0) C dX12_stuff_17 (by decide) ?_
    refine r_istore_n C dX12_stuff_18 rfl (by decide) rfl ?_
    obtain ⟨k47, ek47, hF⟩ := jn_some hF
    have Jk47 : ∀ (v5 : Int32) (h6 : PM), k47 v5 h6 = some X → WP p l e (rmN 0 0 2) s m args below meth c D cy base ρ h0 0 0 4 (MQ below (QR D cy base ρ h0 (some (.int X.1)) X.2) args s 0 0 (fun q => base ≤ q)) 47 [(2, .int v5)] [] h6 := by
      intro v5 h6 hF
      rw [ek47] at hF
      refine r_iload_n C dX12_stuff_47 rfl 0 rfl ?_
      exact k_iret C dX12_stuff_48 hr (by decide) (by decide) hF
    have L19 : ∀ (fu : Nat) (v7 : Int32) (v8 : Int32) (h9 : PM), F_X12_stuff_L19 a0 a1 k47 fu v7 v8 h9 = some X → WP p l e (rmN 0 0 2) s m args below meth c D cy base ρ h0 0 0 4 (MQ below (QR D cy base ρ h0 (some (.int X.1)) X.2) args s 0 0 (fun q => base ≤ q)) 19 [(0, .ref a0), (1, .int a1), (2, .int v7), (3, .int v8)] [] h9 := by
      intro fu
      induction fu with
      | zero => intro v7 v8 h9 hF; rw [F_X12_stuff_L19.eq_1] at hF; cases hF
      | succ fu ih =>
        intro v7 v8 h9 hF
        rw [F_X12_stuff_L19.eq_2] at hF
        refine r_iload_n C dX12_stuff_19 rfl 3 rfl ?_
        refine r_sipush (v := 216) C dX12_stuff_20 (by decide) ?_
        refine r_icmp_ge (tgt := 47) C dX12_stuff_23 (by decide) hF (fun hF => ?_) (fun hF => ?_)
        · exact r_sub [2] rfl (Jk47 _ _ hF)
        · refine r_iload_n C dX12_stuff_26 rfl 2 rfl ?_
          refine r_aload_n C dX12_stuff_27 rfl 0 rfl ?_
          refine k_gR C dX12_stuff_28 fd_X12_13 (by decide) hF (fun x10 hF => ?_)
          refine r_sipush (v := 216) C dX12_stuff_31 (by decide) ?_
          refine r_iload_n C dX12_stuff_34 rfl 1 rfl ?_
          refine r_imul C dX12_stuff_35 ?_
          refine r_iload_n C dX12_stuff_36 rfl 3 rfl ?_
          refine r_iadd C dX12_stuff_37 ?_
          refine k_aI C dX12_stuff_38 hF (fun x11 hF => ?_)
          refine r_iadd C dX12_stuff_39 ?_
          refine k_lti hF (fun x12 hF => ?_)
          refine r_istore_n C dX12_stuff_40 rfl (by decide) rfl ?_
          refine r_iinc (v := v8 + 1) C dX12_stuff_41 3 rfl (congrArg (fun z => v8 + z) (by decide)) (by decide) rfl ?_
          refine r_goto (tgt := 19) C dX12_stuff_44 (by decide) ?_
          exact r_sub [2, 3, 1, 0] rfl (ih _ _ _ hF)
    exact r_sub [2, 3, 1, 0] rfl (L19 _ _ _ _ hF)
  · refine r_iconst (v := 0) C dX12_stuff_13 (by decide) ?_
    exact k_iret C dX12_stuff_14 hr (by decide) (by decide) hF
end
