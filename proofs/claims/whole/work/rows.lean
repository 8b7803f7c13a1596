section
-- ===== PART A: goes FIRST, ahead of the names: the tables' words, and 'selects' of the private methods out of them =====
/-- a private method of a class that the tables say can be made, by its rows of tables_1 -/
def lw_okq (q : MethodName × Nat) : Prop := (q.1.cls ≠ "java/lang/invoke/MethodHandle" ∧ q.1.cls ≠ "java/lang/invoke/VarHandle") ∧ Cond.instantiable q.1.cls q.2 ∈ tables_1 ∧ Cond.privateMethod q.1 ∈ tables_1 ∧ Cond.instanceMethod q.1 ∈ tables_1
theorem lw_p0 : lw_okq (⟨"GuineaHours", "found", "(I)I"⟩, 19) := ⟨⟨by decide +kernel, by decide +kernel⟩, List.mem_of_getElem? (i := 15) (by decide +kernel), List.mem_of_getElem? (i := 267) (by decide +kernel), List.mem_of_getElem? (i := 268) (by decide +kernel)⟩
theorem lw_p1 : lw_okq (⟨"GuineaHours", "makeRow", "(II)V"⟩, 19) := ⟨⟨by decide +kernel, by decide +kernel⟩, List.mem_of_getElem? (i := 15) (by decide +kernel), List.mem_of_getElem? (i := 271) (by decide +kernel), List.mem_of_getElem? (i := 272) (by decide +kernel)⟩
theorem lw_p2 : lw_okq (⟨"GuineaHours", "refusePlace", "(II)I"⟩, 19) := ⟨⟨by decide +kernel, by decide +kernel⟩, List.mem_of_getElem? (i := 15) (by decide +kernel), List.mem_of_getElem? (i := 279) (by decide +kernel), List.mem_of_getElem? (i := 280) (by decide +kernel)⟩
theorem lw_p3 : lw_okq (⟨"GuineaHours", "refuseRow", "(I)I"⟩, 19) := ⟨⟨by decide +kernel, by decide +kernel⟩, List.mem_of_getElem? (i := 15) (by decide +kernel), List.mem_of_getElem? (i := 283) (by decide +kernel), List.mem_of_getElem? (i := 284) (by decide +kernel)⟩
theorem lw_p4 : lw_okq (⟨"GuineaHours", "refuseText", "(I)I"⟩, 19) := ⟨⟨by decide +kernel, by decide +kernel⟩, List.mem_of_getElem? (i := 15) (by decide +kernel), List.mem_of_getElem? (i := 323) (by decide +kernel), List.mem_of_getElem? (i := 324) (by decide +kernel)⟩
theorem lw_p5 : lw_okq (⟨"GuineaHours$Town", "readPerson", "([BII)I"⟩, 6) := ⟨⟨by decide +kernel, by decide +kernel⟩, List.mem_of_getElem? (i := 27) (by decide +kernel), List.mem_of_getElem? (i := 341) (by decide +kernel), List.mem_of_getElem? (i := 342) (by decide +kernel)⟩
theorem lw_p6 : lw_okq (⟨"GuineaHours$Town", "fillTakers", "()V"⟩, 6) := ⟨⟨by decide +kernel, by decide +kernel⟩, List.mem_of_getElem? (i := 27) (by decide +kernel), List.mem_of_getElem? (i := 350) (by decide +kernel), List.mem_of_getElem? (i := 351) (by decide +kernel)⟩
theorem lw_p7 : lw_okq (⟨"GuineaHours$Town", "allows", "(III)Z"⟩, 6) := ⟨⟨by decide +kernel, by decide +kernel⟩, List.mem_of_getElem? (i := 27) (by decide +kernel), List.mem_of_getElem? (i := 354) (by decide +kernel), List.mem_of_getElem? (i := 355) (by decide +kernel)⟩
theorem lw_p8 : lw_okq (⟨"GuineaHours$Town", "countTogether", "(II)I"⟩, 6) := ⟨⟨by decide +kernel, by decide +kernel⟩, List.mem_of_getElem? (i := 27) (by decide +kernel), List.mem_of_getElem? (i := 378) (by decide +kernel), List.mem_of_getElem? (i := 379) (by decide +kernel)⟩
theorem lw_p9 : lw_okq (⟨"GuineaHours", "startTown", "()V"⟩, 19) := ⟨⟨by decide +kernel, by decide +kernel⟩, List.mem_of_getElem? (i := 15) (by decide +kernel), List.mem_of_getElem? (i := 386) (by decide +kernel), List.mem_of_getElem? (i := 387) (by decide +kernel)⟩
theorem lw_p10 : lw_okq (⟨"GuineaHours", "aboutPerson", "(II)I"⟩, 19) := ⟨⟨by decide +kernel, by decide +kernel⟩, List.mem_of_getElem? (i := 15) (by decide +kernel), List.mem_of_getElem? (i := 399) (by decide +kernel), List.mem_of_getElem? (i := 400) (by decide +kernel)⟩
theorem lw_p11 : lw_okq (⟨"GuineaHours", "openToday", "()I"⟩, 19) := ⟨⟨by decide +kernel, by decide +kernel⟩, List.mem_of_getElem? (i := 15) (by decide +kernel), List.mem_of_getElem? (i := 479) (by decide +kernel), List.mem_of_getElem? (i := 480) (by decide +kernel)⟩
theorem lw_p12 : lw_okq (⟨"GuineaHours$Walk", "barredIn", "(I)I"⟩, 11) := ⟨⟨by decide +kernel, by decide +kernel⟩, List.mem_of_getElem? (i := 116) (by decide +kernel), List.mem_of_getElem? (i := 508) (by decide +kernel), List.mem_of_getElem? (i := 509) (by decide +kernel)⟩
theorem lw_p13 : lw_okq (⟨"GuineaHours$Walk", "trim", "()V"⟩, 11) := ⟨⟨by decide +kernel, by decide +kernel⟩, List.mem_of_getElem? (i := 116) (by decide +kernel), List.mem_of_getElem? (i := 548) (by decide +kernel), List.mem_of_getElem? (i := 549) (by decide +kernel)⟩
theorem lw_p14 : lw_okq (⟨"GuineaHours$Walk", "rowsWith", "(I)I"⟩, 11) := ⟨⟨by decide +kernel, by decide +kernel⟩, List.mem_of_getElem? (i := 116) (by decide +kernel), List.mem_of_getElem? (i := 557) (by decide +kernel), List.mem_of_getElem? (i := 558) (by decide +kernel)⟩
theorem lw_p15 : lw_okq (⟨"GuineaHours$Walk", "rowsEnding", "(II)I"⟩, 11) := ⟨⟨by decide +kernel, by decide +kernel⟩, List.mem_of_getElem? (i := 116) (by decide +kernel), List.mem_of_getElem? (i := 565) (by decide +kernel), List.mem_of_getElem? (i := 566) (by decide +kernel)⟩
def lw_privs_1 : List (MethodName × Nat) := [(⟨"GuineaHours", "found", "(I)I"⟩, 19), (⟨"GuineaHours", "makeRow", "(II)V"⟩, 19), (⟨"GuineaHours", "refusePlace", "(II)I"⟩, 19), (⟨"GuineaHours", "refuseRow", "(I)I"⟩, 19), (⟨"GuineaHours", "refuseText", "(I)I"⟩, 19), (⟨"GuineaHours$Town", "readPerson", "([BII)I"⟩, 6), (⟨"GuineaHours$Town", "fillTakers", "()V"⟩, 6), (⟨"GuineaHours$Town", "allows", "(III)Z"⟩, 6), (⟨"GuineaHours$Town", "countTogether", "(II)I"⟩, 6), (⟨"GuineaHours", "startTown", "()V"⟩, 19), (⟨"GuineaHours", "aboutPerson", "(II)I"⟩, 19), (⟨"GuineaHours", "openToday", "()I"⟩, 19), (⟨"GuineaHours$Walk", "barredIn", "(I)I"⟩, 11), (⟨"GuineaHours$Walk", "trim", "()V"⟩, 11), (⟨"GuineaHours$Walk", "rowsWith", "(I)I"⟩, 11), (⟨"GuineaHours$Walk", "rowsEnding", "(II)I"⟩, 11)]
theorem lw_r1 : ∀ q ∈ lw_privs_1, lw_okq q := List.forall_mem_cons.mpr ⟨lw_p0, List.forall_mem_cons.mpr ⟨lw_p1, List.forall_mem_cons.mpr ⟨lw_p2, List.forall_mem_cons.mpr ⟨lw_p3, List.forall_mem_cons.mpr ⟨lw_p4, List.forall_mem_cons.mpr ⟨lw_p5, List.forall_mem_cons.mpr ⟨lw_p6, List.forall_mem_cons.mpr ⟨lw_p7, List.forall_mem_cons.mpr ⟨lw_p8, List.forall_mem_cons.mpr ⟨lw_p9, List.forall_mem_cons.mpr ⟨lw_p10, List.forall_mem_cons.mpr ⟨lw_p11, List.forall_mem_cons.mpr ⟨lw_p12, List.forall_mem_cons.mpr ⟨lw_p13, List.forall_mem_cons.mpr ⟨lw_p14, List.forall_mem_cons.mpr ⟨lw_p15, fun _ h => absurd h List.not_mem_nil⟩⟩⟩⟩⟩⟩⟩⟩⟩⟩⟩⟩⟩⟩⟩⟩
theorem lw_p16 : lw_okq (⟨"GuineaHours$Walk", "untake", "(I)V"⟩, 11) := ⟨⟨by decide +kernel, by decide +kernel⟩, List.mem_of_getElem? (i := 116) (by decide +kernel), List.mem_of_getElem? (i := 570) (by decide +kernel), List.mem_of_getElem? (i := 571) (by decide +kernel)⟩
theorem lw_p17 : lw_okq (⟨"GuineaHours$Walk", "tallyOf", "(II)I"⟩, 11) := ⟨⟨by decide +kernel, by decide +kernel⟩, List.mem_of_getElem? (i := 116) (by decide +kernel), List.mem_of_getElem? (i := 578) (by decide +kernel), List.mem_of_getElem? (i := 579) (by decide +kernel)⟩
theorem lw_p18 : lw_okq (⟨"GuineaHours", "judgeHands", "([I)I"⟩, 19) := ⟨⟨by decide +kernel, by decide +kernel⟩, List.mem_of_getElem? (i := 15) (by decide +kernel), List.mem_of_getElem? (i := 602) (by decide +kernel), List.mem_of_getElem? (i := 603) (by decide +kernel)⟩
theorem lw_p19 : lw_okq (⟨"GuineaHours", "countWays", "(II)I"⟩, 19) := ⟨⟨by decide +kernel, by decide +kernel⟩, List.mem_of_getElem? (i := 15) (by decide +kernel), List.mem_of_getElem? (i := 615) (by decide +kernel), List.mem_of_getElem? (i := 616) (by decide +kernel)⟩
theorem lw_p20 : lw_okq (⟨"GuineaHours", "findWay", "(III)Z"⟩, 19) := ⟨⟨by decide +kernel, by decide +kernel⟩, List.mem_of_getElem? (i := 15) (by decide +kernel), List.mem_of_getElem? (i := 631) (by decide +kernel), List.mem_of_getElem? (i := 632) (by decide +kernel)⟩
theorem lw_p21 : lw_okq (⟨"GuineaHours$Values", "valueByGiving", "(II)I"⟩, 2) := ⟨⟨by decide +kernel, by decide +kernel⟩, List.mem_of_getElem? (i := 159) (by decide +kernel), List.mem_of_getElem? (i := 664) (by decide +kernel), List.mem_of_getElem? (i := 665) (by decide +kernel)⟩
theorem lw_p22 : lw_okq (⟨"GuineaHours", "areShares", "([I)Z"⟩, 19) := ⟨⟨by decide +kernel, by decide +kernel⟩, List.mem_of_getElem? (i := 15) (by decide +kernel), List.mem_of_getElem? (i := 702) (by decide +kernel), List.mem_of_getElem? (i := 703) (by decide +kernel)⟩
theorem lw_p23 : lw_okq (⟨"GuineaHours", "shareOf", "([II)I"⟩, 19) := ⟨⟨by decide +kernel, by decide +kernel⟩, List.mem_of_getElem? (i := 15) (by decide +kernel), List.mem_of_getElem? (i := 706) (by decide +kernel), List.mem_of_getElem? (i := 707) (by decide +kernel)⟩
theorem lw_p24 : lw_okq (⟨"GuineaHours", "seekPast", "()V"⟩, 19) := ⟨⟨by decide +kernel, by decide +kernel⟩, List.mem_of_getElem? (i := 15) (by decide +kernel), List.mem_of_getElem? (i := 726) (by decide +kernel), List.mem_of_getElem? (i := 727) (by decide +kernel)⟩
theorem lw_p25 : lw_okq (⟨"GuineaHours", "refusePast", "(I)I"⟩, 19) := ⟨⟨by decide +kernel, by decide +kernel⟩, List.mem_of_getElem? (i := 15) (by decide +kernel), List.mem_of_getElem? (i := 734) (by decide +kernel), List.mem_of_getElem? (i := 735) (by decide +kernel)⟩
theorem lw_p26 : lw_okq (⟨"GuineaHours$Chances", "shareByGiving", "(III)J"⟩, 2) := ⟨⟨by decide +kernel, by decide +kernel⟩, List.mem_of_getElem? (i := 172) (by decide +kernel), List.mem_of_getElem? (i := 755) (by decide +kernel), List.mem_of_getElem? (i := 756) (by decide +kernel)⟩
theorem lw_p27 : lw_okq (⟨"GuineaHours", "tellFraction", "(JJ)V"⟩, 19) := ⟨⟨by decide +kernel, by decide +kernel⟩, List.mem_of_getElem? (i := 15) (by decide +kernel), List.mem_of_getElem? (i := 774) (by decide +kernel), List.mem_of_getElem? (i := 775) (by decide +kernel)⟩
theorem lw_p28 : lw_okq (⟨"GuineaHours$Pairs", "takersFromOthers", "(LGuineaHours$Town;II)I"⟩, 2) := ⟨⟨by decide +kernel, by decide +kernel⟩, List.mem_of_getElem? (i := 186) (by decide +kernel), List.mem_of_getElem? (i := 804) (by decide +kernel), List.mem_of_getElem? (i := 805) (by decide +kernel)⟩
theorem lw_p29 : lw_okq (⟨"GuineaHours$Pairs", "addPairs", "(II)V"⟩, 2) := ⟨⟨by decide +kernel, by decide +kernel⟩, List.mem_of_getElem? (i := 186) (by decide +kernel), List.mem_of_getElem? (i := 809) (by decide +kernel), List.mem_of_getElem? (i := 810) (by decide +kernel)⟩
theorem lw_p30 : lw_okq (⟨"GuineaHours", "countKept", "()I"⟩, 19) := ⟨⟨by decide +kernel, by decide +kernel⟩, List.mem_of_getElem? (i := 15) (by decide +kernel), List.mem_of_getElem? (i := 839) (by decide +kernel), List.mem_of_getElem? (i := 840) (by decide +kernel)⟩
theorem lw_p31 : lw_okq (⟨"GuineaHours", "digestPeople", "(J)J"⟩, 19) := ⟨⟨by decide +kernel, by decide +kernel⟩, List.mem_of_getElem? (i := 15) (by decide +kernel), List.mem_of_getElem? (i := 861) (by decide +kernel), List.mem_of_getElem? (i := 862) (by decide +kernel)⟩
def lw_privs_2 : List (MethodName × Nat) := [(⟨"GuineaHours$Walk", "untake", "(I)V"⟩, 11), (⟨"GuineaHours$Walk", "tallyOf", "(II)I"⟩, 11), (⟨"GuineaHours", "judgeHands", "([I)I"⟩, 19), (⟨"GuineaHours", "countWays", "(II)I"⟩, 19), (⟨"GuineaHours", "findWay", "(III)Z"⟩, 19), (⟨"GuineaHours$Values", "valueByGiving", "(II)I"⟩, 2), (⟨"GuineaHours", "areShares", "([I)Z"⟩, 19), (⟨"GuineaHours", "shareOf", "([II)I"⟩, 19), (⟨"GuineaHours", "seekPast", "()V"⟩, 19), (⟨"GuineaHours", "refusePast", "(I)I"⟩, 19), (⟨"GuineaHours$Chances", "shareByGiving", "(III)J"⟩, 2), (⟨"GuineaHours", "tellFraction", "(JJ)V"⟩, 19), (⟨"GuineaHours$Pairs", "takersFromOthers", "(LGuineaHours$Town;II)I"⟩, 2), (⟨"GuineaHours$Pairs", "addPairs", "(II)V"⟩, 2), (⟨"GuineaHours", "countKept", "()I"⟩, 19), (⟨"GuineaHours", "digestPeople", "(J)J"⟩, 19)]
theorem lw_r2 : ∀ q ∈ lw_privs_2, lw_okq q := List.forall_mem_cons.mpr ⟨lw_p16, List.forall_mem_cons.mpr ⟨lw_p17, List.forall_mem_cons.mpr ⟨lw_p18, List.forall_mem_cons.mpr ⟨lw_p19, List.forall_mem_cons.mpr ⟨lw_p20, List.forall_mem_cons.mpr ⟨lw_p21, List.forall_mem_cons.mpr ⟨lw_p22, List.forall_mem_cons.mpr ⟨lw_p23, List.forall_mem_cons.mpr ⟨lw_p24, List.forall_mem_cons.mpr ⟨lw_p25, List.forall_mem_cons.mpr ⟨lw_p26, List.forall_mem_cons.mpr ⟨lw_p27, List.forall_mem_cons.mpr ⟨lw_p28, List.forall_mem_cons.mpr ⟨lw_p29, List.forall_mem_cons.mpr ⟨lw_p30, List.forall_mem_cons.mpr ⟨lw_p31, fun _ h => absurd h List.not_mem_nil⟩⟩⟩⟩⟩⟩⟩⟩⟩⟩⟩⟩⟩⟩⟩⟩
theorem lw_p32 : lw_okq (⟨"GuineaHours", "digestRows", "(J)J"⟩, 19) := ⟨⟨by decide +kernel, by decide +kernel⟩, List.mem_of_getElem? (i := 15) (by decide +kernel), List.mem_of_getElem? (i := 865) (by decide +kernel), List.mem_of_getElem? (i := 866) (by decide +kernel)⟩
theorem lw_p33 : lw_okq (⟨"GuineaHours", "digestTexts", "(J)J"⟩, 19) := ⟨⟨by decide +kernel, by decide +kernel⟩, List.mem_of_getElem? (i := 15) (by decide +kernel), List.mem_of_getElem? (i := 869) (by decide +kernel), List.mem_of_getElem? (i := 870) (by decide +kernel)⟩
theorem lw_p34 : lw_okq (⟨"GuineaHoursModel", "meet", "(I)I"⟩, 34) := ⟨⟨by decide +kernel, by decide +kernel⟩, List.mem_of_getElem? (i := 873) (by decide +kernel), List.mem_of_getElem? (i := 992) (by decide +kernel), List.mem_of_getElem? (i := 993) (by decide +kernel)⟩
theorem lw_p35 : lw_okq (⟨"GuineaHoursModel", "setRow", "(III)V"⟩, 34) := ⟨⟨by decide +kernel, by decide +kernel⟩, List.mem_of_getElem? (i := 873) (by decide +kernel), List.mem_of_getElem? (i := 996) (by decide +kernel), List.mem_of_getElem? (i := 997) (by decide +kernel)⟩
theorem lw_p36 : lw_okq (⟨"GuineaHoursModel", "askedRow", "(I)I"⟩, 34) := ⟨⟨by decide +kernel, by decide +kernel⟩, List.mem_of_getElem? (i := 873) (by decide +kernel), List.mem_of_getElem? (i := 1004) (by decide +kernel), List.mem_of_getElem? (i := 1005) (by decide +kernel)⟩
theorem lw_p37 : lw_okq (⟨"GuineaHoursModel", "rowAt", "(II)I"⟩, 34) := ⟨⟨by decide +kernel, by decide +kernel⟩, List.mem_of_getElem? (i := 873) (by decide +kernel), List.mem_of_getElem? (i := 1008) (by decide +kernel), List.mem_of_getElem? (i := 1009) (by decide +kernel)⟩
theorem lw_p38 : lw_okq (⟨"GuineaHoursModel", "say", "(II)I"⟩, 34) := ⟨⟨by decide +kernel, by decide +kernel⟩, List.mem_of_getElem? (i := 873) (by decide +kernel), List.mem_of_getElem? (i := 1012) (by decide +kernel), List.mem_of_getElem? (i := 1013) (by decide +kernel)⟩
theorem lw_p39 : lw_okq (⟨"GuineaHoursModel", "askedText", "(I)I"⟩, 34) := ⟨⟨by decide +kernel, by decide +kernel⟩, List.mem_of_getElem? (i := 873) (by decide +kernel), List.mem_of_getElem? (i := 1044) (by decide +kernel), List.mem_of_getElem? (i := 1045) (by decide +kernel)⟩
theorem lw_p40 : lw_okq (⟨"GuineaHoursModel", "goesOn", "(I)I"⟩, 34) := ⟨⟨by decide +kernel, by decide +kernel⟩, List.mem_of_getElem? (i := 873) (by decide +kernel), List.mem_of_getElem? (i := 1052) (by decide +kernel), List.mem_of_getElem? (i := 1053) (by decide +kernel)⟩
theorem lw_p41 : lw_okq (⟨"GuineaHoursModel", "here", "(I)I"⟩, 34) := ⟨⟨by decide +kernel, by decide +kernel⟩, List.mem_of_getElem? (i := 873) (by decide +kernel), List.mem_of_getElem? (i := 1056) (by decide +kernel), List.mem_of_getElem? (i := 1057) (by decide +kernel)⟩
theorem lw_p42 : lw_okq (⟨"GuineaHoursModel", "readsHead", "(I)Z"⟩, 34) := ⟨⟨by decide +kernel, by decide +kernel⟩, List.mem_of_getElem? (i := 873) (by decide +kernel), List.mem_of_getElem? (i := 1060) (by decide +kernel), List.mem_of_getElem? (i := 1061) (by decide +kernel)⟩
theorem lw_p43 : lw_okq (⟨"GuineaHoursModel", "readsPerson", "(I)Z"⟩, 34) := ⟨⟨by decide +kernel, by decide +kernel⟩, List.mem_of_getElem? (i := 873) (by decide +kernel), List.mem_of_getElem? (i := 1064) (by decide +kernel), List.mem_of_getElem? (i := 1065) (by decide +kernel)⟩
theorem lw_p44 : lw_okq (⟨"GuineaHoursModel", "isOne", "(I)Z"⟩, 34) := ⟨⟨by decide +kernel, by decide +kernel⟩, List.mem_of_getElem? (i := 873) (by decide +kernel), List.mem_of_getElem? (i := 1079) (by decide +kernel), List.mem_of_getElem? (i := 1080) (by decide +kernel)⟩
theorem lw_p45 : lw_okq (⟨"GuineaHoursModel", "personOf", "(II)I"⟩, 34) := ⟨⟨by decide +kernel, by decide +kernel⟩, List.mem_of_getElem? (i := 873) (by decide +kernel), List.mem_of_getElem? (i := 1083) (by decide +kernel), List.mem_of_getElem? (i := 1084) (by decide +kernel)⟩
theorem lw_p46 : lw_okq (⟨"GuineaHoursModel", "mostOf", "(I)I"⟩, 34) := ⟨⟨by decide +kernel, by decide +kernel⟩, List.mem_of_getElem? (i := 873) (by decide +kernel), List.mem_of_getElem? (i := 1087) (by decide +kernel), List.mem_of_getElem? (i := 1088) (by decide +kernel)⟩
theorem lw_p47 : lw_okq (⟨"GuineaHoursModel", "of", "(II)I"⟩, 34) := ⟨⟨by decide +kernel, by decide +kernel⟩, List.mem_of_getElem? (i := 873) (by decide +kernel), List.mem_of_getElem? (i := 1091) (by decide +kernel), List.mem_of_getElem? (i := 1092) (by decide +kernel)⟩
def lw_privs_3 : List (MethodName × Nat) := [(⟨"GuineaHours", "digestRows", "(J)J"⟩, 19), (⟨"GuineaHours", "digestTexts", "(J)J"⟩, 19), (⟨"GuineaHoursModel", "meet", "(I)I"⟩, 34), (⟨"GuineaHoursModel", "setRow", "(III)V"⟩, 34), (⟨"GuineaHoursModel", "askedRow", "(I)I"⟩, 34), (⟨"GuineaHoursModel", "rowAt", "(II)I"⟩, 34), (⟨"GuineaHoursModel", "say", "(II)I"⟩, 34), (⟨"GuineaHoursModel", "askedText", "(I)I"⟩, 34), (⟨"GuineaHoursModel", "goesOn", "(I)I"⟩, 34), (⟨"GuineaHoursModel", "here", "(I)I"⟩, 34), (⟨"GuineaHoursModel", "readsHead", "(I)Z"⟩, 34), (⟨"GuineaHoursModel", "readsPerson", "(I)Z"⟩, 34), (⟨"GuineaHoursModel", "isOne", "(I)Z"⟩, 34), (⟨"GuineaHoursModel", "personOf", "(II)I"⟩, 34), (⟨"GuineaHoursModel", "mostOf", "(I)I"⟩, 34), (⟨"GuineaHoursModel", "of", "(II)I"⟩, 34)]
theorem lw_r3 : ∀ q ∈ lw_privs_3, lw_okq q := List.forall_mem_cons.mpr ⟨lw_p32, List.forall_mem_cons.mpr ⟨lw_p33, List.forall_mem_cons.mpr ⟨lw_p34, List.forall_mem_cons.mpr ⟨lw_p35, List.forall_mem_cons.mpr ⟨lw_p36, List.forall_mem_cons.mpr ⟨lw_p37, List.forall_mem_cons.mpr ⟨lw_p38, List.forall_mem_cons.mpr ⟨lw_p39, List.forall_mem_cons.mpr ⟨lw_p40, List.forall_mem_cons.mpr ⟨lw_p41, List.forall_mem_cons.mpr ⟨lw_p42, List.forall_mem_cons.mpr ⟨lw_p43, List.forall_mem_cons.mpr ⟨lw_p44, List.forall_mem_cons.mpr ⟨lw_p45, List.forall_mem_cons.mpr ⟨lw_p46, List.forall_mem_cons.mpr ⟨lw_p47, fun _ h => absurd h List.not_mem_nil⟩⟩⟩⟩⟩⟩⟩⟩⟩⟩⟩⟩⟩⟩⟩⟩
theorem lw_p48 : lw_okq (⟨"GuineaHoursModel", "isHour", "(I)Z"⟩, 34) := ⟨⟨by decide +kernel, by decide +kernel⟩, List.mem_of_getElem? (i := 873) (by decide +kernel), List.mem_of_getElem? (i := 1099) (by decide +kernel), List.mem_of_getElem? (i := 1100) (by decide +kernel)⟩
theorem lw_p49 : lw_okq (⟨"GuineaHoursModel", "placeOf", "(II)I"⟩, 34) := ⟨⟨by decide +kernel, by decide +kernel⟩, List.mem_of_getElem? (i := 873) (by decide +kernel), List.mem_of_getElem? (i := 1103) (by decide +kernel), List.mem_of_getElem? (i := 1104) (by decide +kernel)⟩
theorem lw_p50 : lw_okq (⟨"GuineaHoursModel", "isA", "(II)Z"⟩, 34) := ⟨⟨by decide +kernel, by decide +kernel⟩, List.mem_of_getElem? (i := 873) (by decide +kernel), List.mem_of_getElem? (i := 1111) (by decide +kernel), List.mem_of_getElem? (i := 1112) (by decide +kernel)⟩
theorem lw_p51 : lw_okq (⟨"GuineaHoursModel", "others", "(II)I"⟩, 34) := ⟨⟨by decide +kernel, by decide +kernel⟩, List.mem_of_getElem? (i := 873) (by decide +kernel), List.mem_of_getElem? (i := 1115) (by decide +kernel), List.mem_of_getElem? (i := 1116) (by decide +kernel)⟩
theorem lw_p52 : lw_okq (⟨"GuineaHoursModel", "mays", "(II)I"⟩, 34) := ⟨⟨by decide +kernel, by decide +kernel⟩, List.mem_of_getElem? (i := 873) (by decide +kernel), List.mem_of_getElem? (i := 1131) (by decide +kernel), List.mem_of_getElem? (i := 1132) (by decide +kernel)⟩
theorem lw_p53 : lw_okq (⟨"GuineaHoursModel", "mayGive", "(III)Z"⟩, 34) := ⟨⟨by decide +kernel, by decide +kernel⟩, List.mem_of_getElem? (i := 873) (by decide +kernel), List.mem_of_getElem? (i := 1135) (by decide +kernel), List.mem_of_getElem? (i := 1136) (by decide +kernel)⟩
theorem lw_p54 : lw_okq (⟨"GuineaHoursModel", "against", "(II)I"⟩, 34) := ⟨⟨by decide +kernel, by decide +kernel⟩, List.mem_of_getElem? (i := 873) (by decide +kernel), List.mem_of_getElem? (i := 1150) (by decide +kernel), List.mem_of_getElem? (i := 1151) (by decide +kernel)⟩
theorem lw_p55 : lw_okq (⟨"GuineaHoursModel", "oftenIn", "(II)I"⟩, 34) := ⟨⟨by decide +kernel, by decide +kernel⟩, List.mem_of_getElem? (i := 873) (by decide +kernel), List.mem_of_getElem? (i := 1154) (by decide +kernel), List.mem_of_getElem? (i := 1155) (by decide +kernel)⟩
theorem lw_p56 : lw_okq (⟨"GuineaHoursModel", "canNow", "()I"⟩, 34) := ⟨⟨by decide +kernel, by decide +kernel⟩, List.mem_of_getElem? (i := 873) (by decide +kernel), List.mem_of_getElem? (i := 1174) (by decide +kernel), List.mem_of_getElem? (i := 1175) (by decide +kernel)⟩
theorem lw_p57 : lw_okq (⟨"GuineaHoursModel", "putAside", "()V"⟩, 34) := ⟨⟨by decide +kernel, by decide +kernel⟩, List.mem_of_getElem? (i := 873) (by decide +kernel), List.mem_of_getElem? (i := 1182) (by decide +kernel), List.mem_of_getElem? (i := 1183) (by decide +kernel)⟩
theorem lw_p58 : lw_okq (⟨"GuineaHoursModel", "wipeRows", "(I)V"⟩, 34) := ⟨⟨by decide +kernel, by decide +kernel⟩, List.mem_of_getElem? (i := 873) (by decide +kernel), List.mem_of_getElem? (i := 1186) (by decide +kernel), List.mem_of_getElem? (i := 1187) (by decide +kernel)⟩
theorem lw_p59 : lw_okq (⟨"GuineaHoursModel", "rowsOn", "(IZ)V"⟩, 34) := ⟨⟨by decide +kernel, by decide +kernel⟩, List.mem_of_getElem? (i := 873) (by decide +kernel), List.mem_of_getElem? (i := 1190) (by decide +kernel), List.mem_of_getElem? (i := 1191) (by decide +kernel)⟩
theorem lw_p60 : lw_okq (⟨"GuineaHoursModel", "fitsSight", "(I)Z"⟩, 34) := ⟨⟨by decide +kernel, by decide +kernel⟩, List.mem_of_getElem? (i := 873) (by decide +kernel), List.mem_of_getElem? (i := 1194) (by decide +kernel), List.mem_of_getElem? (i := 1195) (by decide +kernel)⟩
theorem lw_p61 : lw_okq (⟨"GuineaHoursModel", "meetRow", "()V"⟩, 34) := ⟨⟨by decide +kernel, by decide +kernel⟩, List.mem_of_getElem? (i := 873) (by decide +kernel), List.mem_of_getElem? (i := 1198) (by decide +kernel), List.mem_of_getElem? (i := 1199) (by decide +kernel)⟩
theorem lw_p62 : lw_okq (⟨"GuineaHoursModel", "comeBack", "()V"⟩, 34) := ⟨⟨by decide +kernel, by decide +kernel⟩, List.mem_of_getElem? (i := 873) (by decide +kernel), List.mem_of_getElem? (i := 1202) (by decide +kernel), List.mem_of_getElem? (i := 1203) (by decide +kernel)⟩
theorem lw_p63 : lw_okq (⟨"GuineaHoursModel", "areTwo", "(II)Z"⟩, 34) := ⟨⟨by decide +kernel, by decide +kernel⟩, List.mem_of_getElem? (i := 873) (by decide +kernel), List.mem_of_getElem? (i := 1222) (by decide +kernel), List.mem_of_getElem? (i := 1223) (by decide +kernel)⟩
def lw_privs_4 : List (MethodName × Nat) := [(⟨"GuineaHoursModel", "isHour", "(I)Z"⟩, 34), (⟨"GuineaHoursModel", "placeOf", "(II)I"⟩, 34), (⟨"GuineaHoursModel", "isA", "(II)Z"⟩, 34), (⟨"GuineaHoursModel", "others", "(II)I"⟩, 34), (⟨"GuineaHoursModel", "mays", "(II)I"⟩, 34), (⟨"GuineaHoursModel", "mayGive", "(III)Z"⟩, 34), (⟨"GuineaHoursModel", "against", "(II)I"⟩, 34), (⟨"GuineaHoursModel", "oftenIn", "(II)I"⟩, 34), (⟨"GuineaHoursModel", "canNow", "()I"⟩, 34), (⟨"GuineaHoursModel", "putAside", "()V"⟩, 34), (⟨"GuineaHoursModel", "wipeRows", "(I)V"⟩, 34), (⟨"GuineaHoursModel", "rowsOn", "(IZ)V"⟩, 34), (⟨"GuineaHoursModel", "fitsSight", "(I)Z"⟩, 34), (⟨"GuineaHoursModel", "meetRow", "()V"⟩, 34), (⟨"GuineaHoursModel", "comeBack", "()V"⟩, 34), (⟨"GuineaHoursModel", "areTwo", "(II)Z"⟩, 34)]
theorem lw_r4 : ∀ q ∈ lw_privs_4, lw_okq q := List.forall_mem_cons.mpr ⟨lw_p48, List.forall_mem_cons.mpr ⟨lw_p49, List.forall_mem_cons.mpr ⟨lw_p50, List.forall_mem_cons.mpr ⟨lw_p51, List.forall_mem_cons.mpr ⟨lw_p52, List.forall_mem_cons.mpr ⟨lw_p53, List.forall_mem_cons.mpr ⟨lw_p54, List.forall_mem_cons.mpr ⟨lw_p55, List.forall_mem_cons.mpr ⟨lw_p56, List.forall_mem_cons.mpr ⟨lw_p57, List.forall_mem_cons.mpr ⟨lw_p58, List.forall_mem_cons.mpr ⟨lw_p59, List.forall_mem_cons.mpr ⟨lw_p60, List.forall_mem_cons.mpr ⟨lw_p61, List.forall_mem_cons.mpr ⟨lw_p62, List.forall_mem_cons.mpr ⟨lw_p63, fun _ h => absurd h List.not_mem_nil⟩⟩⟩⟩⟩⟩⟩⟩⟩⟩⟩⟩⟩⟩⟩⟩
theorem lw_p64 : lw_okq (⟨"GuineaHoursModel", "setRows", "(II)V"⟩, 34) := ⟨⟨by decide +kernel, by decide +kernel⟩, List.mem_of_getElem? (i := 873) (by decide +kernel), List.mem_of_getElem? (i := 1226) (by decide +kernel), List.mem_of_getElem? (i := 1227) (by decide +kernel)⟩
theorem lw_p65 : lw_okq (⟨"GuineaHoursModel", "isTime", "(I)Z"⟩, 34) := ⟨⟨by decide +kernel, by decide +kernel⟩, List.mem_of_getElem? (i := 873) (by decide +kernel), List.mem_of_getElem? (i := 1247) (by decide +kernel), List.mem_of_getElem? (i := 1248) (by decide +kernel)⟩
theorem lw_p66 : lw_okq (⟨"GuineaHoursModel", "worthOf", "(II)I"⟩, 34) := ⟨⟨by decide +kernel, by decide +kernel⟩, List.mem_of_getElem? (i := 873) (by decide +kernel), List.mem_of_getElem? (i := 1251) (by decide +kernel), List.mem_of_getElem? (i := 1252) (by decide +kernel)⟩
theorem lw_p67 : lw_okq (⟨"GuineaHoursModel", "isSet", "(I)Z"⟩, 34) := ⟨⟨by decide +kernel, by decide +kernel⟩, List.mem_of_getElem? (i := 873) (by decide +kernel), List.mem_of_getElem? (i := 1263) (by decide +kernel), List.mem_of_getElem? (i := 1264) (by decide +kernel)⟩
theorem lw_p68 : lw_okq (⟨"GuineaHoursModel", "keepsOf", "(II)I"⟩, 34) := ⟨⟨by decide +kernel, by decide +kernel⟩, List.mem_of_getElem? (i := 873) (by decide +kernel), List.mem_of_getElem? (i := 1267) (by decide +kernel), List.mem_of_getElem? (i := 1268) (by decide +kernel)⟩
theorem lw_p69 : lw_okq (⟨"GuineaHoursModel", "longOf", "(III)I"⟩, 34) := ⟨⟨by decide +kernel, by decide +kernel⟩, List.mem_of_getElem? (i := 873) (by decide +kernel), List.mem_of_getElem? (i := 1274) (by decide +kernel), List.mem_of_getElem? (i := 1275) (by decide +kernel)⟩
theorem lw_p70 : lw_okq (⟨"GuineaHoursModel", "setFits", "()V"⟩, 34) := ⟨⟨by decide +kernel, by decide +kernel⟩, List.mem_of_getElem? (i := 873) (by decide +kernel), List.mem_of_getElem? (i := 1298) (by decide +kernel), List.mem_of_getElem? (i := 1299) (by decide +kernel)⟩
theorem lw_p71 : lw_okq (⟨"GuineaHoursModel", "askedFits", "(I)I"⟩, 34) := ⟨⟨by decide +kernel, by decide +kernel⟩, List.mem_of_getElem? (i := 873) (by decide +kernel), List.mem_of_getElem? (i := 1306) (by decide +kernel), List.mem_of_getElem? (i := 1307) (by decide +kernel)⟩
theorem lw_p72 : lw_okq (⟨"GuineaHoursModel", "chanceOf", "(III)J"⟩, 34) := ⟨⟨by decide +kernel, by decide +kernel⟩, List.mem_of_getElem? (i := 873) (by decide +kernel), List.mem_of_getElem? (i := 1318) (by decide +kernel), List.mem_of_getElem? (i := 1319) (by decide +kernel)⟩
theorem lw_p73 : lw_okq (⟨"GuineaHoursModel", "wholeFrom", "(I)J"⟩, 34) := ⟨⟨by decide +kernel, by decide +kernel⟩, List.mem_of_getElem? (i := 873) (by decide +kernel), List.mem_of_getElem? (i := 1322) (by decide +kernel), List.mem_of_getElem? (i := 1323) (by decide +kernel)⟩
theorem lw_p74 : lw_okq (⟨"GuineaHoursModel", "part", "(JJI)I"⟩, 34) := ⟨⟨by decide +kernel, by decide +kernel⟩, List.mem_of_getElem? (i := 873) (by decide +kernel), List.mem_of_getElem? (i := 1327) (by decide +kernel), List.mem_of_getElem? (i := 1328) (by decide +kernel)⟩
theorem lw_p75 : lw_okq (⟨"GuineaHoursModel", "twoOf", "(III)I"⟩, 34) := ⟨⟨by decide +kernel, by decide +kernel⟩, List.mem_of_getElem? (i := 873) (by decide +kernel), List.mem_of_getElem? (i := 1344) (by decide +kernel), List.mem_of_getElem? (i := 1345) (by decide +kernel)⟩
theorem lw_p76 : lw_okq (⟨"GuineaHoursModel", "counts", "(I)I"⟩, 34) := ⟨⟨by decide +kernel, by decide +kernel⟩, List.mem_of_getElem? (i := 873) (by decide +kernel), List.mem_of_getElem? (i := 1371) (by decide +kernel), List.mem_of_getElem? (i := 1372) (by decide +kernel)⟩
theorem lw_p77 : lw_okq (⟨"GuineaHoursModel", "mix", "(I)V"⟩, 34) := ⟨⟨by decide +kernel, by decide +kernel⟩, List.mem_of_getElem? (i := 873) (by decide +kernel), List.mem_of_getElem? (i := 1388) (by decide +kernel), List.mem_of_getElem? (i := 1389) (by decide +kernel)⟩
theorem lw_p78 : lw_okq (⟨"GuineaHoursModel", "mixTown", "()V"⟩, 34) := ⟨⟨by decide +kernel, by decide +kernel⟩, List.mem_of_getElem? (i := 873) (by decide +kernel), List.mem_of_getElem? (i := 1393) (by decide +kernel), List.mem_of_getElem? (i := 1394) (by decide +kernel)⟩
def lw_privs_5 : List (MethodName × Nat) := [(⟨"GuineaHoursModel", "setRows", "(II)V"⟩, 34), (⟨"GuineaHoursModel", "isTime", "(I)Z"⟩, 34), (⟨"GuineaHoursModel", "worthOf", "(II)I"⟩, 34), (⟨"GuineaHoursModel", "isSet", "(I)Z"⟩, 34), (⟨"GuineaHoursModel", "keepsOf", "(II)I"⟩, 34), (⟨"GuineaHoursModel", "longOf", "(III)I"⟩, 34), (⟨"GuineaHoursModel", "setFits", "()V"⟩, 34), (⟨"GuineaHoursModel", "askedFits", "(I)I"⟩, 34), (⟨"GuineaHoursModel", "chanceOf", "(III)J"⟩, 34), (⟨"GuineaHoursModel", "wholeFrom", "(I)J"⟩, 34), (⟨"GuineaHoursModel", "part", "(JJI)I"⟩, 34), (⟨"GuineaHoursModel", "twoOf", "(III)I"⟩, 34), (⟨"GuineaHoursModel", "counts", "(I)I"⟩, 34), (⟨"GuineaHoursModel", "mix", "(I)V"⟩, 34), (⟨"GuineaHoursModel", "mixTown", "()V"⟩, 34)]
theorem lw_r5 : ∀ q ∈ lw_privs_5, lw_okq q := List.forall_mem_cons.mpr ⟨lw_p64, List.forall_mem_cons.mpr ⟨lw_p65, List.forall_mem_cons.mpr ⟨lw_p66, List.forall_mem_cons.mpr ⟨lw_p67, List.forall_mem_cons.mpr ⟨lw_p68, List.forall_mem_cons.mpr ⟨lw_p69, List.forall_mem_cons.mpr ⟨lw_p70, List.forall_mem_cons.mpr ⟨lw_p71, List.forall_mem_cons.mpr ⟨lw_p72, List.forall_mem_cons.mpr ⟨lw_p73, List.forall_mem_cons.mpr ⟨lw_p74, List.forall_mem_cons.mpr ⟨lw_p75, List.forall_mem_cons.mpr ⟨lw_p76, List.forall_mem_cons.mpr ⟨lw_p77, List.forall_mem_cons.mpr ⟨lw_p78, fun _ h => absurd h List.not_mem_nil⟩⟩⟩⟩⟩⟩⟩⟩⟩⟩⟩⟩⟩⟩⟩
def lw_privs : List (MethodName × Nat) := lw_privs_1 ++ (lw_privs_2 ++ (lw_privs_3 ++ (lw_privs_4 ++ (lw_privs_5))))
def lw_tbl : List Cond := k2_sels lw_privs ++ tables_1
theorem lw_privs_ok : ∀ q ∈ lw_privs, lw_okq q := by
  show ∀ q ∈ lw_privs_1 ++ (lw_privs_2 ++ (lw_privs_3 ++ (lw_privs_4 ++ (lw_privs_5)))), lw_okq q
  exact List.forall_mem_append.mpr ⟨lw_r1, List.forall_mem_append.mpr ⟨lw_r2, List.forall_mem_append.mpr ⟨lw_r3, List.forall_mem_append.mpr ⟨lw_r4, lw_r5⟩⟩⟩⟩
-- ===== end of PART A; then your names; then what follows =====
end
section
/-! THE INTERPRETER: a pure function that runs resolved bytecode over an abstract store.
A store: the shapes of the cells (kind, length), ints, longs and references by (cell, slot). Kinds 0 to 8: objects of xi_cl; 9 int[], 10 byte[], 11 long[], 12 Day[], 13 byte[][], 14 int[][].
Cells from 1000000 on are read only: 0 KIND_LETTERS, 1 KIND_EXTRA, 2 the script. -/
abbrev xi_E : Type := Instr × List Nat × Int32 × Int64
abbrev xi_L : Type := List (Option Value)
abbrev xi_S : Type := List (Nat × Nat) × (Nat → Nat → Int32) × (Nat → Nat → Int64) × (Nat → Nat → Option Nat)
abbrev xi_X : Type := Nat × (Nat → Int32)
abbrev xi_P : Type := Nat → Option (Nat × Nat × List xi_E)
def xi_up {α : Type} (f : Nat → Nat → α) (k j : Nat) (v : α) : Nat → Nat → α := fun a => if a = k then (fun b => if b = j then v else f k b) else f a
def xi_ua {α : Type} (f : Nat → Nat → α) (k : Nat) (g : Nat → α) : Nat → Nat → α := fun a => if a = k then g else f a
def xi_letters : Nat → Int32 := fun i => match i with
  | 0 => 109
  | 1 => 112
  | 2 => 115
  | 3 => 101
  | 4 => 103
  | _ => 116
def xi_extra : Nat → Int32 := fun i => match i with
  | 3 => 1
  | 5 => 2
  | _ => 0
def xi_ros (scr : xi_X) (j : Nat) : Option (Nat × Nat × (Nat → Int32)) := match j with
  | 0 => some (10, 6, xi_letters)
  | 1 => some (9, 6, xi_extra)
  | 2 => some (9, scr.1, scr.2)
  | _ => none
/-- an array of ints or bytes: its kind, its length, what it holds -/
def xi_ar (scr : xi_X) (S : xi_S) (k : Nat) : Option (Nat × Nat × (Nat → Int32)) :=
  if k < 1000000 then (match S.1[k]? with
    | some (t, n) => some (t, n, S.2.1 k)
    | none => none) else xi_ros scr (k - 1000000)
def xi_k (e : xi_E) : Nat := e.2.1.headD 0
/-- a store into a local of one slot -/
def xi_sl (ls : xi_L) (k : Nat) (v : Value) : xi_L := match k with
  | 0 => ls.set 0 (some v)
  | k + 1 => match ls[k]? with
    | some (some (.long _)) => (ls.set k none).set (k + 1) (some v)
    | _ => ls.set (k + 1) (some v)
def xi_sL (ls : xi_L) (k : Nat) (v : Value) : xi_L := (xi_sl ls k v).set (k + 1) none
abbrev xi_R : Type := Option (Nat × xi_L × List Value × xi_S)
def xi_ii (f : Int32 → Int32 → Int32) (i : Nat) (ls : xi_L) (st : List Value) (S : xi_S) : xi_R := match st with
  | .int y :: .int x :: r => some (i + 1, ls, .int (f x y) :: r, S)
  | _ => none
def xi_id (f : Int32 → Int32 → Int32) (i : Nat) (ls : xi_L) (st : List Value) (S : xi_S) : xi_R := match st with
  | .int y :: .int x :: r => if y = 0 then none else some (i + 1, ls, .int (f x y) :: r, S)
  | _ => none
def xi_ll (f : Int64 → Int64 → Int64) (i : Nat) (ls : xi_L) (st : List Value) (S : xi_S) : xi_R := match st with
  | .long y :: .long x :: r => some (i + 1, ls, .long (f x y) :: r, S)
  | _ => none
def xi_ld (f : Int64 → Int64 → Int64) (i : Nat) (ls : xi_L) (st : List Value) (S : xi_S) : xi_R := match st with
  | .long y :: .long x :: r => if y = 0 then none else some (i + 1, ls, .long (f x y) :: r, S)
  | _ => none
def xi_lod (k : Nat) (i : Nat) (ls : xi_L) (st : List Value) (S : xi_S) : xi_R := match ls[k]? with
  | some (some (.int x)) => some (i + 1, ls, .int x :: st, S)
  | _ => none
def xi_loL (k : Nat) (i : Nat) (ls : xi_L) (st : List Value) (S : xi_S) : xi_R := match ls[k]? with
  | some (some (.long x)) => some (i + 1, ls, .long x :: st, S)
  | _ => none
def xi_loA (k : Nat) (i : Nat) (ls : xi_L) (st : List Value) (S : xi_S) : xi_R := match ls[k]? with
  | some (some (.ref x)) => some (i + 1, ls, .ref x :: st, S)
  | _ => none
def xi_sto (k : Nat) (i : Nat) (ls : xi_L) (st : List Value) (S : xi_S) : xi_R := match st with
  | .int x :: r => if k < ls.length then some (i + 1, xi_sl ls k (.int x), r, S) else none
  | _ => none
def xi_stL (k : Nat) (i : Nat) (ls : xi_L) (st : List Value) (S : xi_S) : xi_R := match st with
  | .long x :: r => if k + 1 < ls.length then some (i + 1, xi_sL ls k (.long x), r, S) else none
  | _ => none
def xi_stA (k : Nat) (i : Nat) (ls : xi_L) (st : List Value) (S : xi_S) : xi_R := match st with
  | .ref x :: r => if k < ls.length then some (i + 1, xi_sl ls k (.ref x), r, S) else none
  | _ => none
/-- a field's value by its kind: 0 int, 1 long, 3 boolean, else a reference -/
def xi_gv (S : xi_S) (k j : Nat) (f : Nat) : Value := match f with
  | 0 => .int (S.2.1 k j)
  | 1 => .long (S.2.2.1 k j)
  | 3 => .int (S.2.1 k j)
  | _ => va_rf (S.2.2.2 k j)
def xi_get (n : List Nat) (i : Nat) (ls : xi_L) (st : List Value) (S : xi_S) : xi_R := match n, st with
  | [ci, j, f], .ref k :: r => (match S.1[k]? with
    | some (t, _) => if t = ci then some (i + 1, ls, xi_gv S k j f :: r, S) else none
    | none => none)
  | _, _ => none
/-- a value into a field -/
def xi_pv (S : xi_S) (k j f : Nat) (v : Value) : Option xi_S := match f, v with
  | 0, .int x => some (S.1, xi_up S.2.1 k j x, S.2.2)
  | 1, .long x => some (S.1, S.2.1, xi_up S.2.2.1 k j x, S.2.2.2)
  | 2, .ref a => if a < S.1.length then some (S.1, S.2.1, S.2.2.1, xi_up S.2.2.2 k j (some a)) else none
  | 3, .int x => if x &&& 1 = x then some (S.1, xi_up S.2.1 k j x, S.2.2) else none
  | _, _ => none
def xi_put (n : List Nat) (i : Nat) (ls : xi_L) (st : List Value) (S : xi_S) : xi_R := match n, st with
  | [ci, j, f], v :: .ref k :: r => (match S.1[k]? with
    | some (t, _) => if t = ci then (match xi_pv S k j f v with
      | some S2 => some (i + 1, ls, r, S2)
      | none => none) else none
    | none => none)
  | _, _ => none
def xi_ald (scr : xi_X) (tag : Nat) (i : Nat) (ls : xi_L) (st : List Value) (S : xi_S) : xi_R := match st with
  | .int j :: .ref k :: r => (match xi_ar scr S k with
    | some (t, n, f) => if t = tag then (if j < 0 ∨ n ≤ j.toNatClampNeg then none else some (i + 1, ls, .int (f j.toNatClampNeg) :: r, S)) else none
    | none => none)
  | _ => none
def xi_lald (i : Nat) (ls : xi_L) (st : List Value) (S : xi_S) : xi_R := match st with
  | .int j :: .ref k :: r => (match S.1[k]? with
    | some (t, n) => if t = 11 then (if j < 0 ∨ n ≤ j.toNatClampNeg then none else some (i + 1, ls, .long (S.2.2.1 k j.toNatClampNeg) :: r, S)) else none
    | none => none)
  | _ => none
def xi_aald (i : Nat) (ls : xi_L) (st : List Value) (S : xi_S) : xi_R := match st with
  | .int j :: .ref k :: r => (match S.1[k]? with
    | some (t, n) => if 12 ≤ t ∧ t ≤ 14 then (if j < 0 ∨ n ≤ j.toNatClampNeg then none else some (i + 1, ls, va_rf (S.2.2.2 k j.toNatClampNeg) :: r, S)) else none
    | none => none)
  | _ => none
def xi_ast (tag : Nat) (i : Nat) (ls : xi_L) (st : List Value) (S : xi_S) : xi_R := match st with
  | .int x :: .int j :: .ref k :: r => (match S.1[k]? with
    | some (t, n) => if t = tag then (if j < 0 ∨ n ≤ j.toNatClampNeg then none else some (i + 1, ls, r, (S.1, xi_up S.2.1 k j.toNatClampNeg (if tag = 10 then x.toInt8.toInt32 else x), S.2.2))) else none
    | none => none)
  | _ => none
def xi_last (i : Nat) (ls : xi_L) (st : List Value) (S : xi_S) : xi_R := match st with
  | .long x :: .int j :: .ref k :: r => (match S.1[k]? with
    | some (t, n) => if t = 11 then (if j < 0 ∨ n ≤ j.toNatClampNeg then none else some (i + 1, ls, r, (S.1, S.2.1, xi_up S.2.2.1 k j.toNatClampNeg x, S.2.2.2))) else none
    | none => none)
  | _ => none
def xi_aast (i : Nat) (ls : xi_L) (st : List Value) (S : xi_S) : xi_R := match st with
  | .ref a :: .int j :: .ref k :: r => (match S.1[k]?, S.1[a]? with
    | some (t, n), some (t2, _) => if t = 12 ∧ t2 = 1 then (if j < 0 ∨ n ≤ j.toNatClampNeg then none else some (i + 1, ls, r, (S.1, S.2.1, S.2.2.1, xi_up S.2.2.2 k j.toNatClampNeg (some a)))) else none
    | _, _ => none)
  | _ => none
def xi_alen (scr : xi_X) (i : Nat) (ls : xi_L) (st : List Value) (S : xi_S) : xi_R := match st with
  | .ref k :: r => (match xi_ar scr S k with
    | some (t, n, _) => if 9 ≤ t ∧ t ≤ 14 then some (i + 1, ls, .int (Int32.ofNat n) :: r, S) else none
    | none => none)
  | _ => none
/-- how many fields an object of a kind has -/
def xi_nf (t : Nat) : Nat := [2, 4, 2, 5, 6, 2, 11, 19, 34].getD t 0
def xi_new (n : List Nat) (i : Nat) (ls : xi_L) (st : List Value) (S : xi_S) : xi_R := match n with
  | [ci] => if ci < 9 then some (i + 1, ls, .ref S.1.length :: st, (S.1 ++ [(ci, xi_nf ci)], xi_ua S.2.1 S.1.length (fun _ => 0), xi_ua S.2.2.1 S.1.length (fun _ => 0), xi_ua S.2.2.2 S.1.length (fun _ => none))) else none
  | _ => none
def xi_newa (tag : Nat) (i : Nat) (ls : xi_L) (st : List Value) (S : xi_S) : xi_R := match st with
  | .int n :: r => if n < 0 ∨ 1000 < n.toNatClampNeg then none else some (i + 1, ls, .ref S.1.length :: r, (S.1 ++ [(tag, n.toNatClampNeg)], xi_ua S.2.1 S.1.length (fun _ => 0), xi_ua S.2.2.1 S.1.length (fun _ => 0), xi_ua S.2.2.2 S.1.length (fun _ => none)))
  | _ => none
/-- new T[n][k]: the outer array, then the inner ones -/
def xi_mna (out inn : Nat) (i : Nat) (ls : xi_L) (st : List Value) (S : xi_S) : xi_R := match st with
  | .int k :: .int n :: r => if n < 0 ∨ k < 0 ∨ 1000 < n.toNatClampNeg ∨ 1000 < k.toNatClampNeg then none else some (i + 1, ls, .ref S.1.length :: r,
      (S.1 ++ [(out, n.toNatClampNeg)] ++ List.replicate n.toNatClampNeg (inn, k.toNatClampNeg),
        (fun a => if S.1.length ≤ a then (fun _ => 0) else S.2.1 a), (fun a => if S.1.length ≤ a then (fun _ => 0) else S.2.2.1 a),
        (fun a => if S.1.length ≤ a then (fun j => if a = S.1.length ∧ j < n.toNatClampNeg then some (S.1.length + 1 + j) else none) else S.2.2.2 a)))
  | _ => none
/-- System.arraycopy of ints -/
def xi_cpy (i : Nat) (ls : xi_L) (st : List Value) (S : xi_S) : xi_R := match st with
  | .int n :: .int dp :: .ref b :: .int sp :: .ref a :: r => (match S.1[a]?, S.1[b]? with
    | some (t, n0), some (t2, n1) => if t = 9 ∧ t2 = 9 ∧ ¬ sp < 0 ∧ ¬ dp < 0 ∧ ¬ n < 0 ∧ sp.toNatClampNeg + n.toNatClampNeg ≤ n0 ∧ dp.toNatClampNeg + n.toNatClampNeg ≤ n1 ∧ (r.map fun v => v.category).sum ≤ 8 then
        some (i + 1, ls, r, (S.1, xi_ua S.2.1 b (va_cpy (S.2.1 a) (S.2.1 b) sp.toNatClampNeg dp.toNatClampNeg n.toNatClampNeg), S.2.2)) else none
    | _, _ => none)
  | _ => none
def xi_dup (i : Nat) (ls : xi_L) (st : List Value) (S : xi_S) : xi_R := match st with
  | v :: r => if v.category = 1 then some (i + 1, ls, v :: v :: r, S) else none
  | _ => none
def xi_dup2 (i : Nat) (ls : xi_L) (st : List Value) (S : xi_S) : xi_R := match st with
  | v :: u :: r => if v.category = 1 ∧ u.category = 1 then some (i + 1, ls, v :: u :: v :: u :: r, S) else none
  | _ => none
def xi_pop (i : Nat) (ls : xi_L) (st : List Value) (S : xi_S) : xi_R := match st with
  | v :: r => if v.category = 1 then some (i + 1, ls, r, S) else none
  | _ => none
def xi_i2l (i : Nat) (ls : xi_L) (st : List Value) (S : xi_S) : xi_R := match st with
  | .int x :: r => some (i + 1, ls, .long x.toInt64 :: r, S)
  | _ => none
def xi_l2i (i : Nat) (ls : xi_L) (st : List Value) (S : xi_S) : xi_R := match st with
  | .long x :: r => some (i + 1, ls, .int x.toInt32 :: r, S)
  | _ => none
def xi_i2b (i : Nat) (ls : xi_L) (st : List Value) (S : xi_S) : xi_R := match st with
  | .int x :: r => some (i + 1, ls, .int x.toInt8.toInt32 :: r, S)
  | _ => none
def xi_cmp (i : Nat) (ls : xi_L) (st : List Value) (S : xi_S) : xi_R := match st with
  | .long y :: .long x :: r => some (i + 1, ls, .int (lg_cmp x y) :: r, S)
  | _ => none
def xi_inc (k : Nat) (n : Int32) (i : Nat) (ls : xi_L) (st : List Value) (S : xi_S) : xi_R := match ls[k]? with
  | some (some (.int x)) => some (i + 1, ls.set k (some (.int (x + n))), st, S)
  | _ => none
/-- Object's constructor -/
def xi_oin (i : Nat) (ls : xi_L) (st : List Value) (S : xi_S) : xi_R := match st with
  | .ref _ :: r => if (r.map fun v => v.category).sum ≤ 8 then some (i + 1, ls, r, S) else none
  | _ => none
/-- Math.max (1) and Math.min (2) -/
def xi_mm (k : Nat) (i : Nat) (ls : xi_L) (st : List Value) (S : xi_S) : xi_R := match st with
  | .int y :: .int x :: r => if (r.map fun v => v.category).sum ≤ 8 then some (i + 1, ls, .int (if k = 1 then (if x < y then y else x) else (if y < x then y else x)) :: r, S) else none
  | _ => none
/-- one instruction that neither branches nor calls nor returns -/
def xi_stp (scr : xi_X) (e : xi_E) (i : Nat) (ls : xi_L) (st : List Value) (S : xi_S) : xi_R := match e.1 with
  | .iconst _ => some (i + 1, ls, .int e.2.2.1 :: st, S)
  | .bipush _ => some (i + 1, ls, .int e.2.2.1 :: st, S)
  | .sipush _ => some (i + 1, ls, .int e.2.2.1 :: st, S)
  | .ldc_w _ => some (i + 1, ls, .int e.2.2.1 :: st, S)
  | .lconst _ => some (i + 1, ls, .long e.2.2.2 :: st, S)
  | .ldc2_w _ => some (i + 1, ls, .long e.2.2.2 :: st, S)
  | .iload _ => xi_lod (xi_k e) i ls st S
  | .iload_n _ => xi_lod (xi_k e) i ls st S
  | .lload _ => xi_loL (xi_k e) i ls st S
  | .lload_n _ => xi_loL (xi_k e) i ls st S
  | .aload_n _ => xi_loA (xi_k e) i ls st S
  | .istore _ => xi_sto (xi_k e) i ls st S
  | .istore_n _ => xi_sto (xi_k e) i ls st S
  | .lstore _ => xi_stL (xi_k e) i ls st S
  | .lstore_n _ => xi_stL (xi_k e) i ls st S
  | .astore_n _ => xi_stA (xi_k e) i ls st S
  | .iinc _ _ => xi_inc (xi_k e) e.2.2.1 i ls st S
  | .iadd => xi_ii (fun x y => x + y) i ls st S
  | .isub => xi_ii (fun x y => x - y) i ls st S
  | .imul => xi_ii (fun x y => x * y) i ls st S
  | .iand => xi_ii (fun x y => x &&& y) i ls st S
  | .ior => xi_ii (fun x y => x ||| y) i ls st S
  | .ixor => xi_ii (fun x y => x ^^^ y) i ls st S
  | .ishl => xi_ii (fun x y => x <<< (y &&& 31)) i ls st S
  | .ishr => xi_ii (fun x y => x >>> (y &&& 31)) i ls st S
  | .iushr => xi_ii (fun x y => (x.toUInt32 >>> (y.toUInt32 &&& Int32.toUInt32 31)).toInt32) i ls st S
  | .idiv => xi_id (fun x y => x / y) i ls st S
  | .irem => xi_id (fun x y => x - x / y * y) i ls st S
  | .ladd => xi_ll (fun x y => x + y) i ls st S
  | .lsub => xi_ll (fun x y => x - y) i ls st S
  | .lmul => xi_ll (fun x y => x * y) i ls st S
  | .ldiv => xi_ld (fun x y => x / y) i ls st S
  | .lrem => xi_ld (fun x y => x - x / y * y) i ls st S
  | .lcmp => xi_cmp i ls st S
  | .i2l => xi_i2l i ls st S
  | .l2i => xi_l2i i ls st S
  | .i2b => xi_i2b i ls st S
  | .dup => xi_dup i ls st S
  | .dup2 => xi_dup2 i ls st S
  | .pop => xi_pop i ls st S
  | .getfield _ => xi_get e.2.1 i ls st S
  | .putfield _ => xi_put e.2.1 i ls st S
  | .getstatic _ => some (i + 1, ls, .ref (1000000 + xi_k e) :: st, S)
  | .iaload => xi_ald scr 9 i ls st S
  | .baload => xi_ald scr 10 i ls st S
  | .laload => xi_lald i ls st S
  | .aaload => xi_aald i ls st S
  | .iastore => xi_ast 9 i ls st S
  | .bastore => xi_ast 10 i ls st S
  | .lastore => xi_last i ls st S
  | .aastore => xi_aast i ls st S
  | .arraylength => xi_alen scr i ls st S
  | .new _ => xi_new e.2.1 i ls st S
  | .newarray _ => xi_newa (xi_k e) i ls st S
  | .anewarray _ => xi_newa 12 i ls st S
  | .multianewarray _ _ => (match e.2.1 with
    | [o, n] => xi_mna o n i ls st S
    | _ => none)
  | _ => none
/-- the locals at a method's entry -/
def xi_av (vs : List Value) : xi_L := vs.flatMap fun v => if v.category = 2 then [some v, none] else [some v]
def xi_en (vs : List Value) (mL : Nat) : xi_L := xi_av vs ++ List.replicate (mL - (xi_av vs).length) none
/-- the receiver is of the callee's class -/
def xi_rcv (n : List Nat) (st : List Value) (S : xi_S) : Bool := match n with
  | [_, _] => true
  | [_, na, t] => (match st[na - 1]? with
    | some (.ref b) => (match S.1[b]? with
      | some (t2, _) => decide (t2 = t)
      | none => false)
    | _ => false)
  | _ => false
/-- a call of an own method -/
def xi_cal (pg : xi_P) (d : Nat) (e : xi_E) (st : List Value) (S : xi_S) (run : Nat → List xi_E → xi_L → xi_S → Option (Option Value × xi_S)) (go : List Value → xi_S → Option (Option Value × xi_S)) : Option (Option Value × xi_S) := match d with
  | 0 => none
  | d2 + 1 => (match pg (xi_k e) with
    | none => none
    | some (mL, na, c2) => if e.2.1[1]? = some na ∧ na ≤ st.length ∧ xi_rcv e.2.1 st S = true ∧ (xi_av (st.take na).reverse).length ≤ mL ∧ ((st.drop na).map fun v => v.category).sum ≤ 8 then (match run d2 c2 (xi_en (st.take na).reverse mL) S with
      | some (rv, S2) => go (rv.toList ++ st.drop na) S2
      | none => none) else none)
/-- one instruction, then 'go' -/
def xi_one (pg : xi_P) (scr : xi_X) (go : Nat → List xi_E → Nat → xi_L → List Value → xi_S → Option (Option Value × xi_S)) (d : Nat) (code : List xi_E) (i : Nat) (ls : xi_L) (st : List Value) (S : xi_S) : Option (Option Value × xi_S) := match code[i]? with
    | none => none
    | some e => match e.1 with
      | .goto _ => go d code (xi_k e) ls st S
      | .ifCond c _ => (match st with
        | .int x :: r => (match c with
          | .eq => if x = 0 then go d code (xi_k e) ls r S else go d code (i + 1) ls r S
          | .ne => if x = 0 then go d code (i + 1) ls r S else go d code (xi_k e) ls r S
          | .lt => if x < 0 then go d code (xi_k e) ls r S else go d code (i + 1) ls r S
          | .ge => if x < 0 then go d code (i + 1) ls r S else go d code (xi_k e) ls r S
          | .gt => if 0 < x then go d code (xi_k e) ls r S else go d code (i + 1) ls r S
          | .le => if 0 < x then go d code (i + 1) ls r S else go d code (xi_k e) ls r S)
        | _ => none)
      | .if_icmp c _ => (match st with
        | .int y :: .int x :: r => (match c with
          | .eq => if x = y then go d code (xi_k e) ls r S else go d code (i + 1) ls r S
          | .ne => if x = y then go d code (i + 1) ls r S else go d code (xi_k e) ls r S
          | .lt => if x < y then go d code (xi_k e) ls r S else go d code (i + 1) ls r S
          | .ge => if x < y then go d code (i + 1) ls r S else go d code (xi_k e) ls r S
          | .gt => if y < x then go d code (xi_k e) ls r S else go d code (i + 1) ls r S
          | .le => if y < x then go d code (i + 1) ls r S else go d code (xi_k e) ls r S)
        | _ => none)
      | .tableswitch _ lo hi _ => (match st with
        | .int x :: r => if x.toInt < lo ∨ hi < x.toInt then go d code (xi_k e) ls r S else (match e.2.1[(x.toInt - lo).toNat + 1]? with
          | some t => go d code t ls r S
          | none => none)
        | _ => none)
      | .ireturn => (match st with
        | [.int v] => if xi_k e = 1 ∧ ¬ v &&& 1 = v then none else some (some (.int v), S)
        | _ => none)
      | .lreturn => (match st with
        | [.long v] => some (some (.long v), S)
        | _ => none)
      | .return_ => (match st with
        | [] => some (none, S)
        | _ => none)
      | .invokevirtual _ => xi_cal pg d e st S (fun d2 c2 l2 S2 => go d2 c2 0 l2 [] S2) (fun st2 S2 => go d code (i + 1) ls st2 S2)
      | .invokestatic _ => (match e.2.1 with
        | [] => (match xi_cpy i ls st S with
          | some (i2, ls2, st2, S2) => go d code i2 ls2 st2 S2
          | none => none)
        | [k] => (match xi_mm k i ls st S with
          | some (i2, ls2, st2, S2) => go d code i2 ls2 st2 S2
          | none => none)
        | _ => xi_cal pg d e st S (fun d2 c2 l2 S2 => go d2 c2 0 l2 [] S2) (fun st2 S2 => go d code (i + 1) ls st2 S2))
      | .invokespecial _ => (match e.2.1 with
        | [] => (match xi_oin i ls st S with
          | some (i2, ls2, st2, S2) => go d code i2 ls2 st2 S2
          | none => none)
        | _ => xi_cal pg d e st S (fun d2 c2 l2 S2 => go d2 c2 0 l2 [] S2) (fun st2 S2 => go d code (i + 1) ls st2 S2))
      | _ => (match xi_stp scr e i ls st S with
        | some (i2, ls2, st2, S2) => go d code i2 ls2 st2 S2
        | none => none)
/-- the run: fuel n, depth d -/
def xi_ex (pg : xi_P) (scr : xi_X) : Nat → Nat → List xi_E → Nat → xi_L → List Value → xi_S → Option (Option Value × xi_S)
  | 0 => fun _ _ _ _ _ _ => none
  | n + 1 => xi_one pg scr (xi_ex pg scr n)
theorem xi_ex_succ (pg : xi_P) (scr : xi_X) (n d : Nat) (code : List xi_E) (i : Nat) (ls : xi_L) (st : List Value) (S : xi_S) : xi_ex pg scr (n + 1) d code i ls st S = xi_one pg scr (xi_ex pg scr n) d code i ls st S := rfl
end
section
/-! THE CODE of every method, resolved (written by wip/whole/gen_tables.py): xc_i what the interpreter runs, xk_i where it stands in the class file (pc, its link) -/
abbrev xi_M : Type := Nat × String × String × ByteArray × Option FieldType × Nat × List (Nat × Nat)
/-- GuineaHours.<init>()V -/
def xc_0 : List xi_E := [(.aload_n 0, [0], 0, 0), (.invokespecial 1, [], 0, 0), (.aload_n 0, [0], 0, 0), (.bipush 6, [], 6, 0), (.bipush 40, [], 40, 0), (.multianewarray 9 2, [14, 9], 0, 0), (.putfield 11, [7, 0, 2], 0, 0), (.aload_n 0, [0], 0, 0), (.bipush 6, [], 6, 0), (.newarray .int, [9], 0, 0), (.putfield 14, [7, 1, 2], 0, 0), (.aload_n 0, [0], 0, 0), (.iconst 4, [], 4, 0), (.bipush 80, [], 80, 0), (.multianewarray 18 2, [13, 10], 0, 0), (.putfield 20, [7, 2, 2], 0, 0), (.aload_n 0, [0], 0, 0), (.iconst 4, [], 4, 0), (.newarray .int, [9], 0, 0), (.putfield 23, [7, 3, 2], 0, 0), (.aload_n 0, [0], 0, 0), (.new 26, [4], 0, 0), (.dup, [], 0, 0), (.invokespecial 28, [1, 1, 4], 0, 0), (.putfield 29, [7, 4, 2], 0, 0), (.aload_n 0, [0], 0, 0), (.new 26, [4], 0, 0), (.dup, [], 0, 0), (.invokespecial 28, [1, 1, 4], 0, 0), (.putfield 33, [7, 5, 2], 0, 0), (.aload_n 0, [0], 0, 0), (.new 36, [1], 0, 0), (.dup, [], 0, 0), (.invokespecial 38, [2, 1, 1], 0, 0), (.putfield 39, [7, 6, 2], 0, 0), (.aload_n 0, [0], 0, 0), (.iconst 3, [], 3, 0), (.anewarray 36, [], 0, 0), (.putfield 43, [7, 7, 2], 0, 0), (.aload_n 0, [0], 0, 0), (.new 47, [3], 0, 0), (.dup, [], 0, 0), (.invokespecial 49, [3, 1, 3], 0, 0), (.putfield 50, [7, 8, 2], 0, 0), (.aload_n 0, [0], 0, 0), (.new 54, [6], 0, 0), (.dup, [], 0, 0), (.aload_n 0, [0], 0, 0), (.getfield 29, [7, 4, 2], 0, 0), (.invokespecial 56, [4, 2, 6], 0, 0), (.putfield 59, [7, 9, 2], 0, 0), (.aload_n 0, [0], 0, 0), (.new 54, [6], 0, 0), (.dup, [], 0, 0), (.aload_n 0, [0], 0, 0), (.getfield 29, [7, 4, 2], 0, 0), (.invokespecial 56, [4, 2, 6], 0, 0), (.putfield 63, [7, 10, 2], 0, 0), (.aload_n 0, [0], 0, 0), (.new 66, [5], 0, 0), (.dup, [], 0, 0), (.aload_n 0, [0], 0, 0), (.getfield 29, [7, 4, 2], 0, 0), (.invokespecial 68, [5, 2, 5], 0, 0), (.putfield 69, [7, 11, 2], 0, 0), (.aload_n 0, [0], 0, 0), (.new 73, [0], 0, 0), (.dup, [], 0, 0), (.aload_n 0, [0], 0, 0), (.getfield 29, [7, 4, 2], 0, 0), (.invokespecial 75, [6, 2, 0], 0, 0), (.putfield 76, [7, 12, 2], 0, 0), (.aload_n 0, [0], 0, 0), (.new 80, [2], 0, 0), (.dup, [], 0, 0), (.invokespecial 82, [7, 1, 2], 0, 0), (.putfield 83, [7, 13, 2], 0, 0), (.aload_n 0, [0], 0, 0), (.iconst 0, [], 0, 0), (.putfield 87, [7, 14, 0], 0, 0), (.aload_n 0, [0], 0, 0), (.lconst 0, [], 0, 0), (.putfield 91, [7, 15, 1], 0, 0), (.aload_n 0, [0], 0, 0), (.lconst 1, [], 0, 1), (.putfield 95, [7, 16, 1], 0, 0), (.aload_n 0, [0], 0, 0), (.iconst 0, [], 0, 0), (.putfield 98, [7, 17, 0], 0, 0), (.aload_n 0, [0], 0, 0), (.bipush 6, [], 6, 0), (.newarray .int, [9], 0, 0), (.putfield 101, [7, 18, 2], 0, 0), (.aload_n 0, [0], 0, 0), (.getfield 14, [7, 1, 2], 0, 0), (.iconst (-1), [], (-1), 0), (.invokestatic 104, [8, 2], 0, 0), (.aload_n 0, [0], 0, 0), (.getfield 23, [7, 3, 2], 0, 0), (.iconst (-1), [], (-1), 0), (.invokestatic 104, [8, 2], 0, 0), (.iconst 0, [], 0, 0), (.istore_n 1, [1], 0, 0), (.iload_n 1, [1], 0, 0), (.iconst 3, [], 3, 0), (.if_icmp .ge 22, [115], 0, 0), (.aload_n 0, [0], 0, 0), (.getfield 43, [7, 7, 2], 0, 0), (.iload_n 1, [1], 0, 0), (.new 36, [1], 0, 0), (.dup, [], 0, 0), (.invokespecial 38, [2, 1, 1], 0, 0), (.aastore, [], 0, 0), (.iinc 1 1, [1], 1, 0), (.goto (-21), [103], 0, 0), (.return_, [], 0, 0)]
def xk_0 : List (Nat × Nat) := [(0, 0), (1, 1), (4, 0), (5, 0), (7, 0), (9, 1), (13, 55), (16, 0), (17, 0), (19, 0), (21, 56), (24, 0), (25, 0), (26, 0), (28, 2), (32, 57), (35, 0), (36, 0), (37, 0), (39, 58), (42, 0), (43, 3), (46, 0), (47, 1000), (50, 59), (53, 0), (54, 3), (57, 0), (58, 1000), (61, 60), (64, 0), (65, 4), (68, 0), (69, 1001), (72, 61), (75, 0), (76, 0), (77, 4), (80, 62), (83, 0), (84, 5), (87, 0), (88, 1002), (91, 63), (94, 0), (95, 6), (98, 0), (99, 0), (100, 59), (103, 5), (106, 64), (109, 0), (110, 6), (113, 0), (114, 0), (115, 59), (118, 5), (121, 65), (124, 0), (125, 7), (128, 0), (129, 0), (130, 59), (133, 7), (136, 66), (139, 0), (140, 8), (143, 0), (144, 0), (145, 59), (148, 9), (151, 67), (154, 0), (155, 9), (158, 0), (159, 1003), (162, 68), (165, 0), (166, 0), (167, 69), (170, 0), (171, 0), (172, 70), (175, 0), (176, 0), (177, 71), (180, 0), (181, 0), (182, 72), (185, 0), (186, 0), (188, 0), (190, 73), (193, 0), (194, 56), (197, 0), (198, 12), (201, 0), (202, 58), (205, 0), (206, 12), (209, 0), (210, 0), (211, 0), (212, 0), (213, 0), (216, 0), (217, 62), (220, 0), (221, 4), (224, 0), (225, 1001), (228, 0), (229, 0), (232, 0), (235, 0)]
def xm_0 : xi_M := (7, "<init>", "()V", prog_1_method_1_code, none, 2, xk_0)
/-- GuineaHours$Town.<init>()V -/
def xc_1 : List xi_E := [(.aload_n 0, [0], 0, 0), (.invokespecial 3, [], 0, 0), (.aload_n 0, [0], 0, 0), (.iconst 0, [], 0, 0), (.putfield 9, [4, 0, 0], 0, 0), (.aload_n 0, [0], 0, 0), (.iconst 0, [], 0, 0), (.putfield 15, [4, 1, 0], 0, 0), (.aload_n 0, [0], 0, 0), (.bipush 7, [], 7, 0), (.newarray .int, [9], 0, 0), (.putfield 18, [4, 2, 2], 0, 0), (.aload_n 0, [0], 0, 0), (.bipush 7, [], 7, 0), (.newarray .int, [9], 0, 0), (.putfield 22, [4, 3, 2], 0, 0), (.aload_n 0, [0], 0, 0), (.bipush 35, [], 35, 0), (.newarray .int, [9], 0, 0), (.putfield 25, [4, 4, 2], 0, 0), (.aload_n 0, [0], 0, 0), (.bipush 35, [], 35, 0), (.newarray .int, [9], 0, 0), (.putfield 28, [4, 5, 2], 0, 0), (.return_, [], 0, 0)]
def xk_1 : List (Nat × Nat) := [(0, 0), (1, 2), (4, 0), (5, 0), (6, 0), (9, 0), (10, 0), (11, 5), (14, 0), (15, 0), (17, 0), (19, 11), (22, 0), (23, 0), (25, 0), (27, 12), (30, 0), (31, 0), (33, 0), (35, 13), (38, 0), (39, 0), (41, 0), (43, 14), (46, 0)]
def xm_1 : xi_M := (4, "<init>", "()V", prog_6_method_1_code, none, 2, xk_1)
/-- GuineaHours$Day.<init>()V -/
def xc_2 : List xi_E := [(.aload_n 0, [0], 0, 0), (.invokespecial 3, [], 0, 0), (.aload_n 0, [0], 0, 0), (.iconst 3, [], 3, 0), (.putfield 9, [1, 0, 0], 0, 0), (.aload_n 0, [0], 0, 0), (.iconst 0, [], 0, 0), (.putfield 15, [1, 1, 0], 0, 0), (.aload_n 0, [0], 0, 0), (.iconst (-1), [], (-1), 0), (.putfield 18, [1, 2, 0], 0, 0), (.aload_n 0, [0], 0, 0), (.bipush 6, [], 6, 0), (.newarray .int, [9], 0, 0), (.putfield 21, [1, 3, 2], 0, 0), (.return_, [], 0, 0)]
def xk_2 : List (Nat × Nat) := [(0, 0), (1, 3), (4, 0), (5, 0), (6, 15), (9, 0), (10, 0), (11, 17), (14, 0), (15, 0), (16, 19), (19, 0), (20, 0), (22, 0), (24, 22), (27, 0)]
def xm_2 : xi_M := (1, "<init>", "()V", prog_3_method_1_code, none, 2, xk_2)
/-- GuineaHours$Sights.<init>()V -/
def xc_3 : List xi_E := [(.aload_n 0, [0], 0, 0), (.invokespecial 3, [], 0, 0), (.aload_n 0, [0], 0, 0), (.iconst 0, [], 0, 0), (.putfield 9, [3, 0, 0], 0, 0), (.aload_n 0, [0], 0, 0), (.iconst 0, [], 0, 0), (.putfield 15, [3, 1, 3], 0, 0), (.aload_n 0, [0], 0, 0), (.bipush 8, [], 8, 0), (.newarray .int, [9], 0, 0), (.putfield 19, [3, 2, 2], 0, 0), (.aload_n 0, [0], 0, 0), (.bipush 8, [], 8, 0), (.newarray .int, [9], 0, 0), (.putfield 23, [3, 3, 2], 0, 0), (.aload_n 0, [0], 0, 0), (.bipush 8, [], 8, 0), (.newarray .int, [9], 0, 0), (.putfield 26, [3, 4, 2], 0, 0), (.return_, [], 0, 0)]
def xk_3 : List (Nat × Nat) := [(0, 0), (1, 4), (4, 0), (5, 0), (6, 25), (9, 0), (10, 0), (11, 27), (14, 0), (15, 0), (17, 0), (19, 29), (22, 0), (23, 0), (25, 0), (27, 31), (30, 0), (31, 0), (33, 0), (35, 33), (38, 0)]
def xm_3 : xi_M := (3, "<init>", "()V", prog_5_method_1_code, none, 2, xk_3)
/-- GuineaHours$Walk.<init>(LGuineaHours$Town;)V -/
def xc_4 : List xi_E := [(.aload_n 0, [0], 0, 0), (.invokespecial 3, [], 0, 0), (.aload_n 0, [0], 0, 0), (.iconst 0, [], 0, 0), (.putfield 9, [6, 0, 3], 0, 0), (.aload_n 0, [0], 0, 0), (.iconst 0, [], 0, 0), (.putfield 15, [6, 1, 0], 0, 0), (.aload_n 0, [0], 0, 0), (.iconst 0, [], 0, 0), (.putfield 19, [6, 2, 0], 0, 0), (.aload_n 0, [0], 0, 0), (.iconst 0, [], 0, 0), (.putfield 22, [6, 4, 3], 0, 0), (.aload_n 0, [0], 0, 0), (.iconst 0, [], 0, 0), (.putfield 25, [6, 5, 0], 0, 0), (.aload_n 0, [0], 0, 0), (.bipush 7, [], 7, 0), (.newarray .int, [9], 0, 0), (.putfield 28, [6, 6, 2], 0, 0), (.aload_n 0, [0], 0, 0), (.bipush 7, [], 7, 0), (.newarray .int, [9], 0, 0), (.putfield 32, [6, 7, 2], 0, 0), (.aload_n 0, [0], 0, 0), (.bipush 6, [], 6, 0), (.newarray .int, [9], 0, 0), (.putfield 35, [6, 8, 2], 0, 0), (.aload_n 0, [0], 0, 0), (.bipush 6, [], 6, 0), (.newarray .int, [9], 0, 0), (.putfield 38, [6, 9, 2], 0, 0), (.aload_n 0, [0], 0, 0), (.bipush 42, [], 42, 0), (.newarray .int, [9], 0, 0), (.putfield 41, [6, 10, 2], 0, 0), (.aload_n 0, [0], 0, 0), (.aload_n 1, [1], 0, 0), (.putfield 44, [6, 3, 2], 0, 0), (.return_, [], 0, 0)]
def xk_4 : List (Nat × Nat) := [(0, 0), (1, 6), (4, 0), (5, 0), (6, 35), (9, 0), (10, 0), (11, 37), (14, 0), (15, 0), (16, 39), (19, 0), (20, 0), (21, 42), (24, 0), (25, 0), (26, 43), (29, 0), (30, 0), (32, 0), (34, 44), (37, 0), (38, 0), (40, 0), (42, 45), (45, 0), (46, 0), (48, 0), (50, 46), (53, 0), (54, 0), (56, 0), (58, 47), (61, 0), (62, 0), (64, 0), (66, 48), (69, 0), (70, 0), (71, 41), (74, 0)]
def xm_4 : xi_M := (6, "<init>", "(LGuineaHours$Town;)V", prog_8_method_1_code, none, 2, xk_4)
/-- GuineaHours$Values.<init>(LGuineaHours$Town;)V -/
def xc_5 : List xi_E := [(.aload_n 0, [0], 0, 0), (.invokespecial 3, [], 0, 0), (.aload_n 0, [0], 0, 0), (.bipush 42, [], 42, 0), (.newarray .int, [9], 0, 0), (.putfield 9, [5, 1, 2], 0, 0), (.aload_n 0, [0], 0, 0), (.aload_n 1, [1], 0, 0), (.putfield 15, [5, 0, 2], 0, 0), (.return_, [], 0, 0)]
def xk_5 : List (Nat × Nat) := [(0, 0), (1, 8), (4, 0), (5, 0), (7, 0), (9, 50), (12, 0), (13, 0), (14, 49), (17, 0)]
def xm_5 : xi_M := (5, "<init>", "(LGuineaHours$Town;)V", prog_7_method_1_code, none, 2, xk_5)
/-- GuineaHours$Chances.<init>(LGuineaHours$Town;)V -/
def xc_6 : List xi_E := [(.aload_n 0, [0], 0, 0), (.invokespecial 3, [], 0, 0), (.aload_n 0, [0], 0, 0), (.bipush 42, [], 42, 0), (.newarray .long, [11], 0, 0), (.putfield 9, [0, 1, 2], 0, 0), (.aload_n 0, [0], 0, 0), (.aload_n 1, [1], 0, 0), (.putfield 15, [0, 0, 2], 0, 0), (.return_, [], 0, 0)]
def xk_6 : List (Nat × Nat) := [(0, 0), (1, 10), (4, 0), (5, 0), (7, 0), (9, 52), (12, 0), (13, 0), (14, 51), (17, 0)]
def xm_6 : xi_M := (0, "<init>", "(LGuineaHours$Town;)V", prog_2_method_1_code, none, 2, xk_6)
/-- GuineaHours$Pairs.<init>()V -/
def xc_7 : List xi_E := [(.aload_n 0, [0], 0, 0), (.invokespecial 3, [], 0, 0), (.aload_n 0, [0], 0, 0), (.bipush 7, [], 7, 0), (.newarray .int, [9], 0, 0), (.putfield 9, [2, 0, 2], 0, 0), (.aload_n 0, [0], 0, 0), (.bipush 7, [], 7, 0), (.newarray .int, [9], 0, 0), (.putfield 15, [2, 1, 2], 0, 0), (.return_, [], 0, 0)]
def xk_7 : List (Nat × Nat) := [(0, 0), (1, 11), (4, 0), (5, 0), (7, 0), (9, 53), (12, 0), (13, 0), (15, 0), (17, 54), (20, 0)]
def xm_7 : xi_M := (2, "<init>", "()V", prog_4_method_1_code, none, 2, xk_7)
/-- java/util/Arrays.fill([II)V -/
def xc_8 : List xi_E := [(.iconst 0, [], 0, 0), (.istore_n 2, [2], 0, 0), (.aload_n 0, [0], 0, 0), (.arraylength, [], 0, 0), (.istore_n 3, [3], 0, 0), (.iload_n 2, [2], 0, 0), (.iload_n 3, [3], 0, 0), (.if_icmp .ge 13, [14], 0, 0), (.aload_n 0, [0], 0, 0), (.iload_n 2, [2], 0, 0), (.iload_n 1, [1], 0, 0), (.iastore, [], 0, 0), (.iinc 2 1, [2], 1, 0), (.goto (-12), [5], 0, 0), (.return_, [], 0, 0)]
def xk_8 : List (Nat × Nat) := [(0, 0), (1, 0), (2, 0), (3, 0), (4, 0), (5, 0), (6, 0), (7, 0), (10, 0), (11, 0), (12, 0), (13, 0), (14, 0), (17, 0), (20, 0)]
def xm_8 : xi_M := (12, "fill", "([II)V", prog_14_method_103_code, none, 0, xk_8)
/-- GuineaHours.row(II)I -/
def xc_9 : List xi_E := [(.iload_n 1, [1], 0, 0), (.invokestatic 110, [10, 1], 0, 0), (.ifCond .eq 9, [6], 0, 0), (.iload_n 2, [2], 0, 0), (.bipush 40, [], 40, 0), (.if_icmp .le 5, [8], 0, 0), (.iconst (-1), [], (-1), 0), (.ireturn, [0], 0, 0), (.iload_n 2, [2], 0, 0), (.ifCond .ge 9, [14], 0, 0), (.aload_n 0, [0], 0, 0), (.iconst 5, [], 5, 0), (.invokevirtual 114, [11, 2, 7], 0, 0), (.ireturn, [0], 0, 0), (.aload_n 0, [0], 0, 0), (.iload_n 1, [1], 0, 0), (.iload_n 2, [2], 0, 0), (.invokevirtual 118, [12, 3, 7], 0, 0), (.iload_n 2, [2], 0, 0), (.ireturn, [0], 0, 0)]
def xk_9 : List (Nat × Nat) := [(0, 0), (1, 14), (4, 0), (7, 0), (8, 0), (10, 0), (13, 0), (14, 0), (15, 0), (16, 0), (19, 0), (20, 0), (21, 15), (24, 0), (25, 0), (26, 0), (27, 0), (28, 16), (31, 0), (32, 0)]
def xm_9 : xi_M := (7, "row", "(II)I", prog_1_method_2_code, some .int, 1, xk_9)
/-- GuineaHours.isRow(I)Z -/
def xc_10 : List xi_E := [(.iload_n 0, [0], 0, 0), (.ifCond .lt 13, [7], 0, 0), (.iload_n 0, [0], 0, 0), (.bipush 6, [], 6, 0), (.if_icmp .ge 7, [7], 0, 0), (.iconst 1, [], 1, 0), (.goto 4, [8], 0, 0), (.iconst 0, [], 0, 0), (.ireturn, [1], 0, 0)]
def xk_10 : List (Nat × Nat) := [(0, 0), (1, 0), (4, 0), (5, 0), (7, 0), (10, 0), (11, 0), (14, 0), (15, 0)]
def xm_10 : xi_M := (7, "isRow", "(I)Z", prog_1_method_55_code, some .boolean, 0, xk_10)
/-- GuineaHours.found(I)I -/
def xc_11 : List xi_E := [(.aload_n 0, [0], 0, 0), (.iload_n 1, [1], 0, 0), (.putfield 98, [7, 17, 0], 0, 0), (.iload_n 1, [1], 0, 0), (.iconst 1, [], 1, 0), (.if_icmp .lt 18, [17], 0, 0), (.iload_n 1, [1], 0, 0), (.iconst 5, [], 5, 0), (.if_icmp .gt 13, [17], 0, 0), (.aload_n 0, [0], 0, 0), (.getfield 101, [7, 18, 2], 0, 0), (.iload_n 1, [1], 0, 0), (.dup2, [], 0, 0), (.iaload, [], 0, 0), (.iconst 1, [], 1, 0), (.iadd, [], 0, 0), (.iastore, [], 0, 0), (.bipush (-3), [], (-3), 0), (.ireturn, [0], 0, 0)]
def xk_11 : List (Nat × Nat) := [(0, 0), (1, 0), (2, 72), (5, 0), (6, 0), (7, 0), (10, 0), (11, 0), (12, 0), (15, 0), (16, 73), (19, 0), (20, 0), (21, 0), (22, 0), (23, 0), (24, 0), (25, 0), (27, 0)]
def xm_11 : xi_M := (7, "found", "(I)I", prog_1_method_54_code, some .int, 1, xk_11)
/-- GuineaHours.makeRow(II)V -/
def xc_12 : List xi_E := [(.aload_n 0, [0], 0, 0), (.getfield 11, [7, 0, 2], 0, 0), (.iload_n 1, [1], 0, 0), (.aaload, [], 0, 0), (.iconst 0, [], 0, 0), (.invokestatic 104, [8, 2], 0, 0), (.aload_n 0, [0], 0, 0), (.getfield 14, [7, 1, 2], 0, 0), (.iload_n 1, [1], 0, 0), (.iload_n 2, [2], 0, 0), (.iastore, [], 0, 0), (.return_, [], 0, 0)]
def xk_12 : List (Nat × Nat) := [(0, 0), (1, 55), (4, 0), (5, 0), (6, 0), (7, 12), (10, 0), (11, 56), (14, 0), (15, 0), (16, 0), (17, 0)]
def xm_12 : xi_M := (7, "makeRow", "(II)V", prog_1_method_62_code, none, 1, xk_12)
/-- GuineaHours.lay(III)I -/
def xc_13 : List xi_E := [(.aload_n 0, [0], 0, 0), (.iload_n 1, [1], 0, 0), (.iload_n 2, [2], 0, 0), (.invokevirtual 122, [14, 3, 7], 0, 0), (.istore 4, [4], 0, 0), (.iload 4, [4], 0, 0), (.ifCond .eq 6, [9], 0, 0), (.iload 4, [4], 0, 0), (.ireturn, [0], 0, 0), (.aload_n 0, [0], 0, 0), (.aload_n 0, [0], 0, 0), (.getfield 11, [7, 0, 2], 0, 0), (.iload_n 1, [1], 0, 0), (.aaload, [], 0, 0), (.iload_n 2, [2], 0, 0), (.iaload, [], 0, 0), (.putfield 87, [7, 14, 0], 0, 0), (.aload_n 0, [0], 0, 0), (.getfield 11, [7, 0, 2], 0, 0), (.iload_n 1, [1], 0, 0), (.aaload, [], 0, 0), (.iload_n 2, [2], 0, 0), (.iload_n 3, [3], 0, 0), (.iastore, [], 0, 0), (.iconst 1, [], 1, 0), (.ireturn, [0], 0, 0)]
def xk_13 : List (Nat × Nat) := [(0, 0), (1, 0), (2, 0), (3, 18), (6, 0), (8, 0), (10, 0), (13, 0), (15, 0), (16, 0), (17, 0), (18, 55), (21, 0), (22, 0), (23, 0), (24, 0), (25, 69), (28, 0), (29, 55), (32, 0), (33, 0), (34, 0), (35, 0), (36, 0), (37, 0), (38, 0)]
def xm_13 : xi_M := (7, "lay", "(III)I", prog_1_method_3_code, some .int, 1, xk_13)
/-- GuineaHours.refusePlace(II)I -/
def xc_14 : List xi_E := [(.aload_n 0, [0], 0, 0), (.iload_n 1, [1], 0, 0), (.invokevirtual 126, [15, 2, 7], 0, 0), (.istore_n 3, [3], 0, 0), (.iload_n 3, [3], 0, 0), (.ifCond .eq 5, [8], 0, 0), (.iload_n 3, [3], 0, 0), (.ireturn, [0], 0, 0), (.iload_n 2, [2], 0, 0), (.ifCond .lt 13, [16], 0, 0), (.iload_n 2, [2], 0, 0), (.aload_n 0, [0], 0, 0), (.getfield 14, [7, 1, 2], 0, 0), (.iload_n 1, [1], 0, 0), (.iaload, [], 0, 0), (.if_icmp .lt 11, [20], 0, 0), (.aload_n 0, [0], 0, 0), (.iconst 2, [], 2, 0), (.invokevirtual 114, [11, 2, 7], 0, 0), (.goto 4, [21], 0, 0), (.iconst 0, [], 0, 0), (.ireturn, [0], 0, 0)]
def xk_14 : List (Nat × Nat) := [(0, 0), (1, 0), (2, 19), (5, 0), (6, 0), (7, 0), (10, 0), (11, 0), (12, 0), (13, 0), (16, 0), (17, 0), (18, 56), (21, 0), (22, 0), (23, 0), (26, 0), (27, 0), (28, 15), (31, 0), (34, 0), (35, 0)]
def xm_14 : xi_M := (7, "refusePlace", "(II)I", prog_1_method_59_code, some .int, 1, xk_14)
/-- GuineaHours.refuseRow(I)I -/
def xc_15 : List xi_E := [(.iload_n 1, [1], 0, 0), (.invokestatic 110, [10, 1], 0, 0), (.ifCond .ne 5, [5], 0, 0), (.iconst (-1), [], (-1), 0), (.ireturn, [0], 0, 0), (.aload_n 0, [0], 0, 0), (.getfield 14, [7, 1, 2], 0, 0), (.iload_n 1, [1], 0, 0), (.iaload, [], 0, 0), (.ifCond .ge 11, [14], 0, 0), (.aload_n 0, [0], 0, 0), (.iconst 1, [], 1, 0), (.invokevirtual 114, [11, 2, 7], 0, 0), (.goto 4, [15], 0, 0), (.iconst 0, [], 0, 0), (.ireturn, [0], 0, 0)]
def xk_15 : List (Nat × Nat) := [(0, 0), (1, 14), (4, 0), (7, 0), (8, 0), (9, 0), (10, 56), (13, 0), (14, 0), (15, 0), (18, 0), (19, 0), (20, 15), (23, 0), (26, 0), (27, 0)]
def xm_15 : xi_M := (7, "refuseRow", "(I)I", prog_1_method_58_code, some .int, 1, xk_15)
/-- GuineaHours.at(II)I -/
def xc_16 : List xi_E := [(.aload_n 0, [0], 0, 0), (.iload_n 1, [1], 0, 0), (.iload_n 2, [2], 0, 0), (.invokevirtual 122, [14, 3, 7], 0, 0), (.istore_n 3, [3], 0, 0), (.iload_n 3, [3], 0, 0), (.ifCond .eq 5, [9], 0, 0), (.iload_n 3, [3], 0, 0), (.ireturn, [0], 0, 0), (.aload_n 0, [0], 0, 0), (.aload_n 0, [0], 0, 0), (.getfield 11, [7, 0, 2], 0, 0), (.iload_n 1, [1], 0, 0), (.aaload, [], 0, 0), (.iload_n 2, [2], 0, 0), (.iaload, [], 0, 0), (.putfield 87, [7, 14, 0], 0, 0), (.iconst 1, [], 1, 0), (.ireturn, [0], 0, 0)]
def xk_16 : List (Nat × Nat) := [(0, 0), (1, 0), (2, 0), (3, 18), (6, 0), (7, 0), (8, 0), (11, 0), (12, 0), (13, 0), (14, 0), (15, 55), (18, 0), (19, 0), (20, 0), (21, 0), (22, 69), (25, 0), (26, 0)]
def xm_16 : xi_M := (7, "at", "(II)I", prog_1_method_4_code, some .int, 1, xk_16)
/-- GuineaHours.tear(I)I -/
def xc_17 : List xi_E := [(.aload_n 0, [0], 0, 0), (.iload_n 1, [1], 0, 0), (.invokevirtual 126, [15, 2, 7], 0, 0), (.istore_n 2, [2], 0, 0), (.iload_n 2, [2], 0, 0), (.ifCond .eq 5, [8], 0, 0), (.iload_n 2, [2], 0, 0), (.ireturn, [0], 0, 0), (.aload_n 0, [0], 0, 0), (.getfield 14, [7, 1, 2], 0, 0), (.iload_n 1, [1], 0, 0), (.iconst (-1), [], (-1), 0), (.iastore, [], 0, 0), (.iconst 1, [], 1, 0), (.ireturn, [0], 0, 0)]
def xk_17 : List (Nat × Nat) := [(0, 0), (1, 0), (2, 19), (5, 0), (6, 0), (7, 0), (10, 0), (11, 0), (12, 0), (13, 56), (16, 0), (17, 0), (18, 0), (19, 0), (20, 0)]
def xm_17 : xi_M := (7, "tear", "(I)I", prog_1_method_5_code, some .int, 1, xk_17)
/-- GuineaHours.copy(IIIII)I -/
def xc_18 : List xi_E := [(.iload_n 1, [1], 0, 0), (.invokestatic 110, [10, 1], 0, 0), (.ifCond .eq 10, [6], 0, 0), (.iload_n 3, [3], 0, 0), (.invokestatic 110, [10, 1], 0, 0), (.ifCond .ne 5, [8], 0, 0), (.iconst (-1), [], (-1), 0), (.ireturn, [0], 0, 0), (.iload 5, [5], 0, 0), (.ifCond .ge 9, [14], 0, 0), (.aload_n 0, [0], 0, 0), (.iconst 5, [], 5, 0), (.invokevirtual 114, [11, 2, 7], 0, 0), (.ireturn, [0], 0, 0), (.aload_n 0, [0], 0, 0), (.getfield 14, [7, 1, 2], 0, 0), (.iload_n 1, [1], 0, 0), (.iaload, [], 0, 0), (.ifCond .lt 12, [24], 0, 0), (.aload_n 0, [0], 0, 0), (.getfield 14, [7, 1, 2], 0, 0), (.iload_n 3, [3], 0, 0), (.iaload, [], 0, 0), (.ifCond .ge 9, [28], 0, 0), (.aload_n 0, [0], 0, 0), (.iconst 1, [], 1, 0), (.invokevirtual 114, [11, 2, 7], 0, 0), (.ireturn, [0], 0, 0), (.aload_n 0, [0], 0, 0), (.getfield 14, [7, 1, 2], 0, 0), (.iload_n 1, [1], 0, 0), (.iaload, [], 0, 0), (.iload_n 2, [2], 0, 0), (.iload 5, [5], 0, 0), (.invokestatic 129, [19, 3], 0, 0), (.ifCond .eq 19, [44], 0, 0), (.aload_n 0, [0], 0, 0), (.getfield 14, [7, 1, 2], 0, 0), (.iload_n 3, [3], 0, 0), (.iaload, [], 0, 0), (.iload 4, [4], 0, 0), (.iload 5, [5], 0, 0), (.invokestatic 129, [19, 3], 0, 0), (.ifCond .ne 9, [48], 0, 0), (.aload_n 0, [0], 0, 0), (.iconst 2, [], 2, 0), (.invokevirtual 114, [11, 2, 7], 0, 0), (.ireturn, [0], 0, 0), (.aload_n 0, [0], 0, 0), (.getfield 11, [7, 0, 2], 0, 0), (.iload_n 1, [1], 0, 0), (.aaload, [], 0, 0), (.iload_n 2, [2], 0, 0), (.aload_n 0, [0], 0, 0), (.getfield 11, [7, 0, 2], 0, 0), (.iload_n 3, [3], 0, 0), (.aaload, [], 0, 0), (.iload 4, [4], 0, 0), (.iload 5, [5], 0, 0), (.invokestatic 133, [], 0, 0), (.iconst 1, [], 1, 0), (.ireturn, [0], 0, 0)]
def xk_18 : List (Nat × Nat) := [(0, 0), (1, 14), (4, 0), (7, 0), (8, 14), (11, 0), (14, 0), (15, 0), (16, 0), (18, 0), (21, 0), (22, 0), (23, 15), (26, 0), (27, 0), (28, 56), (31, 0), (32, 0), (33, 0), (36, 0), (37, 56), (40, 0), (41, 0), (42, 0), (45, 0), (46, 0), (47, 15), (50, 0), (51, 0), (52, 56), (55, 0), (56, 0), (57, 0), (58, 0), (60, 23), (63, 0), (66, 0), (67, 56), (70, 0), (71, 0), (72, 0), (74, 0), (76, 23), (79, 0), (82, 0), (83, 0), (84, 15), (87, 0), (88, 0), (89, 55), (92, 0), (93, 0), (94, 0), (95, 0), (96, 55), (99, 0), (100, 0), (101, 0), (103, 0), (105, 24), (108, 0), (109, 0)]
def xm_18 : xi_M := (7, "copy", "(IIIII)I", prog_1_method_6_code, some .int, 1, xk_18)
/-- GuineaHours.hasPlaces(III)Z -/
def xc_19 : List xi_E := [(.iload_n 1, [1], 0, 0), (.ifCond .lt 23, [14], 0, 0), (.iload_n 1, [1], 0, 0), (.iload_n 0, [0], 0, 0), (.if_icmp .gt 18, [14], 0, 0), (.iload_n 2, [2], 0, 0), (.ifCond .lt 14, [14], 0, 0), (.iload_n 2, [2], 0, 0), (.iload_n 0, [0], 0, 0), (.iload_n 1, [1], 0, 0), (.isub, [], 0, 0), (.if_icmp .gt 7, [14], 0, 0), (.iconst 1, [], 1, 0), (.goto 4, [15], 0, 0), (.iconst 0, [], 0, 0), (.ireturn, [1], 0, 0)]
def xk_19 : List (Nat × Nat) := [(0, 0), (1, 0), (4, 0), (5, 0), (6, 0), (9, 0), (10, 0), (13, 0), (14, 0), (15, 0), (16, 0), (17, 0), (20, 0), (21, 0), (24, 0), (25, 0)]
def xm_19 : xi_M := (7, "hasPlaces", "(III)Z", prog_1_method_61_code, some .boolean, 0, xk_19)
/-- GuineaHours.mean(I)I -/
def xc_20 : List xi_E := [(.aload_n 0, [0], 0, 0), (.iload_n 1, [1], 0, 0), (.invokevirtual 126, [15, 2, 7], 0, 0), (.istore_n 2, [2], 0, 0), (.iload_n 2, [2], 0, 0), (.ifCond .eq 5, [8], 0, 0), (.iload_n 2, [2], 0, 0), (.ireturn, [0], 0, 0), (.aload_n 0, [0], 0, 0), (.getfield 14, [7, 1, 2], 0, 0), (.iload_n 1, [1], 0, 0), (.iaload, [], 0, 0), (.istore_n 3, [3], 0, 0), (.iload_n 3, [3], 0, 0), (.ifCond .gt 9, [19], 0, 0), (.aload_n 0, [0], 0, 0), (.iconst 4, [], 4, 0), (.invokevirtual 114, [11, 2, 7], 0, 0), (.ireturn, [0], 0, 0), (.lconst 0, [], 0, 0), (.lstore 4, [4], 0, 0), (.iconst 0, [], 0, 0), (.istore 6, [6], 0, 0), (.iload 6, [6], 0, 0), (.iload_n 3, [3], 0, 0), (.if_icmp .ge 24, [38], 0, 0), (.lload 4, [4], 0, 0), (.aload_n 0, [0], 0, 0), (.getfield 11, [7, 0, 2], 0, 0), (.iload_n 1, [1], 0, 0), (.aaload, [], 0, 0), (.iload 6, [6], 0, 0), (.iaload, [], 0, 0), (.i2l, [], 0, 0), (.ladd, [], 0, 0), (.lstore 4, [4], 0, 0), (.iinc 6 1, [6], 1, 0), (.goto (-24), [23], 0, 0), (.aload_n 0, [0], 0, 0), (.lload 4, [4], 0, 0), (.iload_n 3, [3], 0, 0), (.i2l, [], 0, 0), (.ldiv, [], 0, 0), (.l2i, [], 0, 0), (.putfield 87, [7, 14, 0], 0, 0), (.iconst 1, [], 1, 0), (.ireturn, [0], 0, 0)]
def xk_20 : List (Nat × Nat) := [(0, 0), (1, 0), (2, 19), (5, 0), (6, 0), (7, 0), (10, 0), (11, 0), (12, 0), (13, 56), (16, 0), (17, 0), (18, 0), (19, 0), (20, 0), (23, 0), (24, 0), (25, 15), (28, 0), (29, 0), (30, 0), (32, 0), (33, 0), (35, 0), (37, 0), (38, 0), (41, 0), (43, 0), (44, 55), (47, 0), (48, 0), (49, 0), (51, 0), (52, 0), (53, 0), (54, 0), (56, 0), (59, 0), (62, 0), (63, 0), (65, 0), (66, 0), (67, 0), (68, 0), (69, 69), (72, 0), (73, 0)]
def xm_20 : xi_M := (7, "mean", "(I)I", prog_1_method_7_code, some .int, 1, xk_20)
/-- GuineaHours.text(II)I -/
def xc_21 : List xi_E := [(.iload_n 1, [1], 0, 0), (.invokestatic 139, [22, 1], 0, 0), (.ifCond .eq 9, [6], 0, 0), (.iload_n 2, [2], 0, 0), (.bipush 80, [], 80, 0), (.if_icmp .le 5, [8], 0, 0), (.iconst (-1), [], (-1), 0), (.ireturn, [0], 0, 0), (.iload_n 2, [2], 0, 0), (.ifCond .ge 9, [14], 0, 0), (.aload_n 0, [0], 0, 0), (.iconst 5, [], 5, 0), (.invokevirtual 114, [11, 2, 7], 0, 0), (.ireturn, [0], 0, 0), (.aload_n 0, [0], 0, 0), (.getfield 20, [7, 2, 2], 0, 0), (.iload_n 1, [1], 0, 0), (.aaload, [], 0, 0), (.bipush 32, [], 32, 0), (.invokestatic 142, [23, 2], 0, 0), (.aload_n 0, [0], 0, 0), (.getfield 23, [7, 3, 2], 0, 0), (.iload_n 1, [1], 0, 0), (.iload_n 2, [2], 0, 0), (.iastore, [], 0, 0), (.iload_n 2, [2], 0, 0), (.ireturn, [0], 0, 0)]
def xk_21 : List (Nat × Nat) := [(0, 0), (1, 27), (4, 0), (7, 0), (8, 0), (10, 0), (13, 0), (14, 0), (15, 0), (16, 0), (19, 0), (20, 0), (21, 15), (24, 0), (25, 0), (26, 57), (29, 0), (30, 0), (31, 0), (33, 28), (36, 0), (37, 58), (40, 0), (41, 0), (42, 0), (43, 0), (44, 0)]
def xm_21 : xi_M := (7, "text", "(II)I", prog_1_method_8_code, some .int, 1, xk_21)
/-- GuineaHours.isText(I)Z -/
def xc_22 : List xi_E := [(.iload_n 0, [0], 0, 0), (.ifCond .lt 12, [7], 0, 0), (.iload_n 0, [0], 0, 0), (.iconst 4, [], 4, 0), (.if_icmp .ge 7, [7], 0, 0), (.iconst 1, [], 1, 0), (.goto 4, [8], 0, 0), (.iconst 0, [], 0, 0), (.ireturn, [1], 0, 0)]
def xk_22 : List (Nat × Nat) := [(0, 0), (1, 0), (4, 0), (5, 0), (6, 0), (9, 0), (10, 0), (13, 0), (14, 0)]
def xm_22 : xi_M := (7, "isText", "(I)Z", prog_1_method_56_code, some .boolean, 0, xk_22)
/-- java/util/Arrays.fill([BB)V -/
def xc_23 : List xi_E := [(.iconst 0, [], 0, 0), (.istore_n 2, [2], 0, 0), (.aload_n 0, [0], 0, 0), (.arraylength, [], 0, 0), (.istore_n 3, [3], 0, 0), (.iload_n 2, [2], 0, 0), (.iload_n 3, [3], 0, 0), (.if_icmp .ge 13, [14], 0, 0), (.aload_n 0, [0], 0, 0), (.iload_n 2, [2], 0, 0), (.iload_n 1, [1], 0, 0), (.bastore, [], 0, 0), (.iinc 2 1, [2], 1, 0), (.goto (-12), [5], 0, 0), (.return_, [], 0, 0)]
def xk_23 : List (Nat × Nat) := [(0, 0), (1, 0), (2, 0), (3, 0), (4, 0), (5, 0), (6, 0), (7, 0), (10, 0), (11, 0), (12, 0), (13, 0), (14, 0), (17, 0), (20, 0)]
def xm_23 : xi_M := (12, "fill", "([BB)V", prog_14_method_109_code, none, 0, xk_23)
/-- GuineaHours.put(III)I -/
def xc_24 : List xi_E := [(.aload_n 0, [0], 0, 0), (.iload_n 1, [1], 0, 0), (.invokevirtual 145, [25, 2, 7], 0, 0), (.istore 4, [4], 0, 0), (.iload 4, [4], 0, 0), (.ifCond .eq 6, [8], 0, 0), (.iload 4, [4], 0, 0), (.ireturn, [0], 0, 0), (.iload_n 2, [2], 0, 0), (.ifCond .lt 13, [16], 0, 0), (.iload_n 2, [2], 0, 0), (.aload_n 0, [0], 0, 0), (.getfield 23, [7, 3, 2], 0, 0), (.iload_n 1, [1], 0, 0), (.iaload, [], 0, 0), (.if_icmp .lt 9, [20], 0, 0), (.aload_n 0, [0], 0, 0), (.iconst 2, [], 2, 0), (.invokevirtual 114, [11, 2, 7], 0, 0), (.ireturn, [0], 0, 0), (.aload_n 0, [0], 0, 0), (.getfield 20, [7, 2, 2], 0, 0), (.iload_n 1, [1], 0, 0), (.aaload, [], 0, 0), (.iload_n 2, [2], 0, 0), (.baload, [], 0, 0), (.istore 5, [5], 0, 0), (.aload_n 0, [0], 0, 0), (.getfield 20, [7, 2, 2], 0, 0), (.iload_n 1, [1], 0, 0), (.aaload, [], 0, 0), (.iload_n 2, [2], 0, 0), (.iload_n 3, [3], 0, 0), (.i2b, [], 0, 0), (.bastore, [], 0, 0), (.iload 5, [5], 0, 0), (.sipush 1000, [], 1000, 0), (.iadd, [], 0, 0), (.ireturn, [0], 0, 0)]
def xk_24 : List (Nat × Nat) := [(0, 0), (1, 0), (2, 30), (5, 0), (7, 0), (9, 0), (12, 0), (14, 0), (15, 0), (16, 0), (19, 0), (20, 0), (21, 58), (24, 0), (25, 0), (26, 0), (29, 0), (30, 0), (31, 15), (34, 0), (35, 0), (36, 57), (39, 0), (40, 0), (41, 0), (42, 0), (43, 0), (45, 0), (46, 57), (49, 0), (50, 0), (51, 0), (52, 0), (53, 0), (54, 0), (55, 0), (57, 0), (60, 0), (61, 0)]
def xm_24 : xi_M := (7, "put", "(III)I", prog_1_method_9_code, some .int, 1, xk_24)
/-- GuineaHours.refuseText(I)I -/
def xc_25 : List xi_E := [(.iload_n 1, [1], 0, 0), (.invokestatic 139, [22, 1], 0, 0), (.ifCond .ne 5, [5], 0, 0), (.iconst (-1), [], (-1), 0), (.ireturn, [0], 0, 0), (.aload_n 0, [0], 0, 0), (.getfield 23, [7, 3, 2], 0, 0), (.iload_n 1, [1], 0, 0), (.iaload, [], 0, 0), (.ifCond .ge 11, [14], 0, 0), (.aload_n 0, [0], 0, 0), (.iconst 1, [], 1, 0), (.invokevirtual 114, [11, 2, 7], 0, 0), (.goto 4, [15], 0, 0), (.iconst 0, [], 0, 0), (.ireturn, [0], 0, 0)]
def xk_25 : List (Nat × Nat) := [(0, 0), (1, 27), (4, 0), (7, 0), (8, 0), (9, 0), (10, 58), (13, 0), (14, 0), (15, 0), (18, 0), (19, 0), (20, 15), (23, 0), (26, 0), (27, 0)]
def xm_25 : xi_M := (7, "refuseText", "(I)I", prog_1_method_60_code, some .int, 1, xk_25)
/-- GuineaHours.fault(I)I -/
def xc_26 : List xi_E := [(.aload_n 0, [0], 0, 0), (.iload_n 1, [1], 0, 0), (.invokevirtual 145, [25, 2, 7], 0, 0), (.istore_n 2, [2], 0, 0), (.iload_n 2, [2], 0, 0), (.ifCond .eq 5, [8], 0, 0), (.iload_n 2, [2], 0, 0), (.ireturn, [0], 0, 0), (.aload_n 0, [0], 0, 0), (.getfield 33, [7, 5, 2], 0, 0), (.aload_n 0, [0], 0, 0), (.getfield 20, [7, 2, 2], 0, 0), (.iload_n 1, [1], 0, 0), (.aaload, [], 0, 0), (.aload_n 0, [0], 0, 0), (.getfield 23, [7, 3, 2], 0, 0), (.iload_n 1, [1], 0, 0), (.iaload, [], 0, 0), (.invokevirtual 148, [27, 3, 4], 0, 0), (.ireturn, [0], 0, 0)]
def xk_26 : List (Nat × Nat) := [(0, 0), (1, 0), (2, 30), (5, 0), (6, 0), (7, 0), (10, 0), (11, 0), (12, 0), (13, 60), (16, 0), (17, 57), (20, 0), (21, 0), (22, 0), (23, 58), (26, 0), (27, 0), (28, 32), (31, 0)]
def xm_26 : xi_M := (7, "fault", "(I)I", prog_1_method_10_code, some .int, 1, xk_26)
/-- GuineaHours$Town.readText([BI)I -/
def xc_27 : List xi_E := [(.aload_n 0, [0], 0, 0), (.iconst 0, [], 0, 0), (.putfield 9, [4, 0, 0], 0, 0), (.aload_n 0, [0], 0, 0), (.iconst 0, [], 0, 0), (.putfield 15, [4, 1, 0], 0, 0), (.iload_n 2, [2], 0, 0), (.aload_n 1, [1], 0, 0), (.arraylength, [], 0, 0), (.invokestatic 64, [2], 0, 0), (.istore_n 3, [3], 0, 0), (.aload_n 1, [1], 0, 0), (.iconst 0, [], 0, 0), (.iload_n 3, [3], 0, 0), (.invokestatic 69, [29, 3], 0, 0), (.istore 4, [4], 0, 0), (.iload 4, [4], 0, 0), (.iload_n 3, [3], 0, 0), (.if_icmp .ge 12, [24], 0, 0), (.aload_n 1, [1], 0, 0), (.iload 4, [4], 0, 0), (.baload, [], 0, 0), (.bipush 104, [], 104, 0), (.if_icmp .eq 6, [26], 0, 0), (.iload 4, [4], 0, 0), (.ireturn, [0], 0, 0), (.iinc 4 1, [4], 1, 0), (.iload 4, [4], 0, 0), (.iload_n 3, [3], 0, 0), (.if_icmp .ge 21, [40], 0, 0), (.aload_n 1, [1], 0, 0), (.iload 4, [4], 0, 0), (.baload, [], 0, 0), (.bipush 49, [], 49, 0), (.if_icmp .lt 12, [40], 0, 0), (.aload_n 1, [1], 0, 0), (.iload 4, [4], 0, 0), (.baload, [], 0, 0), (.bipush 53, [], 53, 0), (.if_icmp .le 6, [42], 0, 0), (.iload 4, [4], 0, 0), (.ireturn, [0], 0, 0), (.aload_n 0, [0], 0, 0), (.aload_n 1, [1], 0, 0), (.iload 4, [4], 0, 0), (.baload, [], 0, 0), (.bipush 48, [], 48, 0), (.isub, [], 0, 0), (.putfield 9, [4, 0, 0], 0, 0), (.aload_n 1, [1], 0, 0), (.iload 4, [4], 0, 0), (.iconst 1, [], 1, 0), (.iadd, [], 0, 0), (.iload_n 3, [3], 0, 0), (.invokestatic 69, [29, 3], 0, 0), (.istore 4, [4], 0, 0), (.iconst 0, [], 0, 0), (.istore 5, [5], 0, 0), (.iload 5, [5], 0, 0), (.bipush 7, [], 7, 0), (.if_icmp .gt 51, [87], 0, 0), (.iload 4, [4], 0, 0), (.iload_n 3, [3], 0, 0), (.if_icmp .ge 45, [87], 0, 0), (.aload_n 0, [0], 0, 0), (.aload_n 1, [1], 0, 0), (.iload 4, [4], 0, 0), (.iload_n 3, [3], 0, 0), (.invokevirtual 73, [30, 4, 4], 0, 0), (.istore 6, [6], 0, 0), (.iload 6, [6], 0, 0), (.bipush (-9), [], (-9), 0), (.if_icmp .eq 6, [75], 0, 0), (.iload 6, [6], 0, 0), (.ireturn, [0], 0, 0), (.aload_n 1, [1], 0, 0), (.iload 4, [4], 0, 0), (.iconst 2, [], 2, 0), (.iadd, [], 0, 0), (.aload_n 0, [0], 0, 0), (.getfield 9, [4, 0, 0], 0, 0), (.iadd, [], 0, 0), (.iload_n 3, [3], 0, 0), (.invokestatic 69, [29, 3], 0, 0), (.istore 4, [4], 0, 0), (.iinc 5 1, [5], 1, 0), (.goto (-52), [58], 0, 0), (.aload_n 0, [0], 0, 0), (.invokevirtual 76, [32, 1, 4], 0, 0), (.bipush (-9), [], (-9), 0), (.ireturn, [0], 0, 0)]
def xk_27 : List (Nat × Nat) := [(0, 0), (1, 0), (2, 0), (5, 0), (6, 0), (7, 5), (10, 0), (11, 0), (12, 0), (13, 33), (16, 0), (17, 0), (18, 0), (19, 0), (20, 34), (23, 0), (25, 0), (27, 0), (28, 0), (31, 0), (32, 0), (34, 0), (35, 0), (37, 0), (40, 0), (42, 0), (43, 0), (46, 0), (48, 0), (49, 0), (52, 0), (53, 0), (55, 0), (56, 0), (58, 0), (61, 0), (62, 0), (64, 0), (65, 0), (67, 0), (70, 0), (72, 0), (73, 0), (74, 0), (75, 0), (77, 0), (78, 0), (80, 0), (81, 0), (84, 0), (85, 0), (87, 0), (88, 0), (89, 0), (90, 34), (93, 0), (95, 0), (96, 0), (98, 0), (100, 0), (102, 0), (105, 0), (107, 0), (108, 0), (111, 0), (112, 0), (113, 0), (115, 0), (116, 35), (119, 0), (121, 0), (123, 0), (125, 0), (128, 0), (130, 0), (131, 0), (132, 0), (134, 0), (135, 0), (136, 0), (137, 0), (140, 0), (141, 0), (142, 34), (145, 0), (147, 0), (150, 0), (153, 0), (154, 37), (157, 0), (159, 0)]
def xm_27 : xi_M := (4, "readText", "([BI)I", prog_6_method_19_code, some .int, 1, xk_27)
/-- java/lang/Math.min(II)I -/
def xc_28 : List xi_E := [(.iload_n 0, [0], 0, 0), (.iload_n 1, [1], 0, 0), (.if_icmp .gt 7, [5], 0, 0), (.iload_n 0, [0], 0, 0), (.goto 4, [6], 0, 0), (.iload_n 1, [1], 0, 0), (.ireturn, [0], 0, 0)]
def xk_28 : List (Nat × Nat) := [(0, 0), (1, 0), (2, 0), (5, 0), (6, 0), (9, 0), (10, 0)]
def xm_28 : xi_M := (11, "min", "(II)I", prog_12_method_69_code, some .int, 0, xk_28)
/-- GuineaHours$Town.skipBlanks([BII)I -/
def xc_29 : List xi_E := [(.iload_n 1, [1], 0, 0), (.istore_n 3, [3], 0, 0), (.iload_n 3, [3], 0, 0), (.iload_n 2, [2], 0, 0), (.if_icmp .ge 17, [12], 0, 0), (.aload_n 0, [0], 0, 0), (.iload_n 3, [3], 0, 0), (.baload, [], 0, 0), (.bipush 32, [], 32, 0), (.if_icmp .ne 9, [12], 0, 0), (.iinc 3 1, [3], 1, 0), (.goto (-16), [2], 0, 0), (.iload_n 3, [3], 0, 0), (.ireturn, [0], 0, 0)]
def xk_29 : List (Nat × Nat) := [(0, 0), (1, 0), (2, 0), (3, 0), (4, 0), (7, 0), (8, 0), (9, 0), (10, 0), (12, 0), (15, 0), (18, 0), (21, 0), (22, 0)]
def xm_29 : xi_M := (4, "skipBlanks", "([BII)I", prog_6_method_20_code, some .int, 0, xk_29)
/-- GuineaHours$Town.readPerson([BII)I -/
def xc_30 : List xi_E := [(.aload_n 1, [1], 0, 0), (.iload_n 2, [2], 0, 0), (.baload, [], 0, 0), (.invokestatic 79, [31, 1], 0, 0), (.istore 4, [4], 0, 0), (.iload 4, [4], 0, 0), (.bipush (-9), [], (-9), 0), (.if_icmp .eq 12, [12], 0, 0), (.aload_n 0, [0], 0, 0), (.getfield 15, [4, 1, 0], 0, 0), (.bipush 7, [], 7, 0), (.if_icmp .lt 5, [14], 0, 0), (.iload_n 2, [2], 0, 0), (.ireturn, [0], 0, 0), (.iload_n 2, [2], 0, 0), (.iconst 1, [], 1, 0), (.iadd, [], 0, 0), (.istore 5, [5], 0, 0), (.iload 5, [5], 0, 0), (.iload_n 3, [3], 0, 0), (.if_icmp .ge 21, [31], 0, 0), (.aload_n 1, [1], 0, 0), (.iload 5, [5], 0, 0), (.baload, [], 0, 0), (.bipush 48, [], 48, 0), (.if_icmp .lt 12, [31], 0, 0), (.aload_n 1, [1], 0, 0), (.iload 5, [5], 0, 0), (.baload, [], 0, 0), (.bipush 57, [], 57, 0), (.if_icmp .le 6, [33], 0, 0), (.iload 5, [5], 0, 0), (.ireturn, [0], 0, 0), (.aload_n 0, [0], 0, 0), (.getfield 18, [4, 2, 2], 0, 0), (.aload_n 0, [0], 0, 0), (.getfield 15, [4, 1, 0], 0, 0), (.iload 4, [4], 0, 0), (.iastore, [], 0, 0), (.aload_n 0, [0], 0, 0), (.getfield 22, [4, 3, 2], 0, 0), (.aload_n 0, [0], 0, 0), (.getfield 15, [4, 1, 0], 0, 0), (.aload_n 1, [1], 0, 0), (.iload 5, [5], 0, 0), (.baload, [], 0, 0), (.bipush 48, [], 48, 0), (.isub, [], 0, 0), (.iastore, [], 0, 0), (.iconst 0, [], 0, 0), (.istore 6, [6], 0, 0), (.iload 6, [6], 0, 0), (.aload_n 0, [0], 0, 0), (.getfield 9, [4, 0, 0], 0, 0), (.if_icmp .ge 83, [99], 0, 0), (.iinc 5 1, [5], 1, 0), (.iload 5, [5], 0, 0), (.iload_n 3, [3], 0, 0), (.if_icmp .ge 30, [74], 0, 0), (.aload_n 1, [1], 0, 0), (.iload 5, [5], 0, 0), (.baload, [], 0, 0), (.bipush 45, [], 45, 0), (.if_icmp .eq 24, [76], 0, 0), (.aload_n 1, [1], 0, 0), (.iload 5, [5], 0, 0), (.baload, [], 0, 0), (.bipush 48, [], 48, 0), (.if_icmp .lt 12, [74], 0, 0), (.aload_n 1, [1], 0, 0), (.iload 5, [5], 0, 0), (.baload, [], 0, 0), (.bipush 53, [], 53, 0), (.if_icmp .le 6, [76], 0, 0), (.iload 5, [5], 0, 0), (.ireturn, [0], 0, 0), (.aload_n 0, [0], 0, 0), (.getfield 25, [4, 4, 2], 0, 0), (.aload_n 0, [0], 0, 0), (.getfield 15, [4, 1, 0], 0, 0), (.iconst 5, [], 5, 0), (.imul, [], 0, 0), (.iload 6, [6], 0, 0), (.iadd, [], 0, 0), (.aload_n 1, [1], 0, 0), (.iload 5, [5], 0, 0), (.baload, [], 0, 0), (.bipush 45, [], 45, 0), (.if_icmp .ne 8, [91], 0, 0), (.bipush (-9), [], (-9), 0), (.goto 10, [96], 0, 0), (.aload_n 1, [1], 0, 0), (.iload 5, [5], 0, 0), (.baload, [], 0, 0), (.bipush 48, [], 48, 0), (.isub, [], 0, 0), (.iastore, [], 0, 0), (.iinc 6 1, [6], 1, 0), (.goto (-86), [51], 0, 0), (.aload_n 0, [0], 0, 0), (.dup, [], 0, 0), (.getfield 15, [4, 1, 0], 0, 0), (.iconst 1, [], 1, 0), (.iadd, [], 0, 0), (.putfield 15, [4, 1, 0], 0, 0), (.bipush (-9), [], (-9), 0), (.ireturn, [0], 0, 0)]
def xk_30 : List (Nat × Nat) := [(0, 0), (1, 0), (2, 0), (3, 36), (6, 0), (8, 0), (10, 0), (12, 0), (15, 0), (16, 5), (19, 0), (21, 0), (24, 0), (25, 0), (26, 0), (27, 0), (28, 0), (29, 0), (31, 0), (33, 0), (34, 0), (37, 0), (38, 0), (40, 0), (41, 0), (43, 0), (46, 0), (47, 0), (49, 0), (50, 0), (52, 0), (55, 0), (57, 0), (58, 0), (59, 11), (62, 0), (63, 5), (66, 0), (68, 0), (69, 0), (70, 12), (73, 0), (74, 5), (77, 0), (78, 0), (80, 0), (81, 0), (83, 0), (84, 0), (85, 0), (86, 0), (88, 0), (90, 0), (91, 0), (94, 0), (97, 0), (100, 0), (102, 0), (103, 0), (106, 0), (107, 0), (109, 0), (110, 0), (112, 0), (115, 0), (116, 0), (118, 0), (119, 0), (121, 0), (124, 0), (125, 0), (127, 0), (128, 0), (130, 0), (133, 0), (135, 0), (136, 0), (137, 13), (140, 0), (141, 5), (144, 0), (145, 0), (146, 0), (148, 0), (149, 0), (150, 0), (152, 0), (153, 0), (155, 0), (158, 0), (160, 0), (163, 0), (164, 0), (166, 0), (167, 0), (169, 0), (170, 0), (171, 0), (174, 0), (177, 0), (178, 0), (179, 5), (182, 0), (183, 0), (184, 5), (187, 0), (189, 0)]
def xm_30 : xi_M := (4, "readPerson", "([BII)I", prog_6_method_21_code, some .int, 1, xk_30)
/-- GuineaHours$Town.kindBy(I)I -/
def xc_31 : List xi_E := [(.iconst 0, [], 0, 0), (.istore_n 1, [1], 0, 0), (.iload_n 1, [1], 0, 0), (.getstatic 82, [0], 0, 0), (.arraylength, [], 0, 0), (.if_icmp .ge 20, [15], 0, 0), (.getstatic 82, [0], 0, 0), (.iload_n 1, [1], 0, 0), (.baload, [], 0, 0), (.iload_n 0, [0], 0, 0), (.if_icmp .ne 5, [13], 0, 0), (.iload_n 1, [1], 0, 0), (.ireturn, [0], 0, 0), (.iinc 1 1, [1], 1, 0), (.goto (-22), [2], 0, 0), (.bipush (-9), [], (-9), 0), (.ireturn, [0], 0, 0)]
def xk_31 : List (Nat × Nat) := [(0, 0), (1, 0), (2, 0), (3, 0), (6, 0), (7, 0), (10, 0), (13, 0), (14, 0), (15, 0), (16, 0), (19, 0), (20, 0), (21, 0), (24, 0), (27, 0), (29, 0)]
def xm_31 : xi_M := (4, "kindBy", "(I)I", prog_6_method_22_code, some .int, 0, xk_31)
/-- GuineaHours$Town.fillTakers()V -/
def xc_32 : List xi_E := [(.iconst 0, [], 0, 0), (.istore_n 1, [1], 0, 0), (.iload_n 1, [1], 0, 0), (.aload_n 0, [0], 0, 0), (.getfield 15, [4, 1, 0], 0, 0), (.if_icmp .ge 74, [47], 0, 0), (.iconst 0, [], 0, 0), (.istore_n 2, [2], 0, 0), (.iload_n 2, [2], 0, 0), (.aload_n 0, [0], 0, 0), (.getfield 9, [4, 0, 0], 0, 0), (.if_icmp .ge 58, [45], 0, 0), (.iconst 0, [], 0, 0), (.istore_n 3, [3], 0, 0), (.iconst 0, [], 0, 0), (.istore 4, [4], 0, 0), (.iload 4, [4], 0, 0), (.aload_n 0, [0], 0, 0), (.getfield 15, [4, 1, 0], 0, 0), (.if_icmp .ge 27, [34], 0, 0), (.aload_n 0, [0], 0, 0), (.iload_n 1, [1], 0, 0), (.iload 4, [4], 0, 0), (.iload_n 2, [2], 0, 0), (.invokevirtual 86, [33, 4, 4], 0, 0), (.ifCond .eq 10, [32], 0, 0), (.iload_n 3, [3], 0, 0), (.iconst 1, [], 1, 0), (.iload 4, [4], 0, 0), (.ishl, [], 0, 0), (.ior, [], 0, 0), (.istore_n 3, [3], 0, 0), (.iinc 4 1, [4], 1, 0), (.goto (-30), [16], 0, 0), (.aload_n 0, [0], 0, 0), (.getfield 28, [4, 5, 2], 0, 0), (.iload_n 1, [1], 0, 0), (.iconst 5, [], 5, 0), (.imul, [], 0, 0), (.iload_n 2, [2], 0, 0), (.iadd, [], 0, 0), (.iload_n 3, [3], 0, 0), (.iastore, [], 0, 0), (.iinc 2 1, [2], 1, 0), (.goto (-60), [8], 0, 0), (.iinc 1 1, [1], 1, 0), (.goto (-76), [2], 0, 0), (.return_, [], 0, 0)]
def xk_32 : List (Nat × Nat) := [(0, 0), (1, 0), (2, 0), (3, 0), (4, 5), (7, 0), (10, 0), (11, 0), (12, 0), (13, 0), (14, 0), (17, 0), (20, 0), (21, 0), (22, 0), (23, 0), (25, 0), (27, 0), (28, 5), (31, 0), (34, 0), (35, 0), (36, 0), (38, 0), (39, 38), (42, 0), (45, 0), (46, 0), (47, 0), (49, 0), (50, 0), (51, 0), (52, 0), (55, 0), (58, 0), (59, 14), (62, 0), (63, 0), (64, 0), (65, 0), (66, 0), (67, 0), (68, 0), (69, 0), (72, 0), (75, 0), (78, 0), (81, 0)]
def xm_32 : xi_M := (4, "fillTakers", "()V", prog_6_method_23_code, none, 1, xk_32)
/-- GuineaHours$Town.allows(III)Z -/
def xc_33 : List xi_E := [(.iload_n 1, [1], 0, 0), (.iload_n 2, [2], 0, 0), (.if_icmp .eq 13, [9], 0, 0), (.aload_n 0, [0], 0, 0), (.iload_n 1, [1], 0, 0), (.iload_n 2, [2], 0, 0), (.iload_n 3, [3], 0, 0), (.invokevirtual 50, [34, 4, 4], 0, 0), (.ifCond .ne 5, [11], 0, 0), (.iconst 0, [], 0, 0), (.ireturn, [1], 0, 0), (.aload_n 0, [0], 0, 0), (.iload_n 1, [1], 0, 0), (.invokevirtual 35, [36, 2, 4], 0, 0), (.iconst 4, [], 4, 0), (.if_icmp .ne 23, [28], 0, 0), (.iload_n 2, [2], 0, 0), (.aload_n 0, [0], 0, 0), (.iload_n 1, [1], 0, 0), (.invokevirtual 89, [38, 2, 4], 0, 0), (.if_icmp .ne 12, [26], 0, 0), (.aload_n 0, [0], 0, 0), (.iload_n 2, [2], 0, 0), (.invokevirtual 35, [36, 2, 4], 0, 0), (.iconst 5, [], 5, 0), (.if_icmp .ne 5, [28], 0, 0), (.iconst 0, [], 0, 0), (.ireturn, [1], 0, 0), (.aload_n 0, [0], 0, 0), (.iload_n 2, [2], 0, 0), (.invokevirtual 35, [36, 2, 4], 0, 0), (.iconst 1, [], 1, 0), (.if_icmp .ne 10, [38], 0, 0), (.iload_n 1, [1], 0, 0), (.iload_n 2, [2], 0, 0), (.if_icmp .le 5, [38], 0, 0), (.iconst 0, [], 0, 0), (.ireturn, [1], 0, 0), (.aload_n 0, [0], 0, 0), (.iload_n 2, [2], 0, 0), (.invokevirtual 35, [36, 2, 4], 0, 0), (.iconst 2, [], 2, 0), (.if_icmp .ne 13, [49], 0, 0), (.aload_n 0, [0], 0, 0), (.iload_n 2, [2], 0, 0), (.iload_n 3, [3], 0, 0), (.invokevirtual 54, [39, 3, 4], 0, 0), (.iconst 2, [], 2, 0), (.if_icmp .ne 7, [51], 0, 0), (.iconst 1, [], 1, 0), (.goto 4, [52], 0, 0), (.iconst 0, [], 0, 0), (.ireturn, [1], 0, 0)]
def xk_33 : List (Nat × Nat) := [(0, 0), (1, 0), (2, 0), (5, 0), (6, 0), (7, 0), (8, 0), (9, 39), (12, 0), (15, 0), (16, 0), (17, 0), (18, 0), (19, 41), (22, 0), (23, 0), (26, 0), (27, 0), (28, 0), (29, 43), (32, 0), (35, 0), (36, 0), (37, 41), (40, 0), (41, 0), (44, 0), (45, 0), (46, 0), (47, 0), (48, 41), (51, 0), (52, 0), (55, 0), (56, 0), (57, 0), (60, 0), (61, 0), (62, 0), (63, 0), (64, 41), (67, 0), (68, 0), (71, 0), (72, 0), (73, 0), (74, 44), (77, 0), (78, 0), (81, 0), (82, 0), (85, 0), (86, 0)]
def xm_33 : xi_M := (4, "allows", "(III)Z", prog_6_method_24_code, some .boolean, 1, xk_33)
/-- GuineaHours$Town.areTogether(III)Z -/
def xc_34 : List xi_E := [(.aload_n 0, [0], 0, 0), (.iload_n 1, [1], 0, 0), (.iload_n 3, [3], 0, 0), (.invokevirtual 46, [35, 3, 4], 0, 0), (.istore 4, [4], 0, 0), (.iload 4, [4], 0, 0), (.bipush (-9), [], (-9), 0), (.if_icmp .eq 18, [16], 0, 0), (.iload 4, [4], 0, 0), (.aload_n 0, [0], 0, 0), (.iload_n 2, [2], 0, 0), (.iload_n 3, [3], 0, 0), (.invokevirtual 46, [35, 3, 4], 0, 0), (.if_icmp .ne 7, [16], 0, 0), (.iconst 1, [], 1, 0), (.goto 4, [17], 0, 0), (.iconst 0, [], 0, 0), (.ireturn, [1], 0, 0)]
def xk_34 : List (Nat × Nat) := [(0, 0), (1, 0), (2, 0), (3, 40), (6, 0), (8, 0), (10, 0), (12, 0), (15, 0), (17, 0), (18, 0), (19, 0), (20, 40), (23, 0), (26, 0), (27, 0), (30, 0), (31, 0)]
def xm_34 : xi_M := (4, "areTogether", "(III)Z", prog_6_method_14_code, some .boolean, 1, xk_34)
/-- GuineaHours$Town.spotOf(II)I -/
def xc_35 : List xi_E := [(.iload_n 1, [1], 0, 0), (.ifCond .lt 36, [21], 0, 0), (.iload_n 1, [1], 0, 0), (.aload_n 0, [0], 0, 0), (.getfield 15, [4, 1, 0], 0, 0), (.if_icmp .ge 28, [21], 0, 0), (.iload_n 2, [2], 0, 0), (.ifCond .lt 24, [21], 0, 0), (.iload_n 2, [2], 0, 0), (.aload_n 0, [0], 0, 0), (.getfield 9, [4, 0, 0], 0, 0), (.if_icmp .ge 16, [21], 0, 0), (.aload_n 0, [0], 0, 0), (.getfield 25, [4, 4, 2], 0, 0), (.iload_n 1, [1], 0, 0), (.iconst 5, [], 5, 0), (.imul, [], 0, 0), (.iload_n 2, [2], 0, 0), (.iadd, [], 0, 0), (.iaload, [], 0, 0), (.goto 5, [22], 0, 0), (.bipush (-9), [], (-9), 0), (.ireturn, [0], 0, 0)]
def xk_35 : List (Nat × Nat) := [(0, 0), (1, 0), (4, 0), (5, 0), (6, 5), (9, 0), (12, 0), (13, 0), (16, 0), (17, 0), (18, 0), (21, 0), (24, 0), (25, 13), (28, 0), (29, 0), (30, 0), (31, 0), (32, 0), (33, 0), (34, 0), (37, 0), (39, 0)]
def xm_35 : xi_M := (4, "spotOf", "(II)I", prog_6_method_8_code, some .int, 1, xk_35)
/-- GuineaHours$Town.kindOf(I)I -/
def xc_36 : List xi_E := [(.aload_n 0, [0], 0, 0), (.iload_n 1, [1], 0, 0), (.invokevirtual 31, [37, 2, 4], 0, 0), (.ifCond .eq 12, [9], 0, 0), (.aload_n 0, [0], 0, 0), (.getfield 18, [4, 2, 2], 0, 0), (.iload_n 1, [1], 0, 0), (.iaload, [], 0, 0), (.goto 4, [10], 0, 0), (.iconst 0, [], 0, 0), (.ireturn, [0], 0, 0)]
def xk_36 : List (Nat × Nat) := [(0, 0), (1, 0), (2, 42), (5, 0), (8, 0), (9, 11), (12, 0), (13, 0), (14, 0), (17, 0), (18, 0)]
def xm_36 : xi_M := (4, "kindOf", "(I)I", prog_6_method_6_code, some .int, 1, xk_36)
/-- GuineaHours$Town.isOne(I)Z -/
def xc_37 : List xi_E := [(.iload_n 1, [1], 0, 0), (.ifCond .lt 15, [8], 0, 0), (.iload_n 1, [1], 0, 0), (.aload_n 0, [0], 0, 0), (.getfield 15, [4, 1, 0], 0, 0), (.if_icmp .ge 7, [8], 0, 0), (.iconst 1, [], 1, 0), (.goto 4, [9], 0, 0), (.iconst 0, [], 0, 0), (.ireturn, [1], 0, 0)]
def xk_37 : List (Nat × Nat) := [(0, 0), (1, 0), (4, 0), (5, 0), (6, 5), (9, 0), (12, 0), (13, 0), (16, 0), (17, 0)]
def xm_37 : xi_M := (4, "isOne", "(I)Z", prog_6_method_2_code, some .boolean, 1, xk_37)
/-- GuineaHours$Town.nextTo(I)I -/
def xc_38 : List xi_E := [(.iload_n 1, [1], 0, 0), (.iconst 1, [], 1, 0), (.iadd, [], 0, 0), (.aload_n 0, [0], 0, 0), (.getfield 15, [4, 1, 0], 0, 0), (.if_icmp .ge 9, [10], 0, 0), (.iload_n 1, [1], 0, 0), (.iconst 1, [], 1, 0), (.iadd, [], 0, 0), (.goto 4, [11], 0, 0), (.iconst 0, [], 0, 0), (.ireturn, [0], 0, 0)]
def xk_38 : List (Nat × Nat) := [(0, 0), (1, 0), (2, 0), (3, 0), (4, 5), (7, 0), (10, 0), (11, 0), (12, 0), (13, 0), (16, 0), (17, 0)]
def xm_38 : xi_M := (4, "nextTo", "(I)I", prog_6_method_13_code, some .int, 1, xk_38)
/-- GuineaHours$Town.countTogether(II)I -/
def xc_39 : List xi_E := [(.iconst 0, [], 0, 0), (.istore_n 3, [3], 0, 0), (.iconst 0, [], 0, 0), (.istore 4, [4], 0, 0), (.iload 4, [4], 0, 0), (.aload_n 0, [0], 0, 0), (.getfield 15, [4, 1, 0], 0, 0), (.if_icmp .ge 23, [17], 0, 0), (.aload_n 0, [0], 0, 0), (.iload_n 1, [1], 0, 0), (.iload 4, [4], 0, 0), (.iload_n 2, [2], 0, 0), (.invokevirtual 50, [34, 4, 4], 0, 0), (.ifCond .eq 6, [15], 0, 0), (.iinc 3 1, [3], 1, 0), (.iinc 4 1, [4], 1, 0), (.goto (-26), [4], 0, 0), (.iload_n 3, [3], 0, 0), (.ireturn, [0], 0, 0)]
def xk_39 : List (Nat × Nat) := [(0, 0), (1, 0), (2, 0), (3, 0), (5, 0), (7, 0), (8, 5), (11, 0), (14, 0), (15, 0), (16, 0), (18, 0), (19, 39), (22, 0), (25, 0), (28, 0), (31, 0), (34, 0), (35, 0)]
def xm_39 : xi_M := (4, "countTogether", "(II)I", prog_6_method_15_code, some .int, 1, xk_39)
/-- GuineaHours.town(I)I -/
def xc_40 : List xi_E := [(.aload_n 0, [0], 0, 0), (.iload_n 1, [1], 0, 0), (.invokevirtual 145, [25, 2, 7], 0, 0), (.istore_n 2, [2], 0, 0), (.iload_n 2, [2], 0, 0), (.ifCond .eq 5, [8], 0, 0), (.iload_n 2, [2], 0, 0), (.ireturn, [0], 0, 0), (.aload_n 0, [0], 0, 0), (.getfield 33, [7, 5, 2], 0, 0), (.aload_n 0, [0], 0, 0), (.getfield 20, [7, 2, 2], 0, 0), (.iload_n 1, [1], 0, 0), (.aaload, [], 0, 0), (.aload_n 0, [0], 0, 0), (.getfield 23, [7, 3, 2], 0, 0), (.iload_n 1, [1], 0, 0), (.iaload, [], 0, 0), (.invokevirtual 148, [27, 3, 4], 0, 0), (.bipush (-9), [], (-9), 0), (.if_icmp .eq 6, [23], 0, 0), (.bipush (-4), [], (-4), 0), (.ireturn, [0], 0, 0), (.aload_n 0, [0], 0, 0), (.getfield 29, [7, 4, 2], 0, 0), (.astore_n 3, [3], 0, 0), (.aload_n 0, [0], 0, 0), (.aload_n 0, [0], 0, 0), (.getfield 33, [7, 5, 2], 0, 0), (.putfield 29, [7, 4, 2], 0, 0), (.aload_n 0, [0], 0, 0), (.aload_n 3, [3], 0, 0), (.putfield 33, [7, 5, 2], 0, 0), (.aload_n 0, [0], 0, 0), (.invokevirtual 152, [41, 1, 7], 0, 0), (.aload_n 0, [0], 0, 0), (.getfield 29, [7, 4, 2], 0, 0), (.getfield 155, [4, 1, 0], 0, 0), (.ireturn, [0], 0, 0)]
def xk_40 : List (Nat × Nat) := [(0, 0), (1, 0), (2, 30), (5, 0), (6, 0), (7, 0), (10, 0), (11, 0), (12, 0), (13, 60), (16, 0), (17, 57), (20, 0), (21, 0), (22, 0), (23, 58), (26, 0), (27, 0), (28, 32), (31, 0), (33, 0), (36, 0), (38, 0), (39, 0), (40, 59), (43, 0), (44, 0), (45, 0), (46, 60), (49, 59), (52, 0), (53, 0), (54, 60), (57, 0), (58, 46), (61, 0), (62, 59), (65, 10), (68, 0)]
def xm_40 : xi_M := (7, "town", "(I)I", prog_1_method_11_code, some .int, 1, xk_40)
/-- GuineaHours.startTown()V -/
def xc_41 : List xi_E := [(.aload_n 0, [0], 0, 0), (.getfield 39, [7, 6, 2], 0, 0), (.iconst (-1), [], (-1), 0), (.putfield 222, [1, 2, 0], 0, 0), (.aload_n 0, [0], 0, 0), (.getfield 50, [7, 8, 2], 0, 0), (.iconst 0, [], 0, 0), (.invokevirtual 303, [42, 2, 3], 0, 0), (.iconst 0, [], 0, 0), (.istore_n 1, [1], 0, 0), (.iload_n 1, [1], 0, 0), (.iconst 3, [], 3, 0), (.if_icmp .ge 19, [21], 0, 0), (.aload_n 0, [0], 0, 0), (.getfield 43, [7, 7, 2], 0, 0), (.iload_n 1, [1], 0, 0), (.aaload, [], 0, 0), (.iconst (-1), [], (-1), 0), (.putfield 222, [1, 2, 0], 0, 0), (.iinc 1 1, [1], 1, 0), (.goto (-18), [10], 0, 0), (.return_, [], 0, 0)]
def xk_41 : List (Nat × Nat) := [(0, 0), (1, 61), (4, 0), (5, 21), (8, 0), (9, 63), (12, 0), (13, 47), (16, 0), (17, 0), (18, 0), (19, 0), (20, 0), (23, 0), (24, 62), (27, 0), (28, 0), (29, 0), (30, 21), (33, 0), (36, 0), (39, 0)]
def xm_41 : xi_M := (7, "startTown", "()V", prog_1_method_63_code, none, 1, xk_41)
/-- GuineaHours$Sights.cutTo(I)V -/
def xc_42 : List xi_E := [(.aload_n 0, [0], 0, 0), (.iload_n 1, [1], 0, 0), (.putfield 9, [3, 0, 0], 0, 0), (.aload_n 0, [0], 0, 0), (.iconst 0, [], 0, 0), (.putfield 15, [3, 1, 3], 0, 0), (.return_, [], 0, 0)]
def xk_42 : List (Nat × Nat) := [(0, 0), (1, 0), (2, 25), (5, 0), (6, 0), (7, 27), (10, 0)]
def xm_42 : xi_M := (3, "cutTo", "(I)V", prog_5_method_3_code, none, 1, xk_42)
/-- GuineaHours.person(II)I -/
def xc_43 : List xi_E := [(.aload_n 0, [0], 0, 0), (.getfield 29, [7, 4, 2], 0, 0), (.iload_n 1, [1], 0, 0), (.invokevirtual 158, [37, 2, 4], 0, 0), (.ifCond .eq 12, [10], 0, 0), (.iload_n 2, [2], 0, 0), (.ifCond .lt 8, [10], 0, 0), (.iload_n 2, [2], 0, 0), (.iconst 2, [], 2, 0), (.if_icmp .le 5, [12], 0, 0), (.iconst (-1), [], (-1), 0), (.ireturn, [0], 0, 0), (.aload_n 0, [0], 0, 0), (.aload_n 0, [0], 0, 0), (.iload_n 1, [1], 0, 0), (.iload_n 2, [2], 0, 0), (.invokevirtual 161, [44, 3, 7], 0, 0), (.putfield 87, [7, 14, 0], 0, 0), (.iconst 1, [], 1, 0), (.ireturn, [0], 0, 0)]
def xk_43 : List (Nat × Nat) := [(0, 0), (1, 59), (4, 0), (5, 49), (8, 0), (11, 0), (12, 0), (15, 0), (16, 0), (17, 0), (20, 0), (21, 0), (22, 0), (23, 0), (24, 0), (25, 0), (26, 50), (29, 69), (32, 0), (33, 0)]
def xm_43 : xi_M := (7, "person", "(II)I", prog_1_method_12_code, some .int, 1, xk_43)
/-- GuineaHours.aboutPerson(II)I -/
def xc_44 : List xi_E := [(.iload_n 2, [2], 0, 0), (.ifCond .ne 12, [7], 0, 0), (.aload_n 0, [0], 0, 0), (.getfield 29, [7, 4, 2], 0, 0), (.iload_n 1, [1], 0, 0), (.invokevirtual 378, [36, 2, 4], 0, 0), (.ireturn, [0], 0, 0), (.iload_n 2, [2], 0, 0), (.iconst 1, [], 1, 0), (.if_icmp .ne 14, [15], 0, 0), (.aload_n 0, [0], 0, 0), (.getfield 29, [7, 4, 2], 0, 0), (.iload_n 1, [1], 0, 0), (.invokevirtual 381, [45, 2, 4], 0, 0), (.goto 18, [22], 0, 0), (.aload_n 0, [0], 0, 0), (.getfield 29, [7, 4, 2], 0, 0), (.iload_n 1, [1], 0, 0), (.aload_n 0, [0], 0, 0), (.getfield 39, [7, 6, 2], 0, 0), (.getfield 177, [1, 0, 0], 0, 0), (.invokevirtual 180, [46, 3, 4], 0, 0), (.ireturn, [0], 0, 0)]
def xk_44 : List (Nat × Nat) := [(0, 0), (1, 0), (4, 0), (5, 59), (8, 0), (9, 51), (12, 0), (13, 0), (14, 0), (15, 0), (18, 0), (19, 59), (22, 0), (23, 52), (26, 0), (29, 0), (30, 59), (33, 0), (34, 0), (35, 61), (38, 16), (41, 53), (44, 0)]
def xm_44 : xi_M := (7, "aboutPerson", "(II)I", prog_1_method_64_code, some .int, 1, xk_44)
/-- GuineaHours$Town.feeOf(I)I -/
def xc_45 : List xi_E := [(.aload_n 0, [0], 0, 0), (.iload_n 1, [1], 0, 0), (.invokevirtual 31, [37, 2, 4], 0, 0), (.ifCond .eq 12, [9], 0, 0), (.aload_n 0, [0], 0, 0), (.getfield 22, [4, 3, 2], 0, 0), (.iload_n 1, [1], 0, 0), (.iaload, [], 0, 0), (.goto 4, [10], 0, 0), (.iconst 0, [], 0, 0), (.ireturn, [0], 0, 0)]
def xk_45 : List (Nat × Nat) := [(0, 0), (1, 0), (2, 42), (5, 0), (8, 0), (9, 12), (12, 0), (13, 0), (14, 0), (17, 0), (18, 0)]
def xm_45 : xi_M := (4, "feeOf", "(I)I", prog_6_method_7_code, some .int, 1, xk_45)
/-- GuineaHours$Town.limitOf(II)I -/
def xc_46 : List xi_E := [(.aload_n 0, [0], 0, 0), (.iload_n 1, [1], 0, 0), (.invokevirtual 35, [36, 2, 4], 0, 0), (.istore_n 3, [3], 0, 0), (.iload_n 3, [3], 0, 0), (.ifCond .lt 21, [16], 0, 0), (.iload_n 3, [3], 0, 0), (.getstatic 39, [1], 0, 0), (.arraylength, [], 0, 0), (.if_icmp .ge 13, [16], 0, 0), (.iload_n 2, [2], 0, 0), (.getstatic 39, [1], 0, 0), (.iload_n 3, [3], 0, 0), (.iaload, [], 0, 0), (.iadd, [], 0, 0), (.goto 4, [17], 0, 0), (.iload_n 2, [2], 0, 0), (.ireturn, [0], 0, 0)]
def xk_46 : List (Nat × Nat) := [(0, 0), (1, 0), (2, 41), (5, 0), (6, 0), (7, 0), (10, 0), (11, 1), (14, 0), (15, 0), (18, 0), (19, 1), (22, 0), (23, 0), (24, 0), (25, 0), (28, 0), (29, 0)]
def xm_46 : xi_M := (4, "limitOf", "(II)I", prog_6_method_10_code, some .int, 1, xk_46)
/-- GuineaHours.place(II)I -/
def xc_47 : List xi_E := [(.aload_n 0, [0], 0, 0), (.getfield 29, [7, 4, 2], 0, 0), (.iload_n 1, [1], 0, 0), (.invokevirtual 158, [37, 2, 4], 0, 0), (.ifCond .eq 14, [10], 0, 0), (.aload_n 0, [0], 0, 0), (.getfield 29, [7, 4, 2], 0, 0), (.iload_n 2, [2], 0, 0), (.invokevirtual 164, [48, 2, 4], 0, 0), (.ifCond .ne 5, [12], 0, 0), (.iconst (-1), [], (-1), 0), (.ireturn, [0], 0, 0), (.aload_n 0, [0], 0, 0), (.aload_n 0, [0], 0, 0), (.getfield 29, [7, 4, 2], 0, 0), (.iload_n 1, [1], 0, 0), (.iload_n 2, [2], 0, 0), (.invokevirtual 167, [35, 3, 4], 0, 0), (.putfield 87, [7, 14, 0], 0, 0), (.iconst 1, [], 1, 0), (.ireturn, [0], 0, 0)]
def xk_47 : List (Nat × Nat) := [(0, 0), (1, 59), (4, 0), (5, 49), (8, 0), (11, 0), (12, 59), (15, 0), (16, 55), (19, 0), (22, 0), (23, 0), (24, 0), (25, 0), (26, 59), (29, 0), (30, 0), (31, 56), (34, 69), (37, 0), (38, 0)]
def xm_47 : xi_M := (7, "place", "(II)I", prog_1_method_13_code, some .int, 1, xk_47)
/-- GuineaHours$Town.isHour(I)Z -/
def xc_48 : List xi_E := [(.iload_n 1, [1], 0, 0), (.ifCond .lt 15, [8], 0, 0), (.iload_n 1, [1], 0, 0), (.aload_n 0, [0], 0, 0), (.getfield 9, [4, 0, 0], 0, 0), (.if_icmp .ge 7, [8], 0, 0), (.iconst 1, [], 1, 0), (.goto 4, [9], 0, 0), (.iconst 0, [], 0, 0), (.ireturn, [1], 0, 0)]
def xk_48 : List (Nat × Nat) := [(0, 0), (1, 0), (4, 0), (5, 0), (6, 0), (9, 0), (12, 0), (13, 0), (16, 0), (17, 0)]
def xm_48 : xi_M := (4, "isHour", "(I)Z", prog_6_method_3_code, some .boolean, 1, xk_48)
/-- GuineaHours.mark(II)I -/
def xc_49 : List xi_E := [(.aload_n 0, [0], 0, 0), (.getfield 29, [7, 4, 2], 0, 0), (.iload_n 1, [1], 0, 0), (.invokevirtual 158, [37, 2, 4], 0, 0), (.ifCond .eq 13, [11], 0, 0), (.iload_n 2, [2], 0, 0), (.iconst 1, [], 1, 0), (.if_icmp .lt 8, [11], 0, 0), (.iload_n 2, [2], 0, 0), (.iconst 5, [], 5, 0), (.if_icmp .le 5, [13], 0, 0), (.iconst (-1), [], (-1), 0), (.ireturn, [0], 0, 0), (.aload_n 0, [0], 0, 0), (.getfield 29, [7, 4, 2], 0, 0), (.iload_n 1, [1], 0, 0), (.iload_n 2, [2], 0, 0), (.invokevirtual 170, [50, 3, 4], 0, 0), (.ifCond .ne 9, [23], 0, 0), (.aload_n 0, [0], 0, 0), (.iconst 3, [], 3, 0), (.invokevirtual 114, [11, 2, 7], 0, 0), (.ireturn, [0], 0, 0), (.iload_n 2, [2], 0, 0), (.tableswitch 82 1 4 #[30, 32, 41, 57], [52, 25, 27, 32, 40], 0, 0), (.iload_n 1, [1], 0, 0), (.ireturn, [0], 0, 0), (.aload_n 0, [0], 0, 0), (.getfield 29, [7, 4, 2], 0, 0), (.iload_n 1, [1], 0, 0), (.invokevirtual 174, [51, 2, 4], 0, 0), (.ireturn, [0], 0, 0), (.aload_n 0, [0], 0, 0), (.getfield 29, [7, 4, 2], 0, 0), (.iload_n 1, [1], 0, 0), (.aload_n 0, [0], 0, 0), (.getfield 39, [7, 6, 2], 0, 0), (.getfield 177, [1, 0, 0], 0, 0), (.invokevirtual 180, [46, 3, 4], 0, 0), (.ireturn, [0], 0, 0), (.aload_n 0, [0], 0, 0), (.getfield 29, [7, 4, 2], 0, 0), (.getfield 155, [4, 1, 0], 0, 0), (.iconst 1, [], 1, 0), (.if_icmp .le 14, [50], 0, 0), (.aload_n 0, [0], 0, 0), (.getfield 29, [7, 4, 2], 0, 0), (.iload_n 1, [1], 0, 0), (.invokevirtual 183, [38, 2, 4], 0, 0), (.goto 5, [51], 0, 0), (.bipush (-9), [], (-9), 0), (.ireturn, [0], 0, 0), (.aload_n 0, [0], 0, 0), (.getfield 29, [7, 4, 2], 0, 0), (.iconst 4, [], 4, 0), (.invokevirtual 186, [52, 2, 4], 0, 0), (.ireturn, [0], 0, 0)]
def xk_49 : List (Nat × Nat) := [(0, 0), (1, 59), (4, 0), (5, 49), (8, 0), (11, 0), (12, 0), (13, 0), (16, 0), (17, 0), (18, 0), (21, 0), (22, 0), (23, 0), (24, 59), (27, 0), (28, 0), (29, 58), (32, 0), (35, 0), (36, 0), (37, 15), (40, 0), (41, 0), (42, 0), (72, 0), (73, 0), (74, 0), (75, 59), (78, 0), (79, 59), (82, 0), (83, 0), (84, 59), (87, 0), (88, 0), (89, 61), (92, 16), (95, 53), (98, 0), (99, 0), (100, 59), (103, 10), (106, 0), (107, 0), (110, 0), (111, 59), (114, 0), (115, 60), (118, 0), (121, 0), (123, 0), (124, 0), (125, 59), (128, 0), (129, 61), (132, 0)]
def xm_49 : xi_M := (7, "mark", "(II)I", prog_1_method_14_code, some .int, 1, xk_49)
/-- GuineaHours$Town.isOfKind(II)Z -/
def xc_50 : List xi_E := [(.aload_n 0, [0], 0, 0), (.iload_n 1, [1], 0, 0), (.invokevirtual 35, [36, 2, 4], 0, 0), (.istore_n 3, [3], 0, 0), (.iload_n 3, [3], 0, 0), (.iload_n 2, [2], 0, 0), (.if_icmp .eq 13, [13], 0, 0), (.iload_n 3, [3], 0, 0), (.iconst 5, [], 5, 0), (.if_icmp .ne 12, [15], 0, 0), (.iload_n 2, [2], 0, 0), (.iconst 3, [], 3, 0), (.if_icmp .ne 7, [15], 0, 0), (.iconst 1, [], 1, 0), (.goto 4, [16], 0, 0), (.iconst 0, [], 0, 0), (.ireturn, [1], 0, 0)]
def xk_50 : List (Nat × Nat) := [(0, 0), (1, 0), (2, 41), (5, 0), (6, 0), (7, 0), (8, 0), (11, 0), (12, 0), (13, 0), (16, 0), (17, 0), (18, 0), (21, 0), (22, 0), (25, 0), (26, 0)]
def xm_50 : xi_M := (4, "isOfKind", "(II)Z", prog_6_method_11_code, some .boolean, 1, xk_50)
/-- GuineaHours$Town.hoursInPair(I)I -/
def xc_51 : List xi_E := [(.iconst 0, [], 0, 0), (.istore_n 2, [2], 0, 0), (.iconst 0, [], 0, 0), (.istore_n 3, [3], 0, 0), (.iload_n 3, [3], 0, 0), (.aload_n 0, [0], 0, 0), (.getfield 9, [4, 0, 0], 0, 0), (.if_icmp .ge 22, [17], 0, 0), (.aload_n 0, [0], 0, 0), (.iload_n 1, [1], 0, 0), (.iload_n 3, [3], 0, 0), (.invokevirtual 54, [39, 3, 4], 0, 0), (.iconst 2, [], 2, 0), (.if_icmp .ne 6, [15], 0, 0), (.iinc 2 1, [2], 1, 0), (.iinc 3 1, [3], 1, 0), (.goto (-24), [4], 0, 0), (.iload_n 2, [2], 0, 0), (.ireturn, [0], 0, 0)]
def xk_51 : List (Nat × Nat) := [(0, 0), (1, 0), (2, 0), (3, 0), (4, 0), (5, 0), (6, 0), (9, 0), (12, 0), (13, 0), (14, 0), (15, 44), (18, 0), (19, 0), (22, 0), (25, 0), (28, 0), (31, 0), (32, 0)]
def xm_51 : xi_M := (4, "hoursInPair", "(I)I", prog_6_method_16_code, some .int, 1, xk_51)
/-- GuineaHours$Town.countKind(I)I -/
def xc_52 : List xi_E := [(.iconst 0, [], 0, 0), (.istore_n 2, [2], 0, 0), (.iconst 0, [], 0, 0), (.istore_n 3, [3], 0, 0), (.iload_n 3, [3], 0, 0), (.aload_n 0, [0], 0, 0), (.getfield 15, [4, 1, 0], 0, 0), (.if_icmp .ge 21, [16], 0, 0), (.aload_n 0, [0], 0, 0), (.iload_n 3, [3], 0, 0), (.iload_n 1, [1], 0, 0), (.invokevirtual 42, [50, 3, 4], 0, 0), (.ifCond .eq 6, [14], 0, 0), (.iinc 2 1, [2], 1, 0), (.iinc 3 1, [3], 1, 0), (.goto (-23), [4], 0, 0), (.iload_n 2, [2], 0, 0), (.ireturn, [0], 0, 0)]
def xk_52 : List (Nat × Nat) := [(0, 0), (1, 0), (2, 0), (3, 0), (4, 0), (5, 0), (6, 5), (9, 0), (12, 0), (13, 0), (14, 0), (15, 62), (18, 0), (21, 0), (24, 0), (27, 0), (30, 0), (31, 0)]
def xm_52 : xi_M := (4, "countKind", "(I)I", prog_6_method_12_code, some .int, 1, xk_52)
/-- GuineaHours.times(I)I -/
def xc_53 : List xi_E := [(.iload_n 1, [1], 0, 0), (.iconst 1, [], 1, 0), (.if_icmp .lt 8, [6], 0, 0), (.iload_n 1, [1], 0, 0), (.iconst 5, [], 5, 0), (.if_icmp .le 5, [8], 0, 0), (.iconst (-1), [], (-1), 0), (.ireturn, [0], 0, 0), (.aload_n 0, [0], 0, 0), (.getfield 39, [7, 6, 2], 0, 0), (.getfield 177, [1, 0, 0], 0, 0), (.istore_n 2, [2], 0, 0), (.aload_n 0, [0], 0, 0), (.getfield 39, [7, 6, 2], 0, 0), (.iload_n 1, [1], 0, 0), (.putfield 177, [1, 0, 0], 0, 0), (.aload_n 0, [0], 0, 0), (.getfield 50, [7, 8, 2], 0, 0), (.iconst 0, [], 0, 0), (.putfield 189, [3, 1, 3], 0, 0), (.iload_n 2, [2], 0, 0), (.ireturn, [0], 0, 0)]
def xk_53 : List (Nat × Nat) := [(0, 0), (1, 0), (2, 0), (5, 0), (6, 0), (7, 0), (10, 0), (11, 0), (12, 0), (13, 61), (16, 16), (19, 0), (20, 0), (21, 61), (24, 0), (25, 16), (28, 0), (29, 63), (32, 0), (33, 28), (36, 0), (37, 0)]
def xm_53 : xi_M := (7, "times", "(I)I", prog_1_method_15_code, some .int, 1, xk_53)
/-- GuineaHours.back(I)I -/
def xc_54 : List xi_E := [(.iload_n 1, [1], 0, 0), (.ifCond .lt 8, [5], 0, 0), (.iload_n 1, [1], 0, 0), (.iconst 1, [], 1, 0), (.if_icmp .le 5, [7], 0, 0), (.iconst (-1), [], (-1), 0), (.ireturn, [0], 0, 0), (.aload_n 0, [0], 0, 0), (.getfield 39, [7, 6, 2], 0, 0), (.getfield 193, [1, 1, 0], 0, 0), (.istore_n 2, [2], 0, 0), (.aload_n 0, [0], 0, 0), (.getfield 39, [7, 6, 2], 0, 0), (.iload_n 1, [1], 0, 0), (.putfield 193, [1, 1, 0], 0, 0), (.aload_n 0, [0], 0, 0), (.getfield 50, [7, 8, 2], 0, 0), (.iconst 0, [], 0, 0), (.putfield 189, [3, 1, 3], 0, 0), (.iload_n 2, [2], 0, 0), (.ireturn, [0], 0, 0)]
def xk_54 : List (Nat × Nat) := [(0, 0), (1, 0), (4, 0), (5, 0), (6, 0), (9, 0), (10, 0), (11, 0), (12, 61), (15, 18), (18, 0), (19, 0), (20, 61), (23, 0), (24, 18), (27, 0), (28, 63), (31, 0), (32, 28), (35, 0), (36, 0)]
def xm_54 : xi_M := (7, "back", "(I)I", prog_1_method_16_code, some .int, 1, xk_54)
/-- GuineaHours.may(II)I -/
def xc_55 : List xi_E := [(.aload_n 0, [0], 0, 0), (.getfield 29, [7, 4, 2], 0, 0), (.iload_n 1, [1], 0, 0), (.invokevirtual 158, [37, 2, 4], 0, 0), (.ifCond .eq 14, [10], 0, 0), (.aload_n 0, [0], 0, 0), (.getfield 29, [7, 4, 2], 0, 0), (.iload_n 2, [2], 0, 0), (.invokevirtual 164, [48, 2, 4], 0, 0), (.ifCond .ne 5, [12], 0, 0), (.iconst (-1), [], (-1), 0), (.ireturn, [0], 0, 0), (.aload_n 0, [0], 0, 0), (.getfield 29, [7, 4, 2], 0, 0), (.iload_n 1, [1], 0, 0), (.iload_n 2, [2], 0, 0), (.invokevirtual 196, [56, 3, 4], 0, 0), (.ireturn, [0], 0, 0)]
def xk_55 : List (Nat × Nat) := [(0, 0), (1, 59), (4, 0), (5, 49), (8, 0), (11, 0), (12, 59), (15, 0), (16, 55), (19, 0), (22, 0), (23, 0), (24, 0), (25, 59), (28, 0), (29, 0), (30, 66), (33, 0)]
def xm_55 : xi_M := (7, "may", "(II)I", prog_1_method_17_code, some .int, 1, xk_55)
/-- GuineaHours$Town.takersOf(II)I -/
def xc_56 : List xi_E := [(.iload_n 1, [1], 0, 0), (.ifCond .lt 36, [21], 0, 0), (.iload_n 1, [1], 0, 0), (.aload_n 0, [0], 0, 0), (.getfield 15, [4, 1, 0], 0, 0), (.if_icmp .ge 28, [21], 0, 0), (.iload_n 2, [2], 0, 0), (.ifCond .lt 24, [21], 0, 0), (.iload_n 2, [2], 0, 0), (.aload_n 0, [0], 0, 0), (.getfield 9, [4, 0, 0], 0, 0), (.if_icmp .ge 16, [21], 0, 0), (.aload_n 0, [0], 0, 0), (.getfield 28, [4, 5, 2], 0, 0), (.iload_n 1, [1], 0, 0), (.iconst 5, [], 5, 0), (.imul, [], 0, 0), (.iload_n 2, [2], 0, 0), (.iadd, [], 0, 0), (.iaload, [], 0, 0), (.goto 4, [22], 0, 0), (.iconst 0, [], 0, 0), (.ireturn, [0], 0, 0)]
def xk_56 : List (Nat × Nat) := [(0, 0), (1, 0), (4, 0), (5, 0), (6, 5), (9, 0), (12, 0), (13, 0), (16, 0), (17, 0), (18, 0), (21, 0), (24, 0), (25, 14), (28, 0), (29, 0), (30, 0), (31, 0), (32, 0), (33, 0), (34, 0), (37, 0), (38, 0)]
def xm_56 : xi_M := (4, "takersOf", "(II)I", prog_6_method_9_code, some .int, 1, xk_56)
/-- GuineaHours.begin(I)I -/
def xc_57 : List xi_E := [(.aload_n 0, [0], 0, 0), (.getfield 29, [7, 4, 2], 0, 0), (.iload_n 1, [1], 0, 0), (.invokevirtual 158, [37, 2, 4], 0, 0), (.ifCond .eq 13, [9], 0, 0), (.aload_n 0, [0], 0, 0), (.getfield 29, [7, 4, 2], 0, 0), (.getfield 199, [4, 0, 0], 0, 0), (.ifCond .ne 5, [11], 0, 0), (.iconst (-1), [], (-1), 0), (.ireturn, [0], 0, 0), (.aload_n 0, [0], 0, 0), (.getfield 39, [7, 6, 2], 0, 0), (.iload_n 1, [1], 0, 0), (.invokevirtual 202, [58, 2, 1], 0, 0), (.aload_n 0, [0], 0, 0), (.getfield 29, [7, 4, 2], 0, 0), (.iload_n 1, [1], 0, 0), (.iconst 0, [], 0, 0), (.invokevirtual 196, [56, 3, 4], 0, 0), (.invokestatic 206, [59, 1], 0, 0), (.ireturn, [0], 0, 0)]
def xk_57 : List (Nat × Nat) := [(0, 0), (1, 59), (4, 0), (5, 49), (8, 0), (11, 0), (12, 59), (15, 4), (18, 0), (21, 0), (22, 0), (23, 0), (24, 61), (27, 0), (28, 68), (31, 0), (32, 59), (35, 0), (36, 0), (37, 66), (40, 69), (43, 0)]
def xm_57 : xi_M := (7, "begin", "(I)I", prog_1_method_18_code, some .int, 1, xk_57)
/-- GuineaHours$Day.startWith(I)V -/
def xc_58 : List xi_E := [(.aload_n 0, [0], 0, 0), (.iconst 0, [], 0, 0), (.putfield 18, [1, 2, 0], 0, 0), (.aload_n 0, [0], 0, 0), (.getfield 21, [1, 3, 2], 0, 0), (.iconst 0, [], 0, 0), (.iload_n 1, [1], 0, 0), (.iastore, [], 0, 0), (.return_, [], 0, 0)]
def xk_58 : List (Nat × Nat) := [(0, 0), (1, 0), (2, 19), (5, 0), (6, 22), (9, 0), (10, 0), (11, 0), (12, 0)]
def xm_58 : xi_M := (1, "startWith", "(I)V", prog_3_method_3_code, none, 1, xk_58)
/-- java/lang/Integer.bitCount(I)I -/
def xc_59 : List xi_E := [(.iload_n 0, [0], 0, 0), (.iload_n 0, [0], 0, 0), (.iconst 1, [], 1, 0), (.iushr, [], 0, 0), (.ldc_w 265, [], 1431655765, 0), (.iand, [], 0, 0), (.isub, [], 0, 0), (.istore_n 0, [0], 0, 0), (.iload_n 0, [0], 0, 0), (.ldc_w 266, [], 858993459, 0), (.iand, [], 0, 0), (.iload_n 0, [0], 0, 0), (.iconst 2, [], 2, 0), (.iushr, [], 0, 0), (.ldc_w 266, [], 858993459, 0), (.iand, [], 0, 0), (.iadd, [], 0, 0), (.istore_n 0, [0], 0, 0), (.iload_n 0, [0], 0, 0), (.iload_n 0, [0], 0, 0), (.iconst 4, [], 4, 0), (.iushr, [], 0, 0), (.iadd, [], 0, 0), (.ldc_w 267, [], 252645135, 0), (.iand, [], 0, 0), (.istore_n 0, [0], 0, 0), (.iload_n 0, [0], 0, 0), (.iload_n 0, [0], 0, 0), (.bipush 8, [], 8, 0), (.iushr, [], 0, 0), (.iadd, [], 0, 0), (.istore_n 0, [0], 0, 0), (.iload_n 0, [0], 0, 0), (.iload_n 0, [0], 0, 0), (.bipush 16, [], 16, 0), (.iushr, [], 0, 0), (.iadd, [], 0, 0), (.istore_n 0, [0], 0, 0), (.iload_n 0, [0], 0, 0), (.bipush 63, [], 63, 0), (.iand, [], 0, 0), (.ireturn, [0], 0, 0)]
def xk_59 : List (Nat × Nat) := [(0, 0), (1, 0), (2, 0), (3, 0), (4, 0), (7, 0), (8, 0), (9, 0), (10, 0), (11, 1), (14, 0), (15, 0), (16, 0), (17, 0), (18, 1), (21, 0), (22, 0), (23, 0), (24, 0), (25, 0), (26, 0), (27, 0), (28, 0), (29, 2), (32, 0), (33, 0), (34, 0), (35, 0), (36, 0), (38, 0), (39, 0), (40, 0), (41, 0), (42, 0), (43, 0), (45, 0), (46, 0), (47, 0), (48, 0), (49, 0), (51, 0), (52, 0)]
def xm_59 : xi_M := (10, "bitCount", "(I)I", prog_11_method_49_code, some .int, 0, xk_59)
/-- GuineaHours.give(I)I -/
def xc_60 : List xi_E := [(.aload_n 0, [0], 0, 0), (.getfield 29, [7, 4, 2], 0, 0), (.iload_n 1, [1], 0, 0), (.invokevirtual 158, [37, 2, 4], 0, 0), (.ifCond .ne 5, [7], 0, 0), (.iconst (-1), [], (-1), 0), (.ireturn, [0], 0, 0), (.aload_n 0, [0], 0, 0), (.getfield 39, [7, 6, 2], 0, 0), (.invokevirtual 211, [61, 1, 1], 0, 0), (.ifCond .eq 14, [18], 0, 0), (.aload_n 0, [0], 0, 0), (.invokevirtual 215, [62, 1, 7], 0, 0), (.iload_n 1, [1], 0, 0), (.ishr, [], 0, 0), (.iconst 1, [], 1, 0), (.iand, [], 0, 0), (.ifCond .ne 6, [20], 0, 0), (.bipush (-4), [], (-4), 0), (.ireturn, [0], 0, 0), (.aload_n 0, [0], 0, 0), (.getfield 39, [7, 6, 2], 0, 0), (.iload_n 1, [1], 0, 0), (.invokevirtual 219, [69, 2, 1], 0, 0), (.aload_n 0, [0], 0, 0), (.getfield 39, [7, 6, 2], 0, 0), (.getfield 222, [1, 2, 0], 0, 0), (.ireturn, [0], 0, 0)]
def xk_60 : List (Nat × Nat) := [(0, 0), (1, 59), (4, 0), (5, 49), (8, 0), (11, 0), (12, 0), (13, 0), (14, 61), (17, 71), (20, 0), (23, 0), (24, 72), (27, 0), (28, 0), (29, 0), (30, 0), (31, 0), (34, 0), (36, 0), (37, 0), (38, 61), (41, 0), (42, 84), (45, 0), (46, 61), (49, 21), (52, 0)]
def xm_60 : xi_M := (7, "give", "(I)I", prog_1_method_19_code, some .int, 1, xk_60)
/-- GuineaHours$Day.isBegun()Z -/
def xc_61 : List xi_E := [(.aload_n 0, [0], 0, 0), (.getfield 18, [1, 2, 0], 0, 0), (.ifCond .lt 7, [5], 0, 0), (.iconst 1, [], 1, 0), (.goto 4, [6], 0, 0), (.iconst 0, [], 0, 0), (.ireturn, [1], 0, 0)]
def xk_61 : List (Nat × Nat) := [(0, 0), (1, 19), (4, 0), (7, 0), (8, 0), (11, 0), (12, 0)]
def xm_61 : xi_M := (1, "isBegun", "()Z", prog_3_method_2_code, some .boolean, 1, xk_61)
/-- GuineaHours.openToday()I -/
def xc_62 : List xi_E := [(.aload_n 0, [0], 0, 0), (.getfield 59, [7, 9, 2], 0, 0), (.aload_n 0, [0], 0, 0), (.getfield 29, [7, 4, 2], 0, 0), (.aload_n 0, [0], 0, 0), (.getfield 39, [7, 6, 2], 0, 0), (.getfield 177, [1, 0, 0], 0, 0), (.aload_n 0, [0], 0, 0), (.getfield 39, [7, 6, 2], 0, 0), (.getfield 193, [1, 1, 0], 0, 0), (.invokevirtual 231, [63, 4, 6], 0, 0), (.aload_n 0, [0], 0, 0), (.getfield 59, [7, 9, 2], 0, 0), (.aload_n 0, [0], 0, 0), (.getfield 39, [7, 6, 2], 0, 0), (.invokevirtual 235, [65, 2, 6], 0, 0), (.aload_n 0, [0], 0, 0), (.getfield 59, [7, 9, 2], 0, 0), (.aload_n 0, [0], 0, 0), (.getfield 39, [7, 6, 2], 0, 0), (.getfield 222, [1, 2, 0], 0, 0), (.invokevirtual 384, [67, 2, 6], 0, 0), (.ireturn, [0], 0, 0)]
def xk_62 : List (Nat × Nat) := [(0, 0), (1, 64), (4, 0), (5, 59), (8, 0), (9, 61), (12, 16), (15, 0), (16, 61), (19, 18), (22, 73), (25, 0), (26, 64), (29, 0), (30, 61), (33, 77), (36, 0), (37, 64), (40, 0), (41, 61), (44, 21), (47, 80), (50, 0)]
def xm_62 : xi_M := (7, "openToday", "()I", prog_1_method_65_code, some .int, 1, xk_62)
/-- GuineaHours$Walk.prepare(LGuineaHours$Town;II)V -/
def xc_63 : List xi_E := [(.aload_n 0, [0], 0, 0), (.aload_n 1, [1], 0, 0), (.putfield 44, [6, 3, 2], 0, 0), (.aload_n 0, [0], 0, 0), (.iload_n 3, [3], 0, 0), (.ifCond .eq 7, [8], 0, 0), (.iconst 1, [], 1, 0), (.goto 4, [9], 0, 0), (.iconst 0, [], 0, 0), (.putfield 22, [6, 4, 3], 0, 0), (.aload_n 0, [0], 0, 0), (.iconst 0, [], 0, 0), (.putfield 9, [6, 0, 3], 0, 0), (.aload_n 0, [0], 0, 0), (.iconst 0, [], 0, 0), (.putfield 15, [6, 1, 0], 0, 0), (.aload_n 0, [0], 0, 0), (.aload_n 0, [0], 0, 0), (.getfield 44, [6, 3, 2], 0, 0), (.invokevirtual 48, [64, 1, 4], 0, 0), (.putfield 19, [6, 2, 0], 0, 0), (.aload_n 0, [0], 0, 0), (.iconst 0, [], 0, 0), (.putfield 25, [6, 5, 0], 0, 0), (.iconst 0, [], 0, 0), (.istore 4, [4], 0, 0), (.iload 4, [4], 0, 0), (.bipush 7, [], 7, 0), (.if_icmp .ge 34, [45], 0, 0), (.aload_n 0, [0], 0, 0), (.getfield 28, [6, 6, 2], 0, 0), (.iload 4, [4], 0, 0), (.aload_n 0, [0], 0, 0), (.getfield 44, [6, 3, 2], 0, 0), (.iload 4, [4], 0, 0), (.iload_n 2, [2], 0, 0), (.invokevirtual 54, [46, 3, 4], 0, 0), (.iastore, [], 0, 0), (.aload_n 0, [0], 0, 0), (.getfield 32, [6, 7, 2], 0, 0), (.iload 4, [4], 0, 0), (.iconst 0, [], 0, 0), (.iastore, [], 0, 0), (.iinc 4 1, [4], 1, 0), (.goto (-35), [26], 0, 0), (.aload_n 0, [0], 0, 0), (.getfield 38, [6, 9, 2], 0, 0), (.aload_n 0, [0], 0, 0), (.getfield 44, [6, 3, 2], 0, 0), (.invokevirtual 48, [64, 1, 4], 0, 0), (.invokestatic 58, [8, 2], 0, 0), (.aload_n 0, [0], 0, 0), (.getfield 41, [6, 10, 2], 0, 0), (.iconst 0, [], 0, 0), (.invokestatic 58, [8, 2], 0, 0), (.return_, [], 0, 0)]
def xk_63 : List (Nat × Nat) := [(0, 0), (1, 0), (2, 41), (5, 0), (6, 0), (7, 0), (10, 0), (11, 0), (14, 0), (15, 42), (18, 0), (19, 0), (20, 35), (23, 0), (24, 0), (25, 37), (28, 0), (29, 0), (30, 41), (33, 74), (36, 39), (39, 0), (40, 0), (41, 43), (44, 0), (45, 0), (47, 0), (49, 0), (51, 0), (54, 0), (55, 44), (58, 0), (60, 0), (61, 41), (64, 0), (66, 0), (67, 75), (70, 0), (71, 0), (72, 45), (75, 0), (77, 0), (78, 0), (79, 0), (82, 0), (85, 0), (86, 47), (89, 0), (90, 41), (93, 74), (96, 76), (99, 0), (100, 48), (103, 0), (104, 76), (107, 0)]
def xm_63 : xi_M := (6, "prepare", "(LGuineaHours$Town;II)V", prog_8_method_2_code, none, 1, xk_63)
/-- GuineaHours$Town.everyone()I -/
def xc_64 : List xi_E := [(.iconst 1, [], 1, 0), (.aload_n 0, [0], 0, 0), (.getfield 15, [4, 1, 0], 0, 0), (.ishl, [], 0, 0), (.iconst 1, [], 1, 0), (.isub, [], 0, 0), (.ireturn, [0], 0, 0)]
def xk_64 : List (Nat × Nat) := [(0, 0), (1, 0), (2, 5), (5, 0), (6, 0), (7, 0), (8, 0)]
def xm_64 : xi_M := (4, "everyone", "()I", prog_6_method_5_code, some .int, 1, xk_64)
/-- GuineaHours$Walk.follow(LGuineaHours$Day;)V -/
def xc_65 : List xi_E := [(.iconst 0, [], 0, 0), (.istore_n 2, [2], 0, 0), (.iload_n 2, [2], 0, 0), (.aload_n 1, [1], 0, 0), (.getfield 64, [1, 2, 0], 0, 0), (.if_icmp .gt 26, [18], 0, 0), (.iload_n 2, [2], 0, 0), (.bipush 6, [], 6, 0), (.if_icmp .ge 20, [18], 0, 0), (.aload_n 0, [0], 0, 0), (.iload_n 2, [2], 0, 0), (.aload_n 1, [1], 0, 0), (.getfield 69, [1, 3, 2], 0, 0), (.iload_n 2, [2], 0, 0), (.iaload, [], 0, 0), (.invokevirtual 70, [66, 3, 6], 0, 0), (.iinc 2 1, [2], 1, 0), (.goto (-28), [2], 0, 0), (.return_, [], 0, 0)]
def xk_65 : List (Nat × Nat) := [(0, 0), (1, 0), (2, 0), (3, 0), (4, 20), (7, 0), (10, 0), (11, 0), (13, 0), (16, 0), (17, 0), (18, 0), (19, 23), (22, 0), (23, 0), (24, 78), (27, 0), (30, 0), (33, 0)]
def xm_65 : xi_M := (6, "follow", "(LGuineaHours$Day;)V", prog_8_method_4_code, none, 1, xk_65)
/-- GuineaHours$Walk.take(II)V -/
def xc_66 : List xi_E := [(.iload_n 1, [1], 0, 0), (.ifCond .lt 20, [10], 0, 0), (.iload_n 1, [1], 0, 0), (.bipush 6, [], 6, 0), (.if_icmp .ge 14, [10], 0, 0), (.aload_n 0, [0], 0, 0), (.getfield 44, [6, 3, 2], 0, 0), (.iload_n 2, [2], 0, 0), (.invokevirtual 74, [37, 2, 4], 0, 0), (.ifCond .ne 4, [11], 0, 0), (.return_, [], 0, 0), (.aload_n 0, [0], 0, 0), (.getfield 35, [6, 8, 2], 0, 0), (.iload_n 1, [1], 0, 0), (.iload_n 2, [2], 0, 0), (.iastore, [], 0, 0), (.aload_n 0, [0], 0, 0), (.getfield 32, [6, 7, 2], 0, 0), (.iload_n 2, [2], 0, 0), (.dup2, [], 0, 0), (.iaload, [], 0, 0), (.iconst 1, [], 1, 0), (.iadd, [], 0, 0), (.iastore, [], 0, 0), (.aload_n 0, [0], 0, 0), (.getfield 32, [6, 7, 2], 0, 0), (.iload_n 2, [2], 0, 0), (.iaload, [], 0, 0), (.aload_n 0, [0], 0, 0), (.getfield 28, [6, 6, 2], 0, 0), (.iload_n 2, [2], 0, 0), (.iaload, [], 0, 0), (.if_icmp .lt 15, [41], 0, 0), (.aload_n 0, [0], 0, 0), (.dup, [], 0, 0), (.getfield 25, [6, 5, 0], 0, 0), (.iconst 1, [], 1, 0), (.iload_n 2, [2], 0, 0), (.ishl, [], 0, 0), (.ior, [], 0, 0), (.putfield 25, [6, 5, 0], 0, 0), (.return_, [], 0, 0)]
def xk_66 : List (Nat × Nat) := [(0, 0), (1, 0), (4, 0), (5, 0), (7, 0), (10, 0), (11, 41), (14, 0), (15, 79), (18, 0), (21, 0), (22, 0), (23, 46), (26, 0), (27, 0), (28, 0), (29, 0), (30, 45), (33, 0), (34, 0), (35, 0), (36, 0), (37, 0), (38, 0), (39, 0), (40, 45), (43, 0), (44, 0), (45, 0), (46, 44), (49, 0), (50, 0), (51, 0), (54, 0), (55, 0), (56, 43), (59, 0), (60, 0), (61, 0), (62, 0), (63, 43), (66, 0)]
def xm_66 : xi_M := (6, "take", "(II)V", prog_8_method_5_code, none, 1, xk_66)
/-- GuineaHours$Walk.openIn(I)I -/
def xc_67 : List xi_E := [(.aload_n 0, [0], 0, 0), (.getfield 44, [6, 3, 2], 0, 0), (.iload_n 1, [1], 0, 0), (.invokevirtual 78, [48, 2, 4], 0, 0), (.ifCond .ne 5, [7], 0, 0), (.iconst 0, [], 0, 0), (.ireturn, [0], 0, 0), (.aload_n 0, [0], 0, 0), (.getfield 44, [6, 3, 2], 0, 0), (.aload_n 0, [0], 0, 0), (.getfield 35, [6, 8, 2], 0, 0), (.iload_n 1, [1], 0, 0), (.iaload, [], 0, 0), (.iload_n 1, [1], 0, 0), (.invokevirtual 81, [56, 3, 4], 0, 0), (.aload_n 0, [0], 0, 0), (.iload_n 1, [1], 0, 0), (.invokevirtual 84, [68, 2, 6], 0, 0), (.iconst (-1), [], (-1), 0), (.ixor, [], 0, 0), (.iand, [], 0, 0), (.aload_n 0, [0], 0, 0), (.getfield 25, [6, 5, 0], 0, 0), (.iconst (-1), [], (-1), 0), (.ixor, [], 0, 0), (.iand, [], 0, 0), (.ireturn, [0], 0, 0)]
def xk_67 : List (Nat × Nat) := [(0, 0), (1, 41), (4, 0), (5, 81), (8, 0), (11, 0), (12, 0), (13, 0), (14, 41), (17, 0), (18, 46), (21, 0), (22, 0), (23, 0), (24, 82), (27, 0), (28, 0), (29, 83), (32, 0), (33, 0), (34, 0), (35, 0), (36, 43), (39, 0), (40, 0), (41, 0), (42, 0)]
def xm_67 : xi_M := (6, "openIn", "(I)I", prog_8_method_7_code, some .int, 1, xk_67)
/-- GuineaHours$Walk.barredIn(I)I -/
def xc_68 : List xi_E := [(.aload_n 0, [0], 0, 0), (.getfield 22, [6, 4, 3], 0, 0), (.ifCond .eq 27, [18], 0, 0), (.iload_n 1, [1], 0, 0), (.iconst 1, [], 1, 0), (.if_icmp .lt 22, [18], 0, 0), (.iload_n 1, [1], 0, 0), (.bipush 6, [], 6, 0), (.if_icmp .ge 16, [18], 0, 0), (.iconst 1, [], 1, 0), (.aload_n 0, [0], 0, 0), (.getfield 35, [6, 8, 2], 0, 0), (.iload_n 1, [1], 0, 0), (.iconst 1, [], 1, 0), (.isub, [], 0, 0), (.iaload, [], 0, 0), (.ishl, [], 0, 0), (.goto 4, [19], 0, 0), (.iconst 0, [], 0, 0), (.ireturn, [0], 0, 0)]
def xk_68 : List (Nat × Nat) := [(0, 0), (1, 42), (4, 0), (7, 0), (8, 0), (9, 0), (12, 0), (13, 0), (15, 0), (18, 0), (19, 0), (20, 46), (23, 0), (24, 0), (25, 0), (26, 0), (27, 0), (28, 0), (31, 0), (32, 0)]
def xm_68 : xi_M := (6, "barredIn", "(I)I", prog_8_method_8_code, some .int, 1, xk_68)
/-- GuineaHours$Day.passTo(I)V -/
def xc_69 : List xi_E := [(.aload_n 0, [0], 0, 0), (.getfield 18, [1, 2, 0], 0, 0), (.ifCond .lt 34, [21], 0, 0), (.aload_n 0, [0], 0, 0), (.getfield 18, [1, 2, 0], 0, 0), (.iconst 1, [], 1, 0), (.iadd, [], 0, 0), (.bipush 6, [], 6, 0), (.if_icmp .ge 23, [21], 0, 0), (.aload_n 0, [0], 0, 0), (.dup, [], 0, 0), (.getfield 18, [1, 2, 0], 0, 0), (.iconst 1, [], 1, 0), (.iadd, [], 0, 0), (.putfield 18, [1, 2, 0], 0, 0), (.aload_n 0, [0], 0, 0), (.getfield 21, [1, 3, 2], 0, 0), (.aload_n 0, [0], 0, 0), (.getfield 18, [1, 2, 0], 0, 0), (.iload_n 1, [1], 0, 0), (.iastore, [], 0, 0), (.return_, [], 0, 0)]
def xk_69 : List (Nat × Nat) := [(0, 0), (1, 19), (4, 0), (7, 0), (8, 19), (11, 0), (12, 0), (13, 0), (15, 0), (18, 0), (19, 0), (20, 19), (23, 0), (24, 0), (25, 19), (28, 0), (29, 22), (32, 0), (33, 19), (36, 0), (37, 0), (38, 0)]
def xm_69 : xi_M := (1, "passTo", "(I)V", prog_3_method_4_code, none, 1, xk_69)
/-- GuineaHours.undo()I -/
def xc_70 : List xi_E := [(.aload_n 0, [0], 0, 0), (.getfield 39, [7, 6, 2], 0, 0), (.getfield 222, [1, 2, 0], 0, 0), (.ifCond .gt 6, [6], 0, 0), (.bipush (-4), [], (-4), 0), (.ireturn, [0], 0, 0), (.aload_n 0, [0], 0, 0), (.getfield 39, [7, 6, 2], 0, 0), (.dup, [], 0, 0), (.getfield 222, [1, 2, 0], 0, 0), (.iconst 1, [], 1, 0), (.isub, [], 0, 0), (.putfield 222, [1, 2, 0], 0, 0), (.aload_n 0, [0], 0, 0), (.getfield 39, [7, 6, 2], 0, 0), (.getfield 222, [1, 2, 0], 0, 0), (.ireturn, [0], 0, 0)]
def xk_70 : List (Nat × Nat) := [(0, 0), (1, 61), (4, 21), (7, 0), (10, 0), (12, 0), (13, 0), (14, 61), (17, 0), (18, 21), (21, 0), (22, 0), (23, 21), (26, 0), (27, 61), (30, 21), (33, 0)]
def xm_70 : xi_M := (7, "undo", "()I", prog_1_method_20_code, some .int, 1, xk_70)
/-- GuineaHours.now()I -/
def xc_71 : List xi_E := [(.aload_n 0, [0], 0, 0), (.getfield 39, [7, 6, 2], 0, 0), (.invokevirtual 211, [61, 1, 1], 0, 0), (.ifCond .ne 6, [6], 0, 0), (.bipush (-4), [], (-4), 0), (.ireturn, [0], 0, 0), (.aload_n 0, [0], 0, 0), (.aload_n 0, [0], 0, 0), (.getfield 39, [7, 6, 2], 0, 0), (.getfield 222, [1, 2, 0], 0, 0), (.putfield 87, [7, 14, 0], 0, 0), (.aload_n 0, [0], 0, 0), (.getfield 39, [7, 6, 2], 0, 0), (.invokevirtual 225, [72, 1, 1], 0, 0), (.ireturn, [0], 0, 0)]
def xk_71 : List (Nat × Nat) := [(0, 0), (1, 61), (4, 71), (7, 0), (10, 0), (12, 0), (13, 0), (14, 0), (15, 61), (18, 21), (21, 69), (24, 0), (25, 61), (28, 87), (31, 0)]
def xm_71 : xi_M := (7, "now", "()I", prog_1_method_21_code, some .int, 1, xk_71)
/-- GuineaHours$Day.holder()I -/
def xc_72 : List xi_E := [(.aload_n 0, [0], 0, 0), (.getfield 18, [1, 2, 0], 0, 0), (.ifCond .lt 24, [13], 0, 0), (.aload_n 0, [0], 0, 0), (.getfield 18, [1, 2, 0], 0, 0), (.bipush 6, [], 6, 0), (.if_icmp .ge 15, [13], 0, 0), (.aload_n 0, [0], 0, 0), (.getfield 21, [1, 3, 2], 0, 0), (.aload_n 0, [0], 0, 0), (.getfield 18, [1, 2, 0], 0, 0), (.iaload, [], 0, 0), (.goto 5, [14], 0, 0), (.bipush (-9), [], (-9), 0), (.ireturn, [0], 0, 0)]
def xk_72 : List (Nat × Nat) := [(0, 0), (1, 19), (4, 0), (7, 0), (8, 19), (11, 0), (13, 0), (16, 0), (17, 22), (20, 0), (21, 19), (24, 0), (25, 0), (28, 0), (30, 0)]
def xm_72 : xi_M := (1, "holder", "()I", prog_3_method_5_code, some .int, 1, xk_72)
/-- GuineaHours.often(I)I -/
def xc_73 : List xi_E := [(.aload_n 0, [0], 0, 0), (.getfield 29, [7, 4, 2], 0, 0), (.iload_n 1, [1], 0, 0), (.invokevirtual 158, [37, 2, 4], 0, 0), (.ifCond .ne 5, [7], 0, 0), (.iconst (-1), [], (-1), 0), (.ireturn, [0], 0, 0), (.aload_n 0, [0], 0, 0), (.getfield 39, [7, 6, 2], 0, 0), (.invokevirtual 211, [61, 1, 1], 0, 0), (.ifCond .ne 6, [13], 0, 0), (.bipush (-4), [], (-4), 0), (.ireturn, [0], 0, 0), (.aload_n 0, [0], 0, 0), (.getfield 39, [7, 6, 2], 0, 0), (.iload_n 1, [1], 0, 0), (.invokevirtual 228, [74, 2, 1], 0, 0), (.ireturn, [0], 0, 0)]
def xk_73 : List (Nat × Nat) := [(0, 0), (1, 59), (4, 0), (5, 49), (8, 0), (11, 0), (12, 0), (13, 0), (14, 61), (17, 71), (20, 0), (23, 0), (25, 0), (26, 0), (27, 61), (30, 0), (31, 89), (34, 0)]
def xm_73 : xi_M := (7, "often", "(I)I", prog_1_method_22_code, some .int, 1, xk_73)
/-- GuineaHours$Day.timesHadBy(I)I -/
def xc_74 : List xi_E := [(.iconst 0, [], 0, 0), (.istore_n 2, [2], 0, 0), (.iconst 0, [], 0, 0), (.istore_n 3, [3], 0, 0), (.iload_n 3, [3], 0, 0), (.aload_n 0, [0], 0, 0), (.getfield 18, [1, 2, 0], 0, 0), (.if_icmp .gt 28, [20], 0, 0), (.iload_n 3, [3], 0, 0), (.bipush 6, [], 6, 0), (.if_icmp .ge 22, [20], 0, 0), (.aload_n 0, [0], 0, 0), (.getfield 21, [1, 3, 2], 0, 0), (.iload_n 3, [3], 0, 0), (.iaload, [], 0, 0), (.iload_n 1, [1], 0, 0), (.if_icmp .ne 6, [18], 0, 0), (.iinc 2 1, [2], 1, 0), (.iinc 3 1, [3], 1, 0), (.goto (-30), [4], 0, 0), (.iload_n 2, [2], 0, 0), (.ireturn, [0], 0, 0)]
def xk_74 : List (Nat × Nat) := [(0, 0), (1, 0), (2, 0), (3, 0), (4, 0), (5, 0), (6, 19), (9, 0), (12, 0), (13, 0), (15, 0), (18, 0), (19, 22), (22, 0), (23, 0), (24, 0), (25, 0), (28, 0), (31, 0), (34, 0), (37, 0), (38, 0)]
def xm_74 : xi_M := (1, "timesHadBy", "(I)I", prog_3_method_6_code, some .int, 1, xk_74)
/-- GuineaHours.can()I -/
def xc_75 : List xi_E := [(.aload_n 0, [0], 0, 0), (.getfield 39, [7, 6, 2], 0, 0), (.invokevirtual 211, [61, 1, 1], 0, 0), (.ifCond .ne 6, [6], 0, 0), (.bipush (-4), [], (-4), 0), (.ireturn, [0], 0, 0), (.aload_n 0, [0], 0, 0), (.invokevirtual 215, [62, 1, 7], 0, 0), (.ireturn, [0], 0, 0)]
def xk_75 : List (Nat × Nat) := [(0, 0), (1, 61), (4, 71), (7, 0), (10, 0), (12, 0), (13, 0), (14, 72), (17, 0)]
def xm_75 : xi_M := (7, "can", "()I", prog_1_method_23_code, some .int, 1, xk_75)
/-- GuineaHours.ends()I -/
def xc_76 : List xi_E := [(.aload_n 0, [0], 0, 0), (.getfield 39, [7, 6, 2], 0, 0), (.invokevirtual 211, [61, 1, 1], 0, 0), (.ifCond .ne 6, [6], 0, 0), (.bipush (-4), [], (-4), 0), (.ireturn, [0], 0, 0), (.aload_n 0, [0], 0, 0), (.getfield 59, [7, 9, 2], 0, 0), (.aload_n 0, [0], 0, 0), (.getfield 29, [7, 4, 2], 0, 0), (.aload_n 0, [0], 0, 0), (.getfield 39, [7, 6, 2], 0, 0), (.getfield 177, [1, 0, 0], 0, 0), (.aload_n 0, [0], 0, 0), (.getfield 39, [7, 6, 2], 0, 0), (.getfield 193, [1, 1, 0], 0, 0), (.invokevirtual 231, [63, 4, 6], 0, 0), (.aload_n 0, [0], 0, 0), (.getfield 59, [7, 9, 2], 0, 0), (.aload_n 0, [0], 0, 0), (.getfield 39, [7, 6, 2], 0, 0), (.invokevirtual 235, [65, 2, 6], 0, 0), (.aload_n 0, [0], 0, 0), (.getfield 59, [7, 9, 2], 0, 0), (.aload_n 0, [0], 0, 0), (.getfield 39, [7, 6, 2], 0, 0), (.getfield 222, [1, 2, 0], 0, 0), (.invokevirtual 239, [77, 2, 6], 0, 0), (.istore_n 1, [1], 0, 0), (.aload_n 0, [0], 0, 0), (.aload_n 0, [0], 0, 0), (.getfield 59, [7, 9, 2], 0, 0), (.aload_n 0, [0], 0, 0), (.getfield 29, [7, 4, 2], 0, 0), (.getfield 199, [4, 0, 0], 0, 0), (.invokevirtual 242, [84, 2, 6], 0, 0), (.putfield 87, [7, 14, 0], 0, 0), (.iload_n 1, [1], 0, 0), (.ireturn, [0], 0, 0)]
def xk_76 : List (Nat × Nat) := [(0, 0), (1, 61), (4, 71), (7, 0), (10, 0), (12, 0), (13, 0), (14, 64), (17, 0), (18, 59), (21, 0), (22, 61), (25, 16), (28, 0), (29, 61), (32, 18), (35, 73), (38, 0), (39, 64), (42, 0), (43, 61), (46, 77), (49, 0), (50, 64), (53, 0), (54, 61), (57, 21), (60, 92), (63, 0), (64, 0), (65, 0), (66, 64), (69, 0), (70, 59), (73, 4), (76, 102), (79, 69), (82, 0), (83, 0)]
def xm_76 : xi_M := (7, "ends", "()I", prog_1_method_24_code, some .int, 1, xk_76)
/-- GuineaHours$Walk.countOn(I)I -/
def xc_77 : List xi_E := [(.aload_n 0, [0], 0, 0), (.invokevirtual 95, [78, 1, 6], 0, 0), (.aload_n 0, [0], 0, 0), (.iload_n 1, [1], 0, 0), (.invokevirtual 101, [80, 2, 6], 0, 0), (.ireturn, [0], 0, 0)]
def xk_77 : List (Nat × Nat) := [(0, 0), (1, 93), (4, 0), (5, 0), (6, 96), (9, 0)]
def xm_77 : xi_M := (6, "countOn", "(I)I", prog_8_method_12_code, some .int, 1, xk_77)
/-- GuineaHours$Walk.trim()V -/
def xc_78 : List xi_E := [(.aload_n 0, [0], 0, 0), (.getfield 44, [6, 3, 2], 0, 0), (.getfield 88, [4, 0, 0], 0, 0), (.iconst 1, [], 1, 0), (.isub, [], 0, 0), (.istore_n 1, [1], 0, 0), (.iload_n 1, [1], 0, 0), (.ifCond .lt 37, [28], 0, 0), (.aload_n 0, [0], 0, 0), (.getfield 38, [6, 9, 2], 0, 0), (.iload_n 1, [1], 0, 0), (.aload_n 0, [0], 0, 0), (.getfield 44, [6, 3, 2], 0, 0), (.aload_n 0, [0], 0, 0), (.getfield 38, [6, 9, 2], 0, 0), (.iload_n 1, [1], 0, 0), (.iconst 1, [], 1, 0), (.iadd, [], 0, 0), (.iaload, [], 0, 0), (.aload_n 0, [0], 0, 0), (.getfield 38, [6, 9, 2], 0, 0), (.iload_n 1, [1], 0, 0), (.iaload, [], 0, 0), (.iload_n 1, [1], 0, 0), (.invokevirtual 91, [79, 4, 4], 0, 0), (.iastore, [], 0, 0), (.iinc 1 (-1), [1], (-1), 0), (.goto (-35), [6], 0, 0), (.return_, [], 0, 0)]
def xk_78 : List (Nat × Nat) := [(0, 0), (1, 41), (4, 3), (7, 0), (8, 0), (9, 0), (10, 0), (11, 0), (14, 0), (15, 47), (18, 0), (19, 0), (20, 41), (23, 0), (24, 47), (27, 0), (28, 0), (29, 0), (30, 0), (31, 0), (32, 47), (35, 0), (36, 0), (37, 0), (38, 94), (41, 0), (42, 0), (45, 0), (48, 0)]
def xm_78 : xi_M := (6, "trim", "()V", prog_8_method_10_code, none, 1, xk_78)
/-- GuineaHours$Town.giversTo(III)I -/
def xc_79 : List xi_E := [(.iconst 0, [], 0, 0), (.istore 4, [4], 0, 0), (.iconst 0, [], 0, 0), (.istore 5, [5], 0, 0), (.iload 5, [5], 0, 0), (.aload_n 0, [0], 0, 0), (.getfield 15, [4, 1, 0], 0, 0), (.if_icmp .ge 39, [29], 0, 0), (.iload_n 2, [2], 0, 0), (.iload 5, [5], 0, 0), (.ishr, [], 0, 0), (.iconst 1, [], 1, 0), (.iand, [], 0, 0), (.ifCond .eq 24, [27], 0, 0), (.aload_n 0, [0], 0, 0), (.iload 5, [5], 0, 0), (.iload_n 3, [3], 0, 0), (.invokevirtual 61, [56, 3, 4], 0, 0), (.iload_n 1, [1], 0, 0), (.iand, [], 0, 0), (.ifCond .eq 12, [27], 0, 0), (.iload 4, [4], 0, 0), (.iconst 1, [], 1, 0), (.iload 5, [5], 0, 0), (.ishl, [], 0, 0), (.ior, [], 0, 0), (.istore 4, [4], 0, 0), (.iinc 5 1, [5], 1, 0), (.goto (-42), [4], 0, 0), (.iload 4, [4], 0, 0), (.ireturn, [0], 0, 0)]
def xk_79 : List (Nat × Nat) := [(0, 0), (1, 0), (3, 0), (4, 0), (6, 0), (8, 0), (9, 5), (12, 0), (15, 0), (16, 0), (18, 0), (19, 0), (20, 0), (21, 0), (24, 0), (25, 0), (27, 0), (28, 95), (31, 0), (32, 0), (33, 0), (36, 0), (38, 0), (39, 0), (41, 0), (42, 0), (43, 0), (45, 0), (48, 0), (51, 0), (53, 0)]
def xm_79 : xi_M := (4, "giversTo", "(III)I", prog_6_method_18_code, some .int, 1, xk_79)
/-- GuineaHours$Walk.rowsWith(I)I -/
def xc_80 : List xi_E := [(.iload_n 1, [1], 0, 0), (.ifCond .lt 9, [5], 0, 0), (.iload_n 1, [1], 0, 0), (.bipush 6, [], 6, 0), (.if_icmp .lt 5, [7], 0, 0), (.iconst 0, [], 0, 0), (.ireturn, [0], 0, 0), (.aload_n 0, [0], 0, 0), (.iload_n 1, [1], 0, 0), (.iconst 1, [], 1, 0), (.aload_n 0, [0], 0, 0), (.getfield 35, [6, 8, 2], 0, 0), (.iload_n 1, [1], 0, 0), (.iaload, [], 0, 0), (.ishl, [], 0, 0), (.invokestatic 108, [81, 3], 0, 0), (.istore_n 2, [2], 0, 0), (.aload_n 0, [0], 0, 0), (.getfield 41, [6, 10, 2], 0, 0), (.iload_n 1, [1], 0, 0), (.bipush 7, [], 7, 0), (.imul, [], 0, 0), (.aload_n 0, [0], 0, 0), (.getfield 35, [6, 8, 2], 0, 0), (.iload_n 1, [1], 0, 0), (.iaload, [], 0, 0), (.iadd, [], 0, 0), (.dup2, [], 0, 0), (.iaload, [], 0, 0), (.iload_n 2, [2], 0, 0), (.iadd, [], 0, 0), (.iastore, [], 0, 0), (.iload_n 2, [2], 0, 0), (.ireturn, [0], 0, 0)]
def xk_80 : List (Nat × Nat) := [(0, 0), (1, 0), (4, 0), (5, 0), (7, 0), (10, 0), (11, 0), (12, 0), (13, 0), (14, 0), (15, 0), (16, 46), (19, 0), (20, 0), (21, 0), (22, 97), (25, 0), (26, 0), (27, 48), (30, 0), (31, 0), (33, 0), (34, 0), (35, 46), (38, 0), (39, 0), (40, 0), (41, 0), (42, 0), (43, 0), (44, 0), (45, 0), (46, 0), (47, 0)]
def xm_80 : xi_M := (6, "rowsWith", "(I)I", prog_8_method_13_code, some .int, 1, xk_80)
/-- GuineaHours$Walk.rowsBehind(LGuineaHours$Walk;II)I -/
def xc_81 : List xi_E := [(.iload_n 1, [1], 0, 0), (.aload_n 0, [0], 0, 0), (.getfield 44, [6, 3, 2], 0, 0), (.getfield 88, [4, 0, 0], 0, 0), (.if_icmp .ge 11, [10], 0, 0), (.iload_n 1, [1], 0, 0), (.iconst 1, [], 1, 0), (.iadd, [], 0, 0), (.bipush 6, [], 6, 0), (.if_icmp .lt 5, [12], 0, 0), (.iconst 1, [], 1, 0), (.ireturn, [0], 0, 0), (.aload_n 0, [0], 0, 0), (.iload_n 1, [1], 0, 0), (.invokevirtual 112, [67, 2, 6], 0, 0), (.aload_n 0, [0], 0, 0), (.getfield 38, [6, 9, 2], 0, 0), (.iload_n 1, [1], 0, 0), (.iconst 1, [], 1, 0), (.iadd, [], 0, 0), (.iaload, [], 0, 0), (.iand, [], 0, 0), (.istore_n 3, [3], 0, 0), (.iload_n 1, [1], 0, 0), (.iconst 1, [], 1, 0), (.iadd, [], 0, 0), (.aload_n 0, [0], 0, 0), (.getfield 44, [6, 3, 2], 0, 0), (.getfield 88, [4, 0, 0], 0, 0), (.if_icmp .ne 10, [35], 0, 0), (.aload_n 0, [0], 0, 0), (.iload_n 3, [3], 0, 0), (.iload_n 2, [2], 0, 0), (.invokevirtual 115, [82, 3, 6], 0, 0), (.ireturn, [0], 0, 0), (.iconst 0, [], 0, 0), (.istore 4, [4], 0, 0), (.iconst 0, [], 0, 0), (.istore 5, [5], 0, 0), (.iload 5, [5], 0, 0), (.aload_n 0, [0], 0, 0), (.getfield 44, [6, 3, 2], 0, 0), (.getfield 98, [4, 1, 0], 0, 0), (.if_icmp .ge 96, [101], 0, 0), (.iload_n 3, [3], 0, 0), (.iload 5, [5], 0, 0), (.ishr, [], 0, 0), (.ifCond .eq 89, [101], 0, 0), (.iload_n 3, [3], 0, 0), (.iload 5, [5], 0, 0), (.ishr, [], 0, 0), (.iconst 1, [], 1, 0), (.iand, [], 0, 0), (.ifCond .eq 59, [92], 0, 0), (.aload_n 0, [0], 0, 0), (.iload_n 1, [1], 0, 0), (.iconst 1, [], 1, 0), (.iadd, [], 0, 0), (.iload 5, [5], 0, 0), (.invokevirtual 70, [66, 3, 6], 0, 0), (.aload_n 0, [0], 0, 0), (.iload_n 1, [1], 0, 0), (.iconst 1, [], 1, 0), (.iadd, [], 0, 0), (.iload_n 2, [2], 0, 0), (.iconst 1, [], 1, 0), (.iload 5, [5], 0, 0), (.ishl, [], 0, 0), (.ior, [], 0, 0), (.invokestatic 108, [81, 3], 0, 0), (.istore 6, [6], 0, 0), (.aload_n 0, [0], 0, 0), (.iload 5, [5], 0, 0), (.invokevirtual 104, [83, 2, 6], 0, 0), (.aload_n 0, [0], 0, 0), (.getfield 41, [6, 10, 2], 0, 0), (.iload_n 1, [1], 0, 0), (.iconst 1, [], 1, 0), (.iadd, [], 0, 0), (.bipush 7, [], 7, 0), (.imul, [], 0, 0), (.iload 5, [5], 0, 0), (.iadd, [], 0, 0), (.dup2, [], 0, 0), (.iaload, [], 0, 0), (.iload 6, [6], 0, 0), (.iadd, [], 0, 0), (.iastore, [], 0, 0), (.iload 4, [4], 0, 0), (.iload 6, [6], 0, 0), (.iadd, [], 0, 0), (.istore 4, [4], 0, 0), (.aload_n 0, [0], 0, 0), (.getfield 9, [6, 0, 3], 0, 0), (.ifCond .eq 11, [99], 0, 0), (.iload 4, [4], 0, 0), (.ifCond .le 6, [99], 0, 0), (.iload 4, [4], 0, 0), (.ireturn, [0], 0, 0), (.iinc 5 1, [5], 1, 0), (.goto (-102), [39], 0, 0), (.iload 4, [4], 0, 0), (.ireturn, [0], 0, 0)]
def xk_81 : List (Nat × Nat) := [(0, 0), (1, 0), (2, 41), (5, 3), (8, 0), (11, 0), (12, 0), (13, 0), (14, 0), (16, 0), (19, 0), (20, 0), (21, 0), (22, 0), (23, 98), (26, 0), (27, 47), (30, 0), (31, 0), (32, 0), (33, 0), (34, 0), (35, 0), (36, 0), (37, 0), (38, 0), (39, 0), (40, 41), (43, 3), (46, 0), (49, 0), (50, 0), (51, 0), (52, 99), (55, 0), (56, 0), (57, 0), (59, 0), (60, 0), (62, 0), (64, 0), (65, 41), (68, 9), (71, 0), (74, 0), (75, 0), (77, 0), (78, 0), (81, 0), (82, 0), (84, 0), (85, 0), (86, 0), (87, 0), (90, 0), (91, 0), (92, 0), (93, 0), (94, 0), (96, 78), (99, 0), (100, 0), (101, 0), (102, 0), (103, 0), (104, 0), (105, 0), (107, 0), (108, 0), (109, 97), (112, 0), (114, 0), (115, 0), (117, 101), (120, 0), (121, 48), (124, 0), (125, 0), (126, 0), (127, 0), (129, 0), (130, 0), (132, 0), (133, 0), (134, 0), (135, 0), (137, 0), (138, 0), (139, 0), (141, 0), (143, 0), (144, 0), (146, 0), (147, 35), (150, 0), (153, 0), (155, 0), (158, 0), (160, 0), (161, 0), (164, 0), (167, 0), (169, 0)]
def xm_81 : xi_M := (6, "rowsBehind", "(LGuineaHours$Walk;II)I", prog_8_method_14_code, some .int, 0, xk_81)
/-- GuineaHours$Walk.rowsEnding(II)I -/
def xc_82 : List xi_E := [(.aload_n 0, [0], 0, 0), (.getfield 44, [6, 3, 2], 0, 0), (.getfield 88, [4, 0, 0], 0, 0), (.istore_n 3, [3], 0, 0), (.iconst 0, [], 0, 0), (.istore 4, [4], 0, 0), (.iload 4, [4], 0, 0), (.aload_n 0, [0], 0, 0), (.getfield 44, [6, 3, 2], 0, 0), (.getfield 98, [4, 1, 0], 0, 0), (.if_icmp .ge 72, [54], 0, 0), (.iload_n 3, [3], 0, 0), (.bipush 6, [], 6, 0), (.if_icmp .ge 66, [54], 0, 0), (.iload_n 1, [1], 0, 0), (.iload 4, [4], 0, 0), (.ishr, [], 0, 0), (.iconst 1, [], 1, 0), (.iand, [], 0, 0), (.ifCond .eq 51, [52], 0, 0), (.aload_n 0, [0], 0, 0), (.getfield 35, [6, 8, 2], 0, 0), (.iload_n 3, [3], 0, 0), (.iload 4, [4], 0, 0), (.iastore, [], 0, 0), (.aload_n 0, [0], 0, 0), (.getfield 41, [6, 10, 2], 0, 0), (.iload_n 3, [3], 0, 0), (.bipush 7, [], 7, 0), (.imul, [], 0, 0), (.iload 4, [4], 0, 0), (.iadd, [], 0, 0), (.dup2, [], 0, 0), (.iaload, [], 0, 0), (.iconst 1, [], 1, 0), (.iadd, [], 0, 0), (.iastore, [], 0, 0), (.aload_n 0, [0], 0, 0), (.dup, [], 0, 0), (.getfield 19, [6, 2, 0], 0, 0), (.iload_n 2, [2], 0, 0), (.iconst 1, [], 1, 0), (.iload 4, [4], 0, 0), (.ishl, [], 0, 0), (.ior, [], 0, 0), (.iand, [], 0, 0), (.putfield 19, [6, 2, 0], 0, 0), (.aload_n 0, [0], 0, 0), (.getfield 9, [6, 0, 3], 0, 0), (.ifCond .eq 5, [52], 0, 0), (.iconst 1, [], 1, 0), (.ireturn, [0], 0, 0), (.iinc 4 1, [4], 1, 0), (.goto (-78), [6], 0, 0), (.iload_n 1, [1], 0, 0), (.invokestatic 118, [59, 1], 0, 0), (.ireturn, [0], 0, 0)]
def xk_82 : List (Nat × Nat) := [(0, 0), (1, 41), (4, 3), (7, 0), (8, 0), (9, 0), (11, 0), (13, 0), (14, 41), (17, 9), (20, 0), (23, 0), (24, 0), (26, 0), (29, 0), (30, 0), (32, 0), (33, 0), (34, 0), (35, 0), (38, 0), (39, 46), (42, 0), (43, 0), (45, 0), (46, 0), (47, 48), (50, 0), (51, 0), (53, 0), (54, 0), (56, 0), (57, 0), (58, 0), (59, 0), (60, 0), (61, 0), (62, 0), (63, 0), (64, 39), (67, 0), (68, 0), (69, 0), (71, 0), (72, 0), (73, 0), (74, 39), (77, 0), (78, 35), (81, 0), (84, 0), (85, 0), (86, 0), (89, 0), (92, 0), (93, 100), (96, 0)]
def xm_82 : xi_M := (6, "rowsEnding", "(II)I", prog_8_method_15_code, some .int, 1, xk_82)
/-- GuineaHours$Walk.untake(I)V -/
def xc_83 : List xi_E := [(.aload_n 0, [0], 0, 0), (.getfield 32, [6, 7, 2], 0, 0), (.iload_n 1, [1], 0, 0), (.dup2, [], 0, 0), (.iaload, [], 0, 0), (.iconst 1, [], 1, 0), (.isub, [], 0, 0), (.iastore, [], 0, 0), (.aload_n 0, [0], 0, 0), (.getfield 32, [6, 7, 2], 0, 0), (.iload_n 1, [1], 0, 0), (.iaload, [], 0, 0), (.aload_n 0, [0], 0, 0), (.getfield 28, [6, 6, 2], 0, 0), (.iload_n 1, [1], 0, 0), (.iaload, [], 0, 0), (.if_icmp .ge 17, [27], 0, 0), (.aload_n 0, [0], 0, 0), (.dup, [], 0, 0), (.getfield 25, [6, 5, 0], 0, 0), (.iconst 1, [], 1, 0), (.iload_n 1, [1], 0, 0), (.ishl, [], 0, 0), (.iconst (-1), [], (-1), 0), (.ixor, [], 0, 0), (.iand, [], 0, 0), (.putfield 25, [6, 5, 0], 0, 0), (.return_, [], 0, 0)]
def xk_83 : List (Nat × Nat) := [(0, 0), (1, 45), (4, 0), (5, 0), (6, 0), (7, 0), (8, 0), (9, 0), (10, 0), (11, 45), (14, 0), (15, 0), (16, 0), (17, 44), (20, 0), (21, 0), (22, 0), (25, 0), (26, 0), (27, 43), (30, 0), (31, 0), (32, 0), (33, 0), (34, 0), (35, 0), (36, 43), (39, 0)]
def xm_83 : xi_M := (6, "untake", "(I)V", prog_8_method_6_code, none, 1, xk_83)
/-- GuineaHours$Walk.heldIn(I)I -/
def xc_84 : List xi_E := [(.iconst 0, [], 0, 0), (.istore_n 2, [2], 0, 0), (.iconst 0, [], 0, 0), (.istore_n 3, [3], 0, 0), (.iload_n 3, [3], 0, 0), (.aload_n 0, [0], 0, 0), (.getfield 44, [6, 3, 2], 0, 0), (.getfield 98, [4, 1, 0], 0, 0), (.if_icmp .ge 24, [22], 0, 0), (.aload_n 0, [0], 0, 0), (.iload_n 1, [1], 0, 0), (.iload_n 3, [3], 0, 0), (.invokevirtual 123, [85, 3, 6], 0, 0), (.ifCond .le 9, [20], 0, 0), (.iload_n 2, [2], 0, 0), (.iconst 1, [], 1, 0), (.iload_n 3, [3], 0, 0), (.ishl, [], 0, 0), (.ior, [], 0, 0), (.istore_n 2, [2], 0, 0), (.iinc 3 1, [3], 1, 0), (.goto (-29), [4], 0, 0), (.iload_n 2, [2], 0, 0), (.ireturn, [0], 0, 0)]
def xk_84 : List (Nat × Nat) := [(0, 0), (1, 0), (2, 0), (3, 0), (4, 0), (5, 0), (6, 41), (9, 9), (12, 0), (15, 0), (16, 0), (17, 0), (18, 103), (21, 0), (24, 0), (25, 0), (26, 0), (27, 0), (28, 0), (29, 0), (30, 0), (33, 0), (36, 0), (37, 0)]
def xm_84 : xi_M := (6, "heldIn", "(I)I", prog_8_method_17_code, some .int, 1, xk_84)
/-- GuineaHours$Walk.tallyOf(II)I -/
def xc_85 : List xi_E := [(.iload_n 1, [1], 0, 0), (.ifCond .lt 24, [12], 0, 0), (.iload_n 1, [1], 0, 0), (.bipush 6, [], 6, 0), (.if_icmp .ge 18, [12], 0, 0), (.aload_n 0, [0], 0, 0), (.getfield 44, [6, 3, 2], 0, 0), (.iload_n 2, [2], 0, 0), (.invokevirtual 74, [37, 2, 4], 0, 0), (.ifCond .eq 7, [12], 0, 0), (.iconst 1, [], 1, 0), (.goto 4, [13], 0, 0), (.iconst 0, [], 0, 0), (.istore_n 3, [3], 0, 0), (.iload_n 3, [3], 0, 0), (.ifCond .eq 17, [25], 0, 0), (.aload_n 0, [0], 0, 0), (.getfield 41, [6, 10, 2], 0, 0), (.iload_n 1, [1], 0, 0), (.bipush 7, [], 7, 0), (.imul, [], 0, 0), (.iload_n 2, [2], 0, 0), (.iadd, [], 0, 0), (.iaload, [], 0, 0), (.goto 4, [26], 0, 0), (.iconst 0, [], 0, 0), (.ireturn, [0], 0, 0)]
def xk_85 : List (Nat × Nat) := [(0, 0), (1, 0), (4, 0), (5, 0), (7, 0), (10, 0), (11, 41), (14, 0), (15, 79), (18, 0), (21, 0), (22, 0), (25, 0), (26, 0), (27, 0), (28, 0), (31, 0), (32, 48), (35, 0), (36, 0), (38, 0), (39, 0), (40, 0), (41, 0), (42, 0), (45, 0), (46, 0)]
def xm_85 : xi_M := (6, "tallyOf", "(II)I", prog_8_method_19_code, some .int, 1, xk_85)
/-- GuineaHours.keep(I)I -/
def xc_86 : List xi_E := [(.iload_n 1, [1], 0, 0), (.invokestatic 245, [87, 1], 0, 0), (.ifCond .ne 5, [5], 0, 0), (.iconst (-1), [], (-1), 0), (.ireturn, [0], 0, 0), (.aload_n 0, [0], 0, 0), (.getfield 39, [7, 6, 2], 0, 0), (.invokevirtual 211, [61, 1, 1], 0, 0), (.ifCond .ne 6, [11], 0, 0), (.bipush (-4), [], (-4), 0), (.ireturn, [0], 0, 0), (.aload_n 0, [0], 0, 0), (.getfield 43, [7, 7, 2], 0, 0), (.iload_n 1, [1], 0, 0), (.aaload, [], 0, 0), (.aload_n 0, [0], 0, 0), (.getfield 39, [7, 6, 2], 0, 0), (.invokevirtual 248, [88, 2, 1], 0, 0), (.aload_n 0, [0], 0, 0), (.getfield 39, [7, 6, 2], 0, 0), (.getfield 222, [1, 2, 0], 0, 0), (.ireturn, [0], 0, 0)]
def xk_86 : List (Nat × Nat) := [(0, 0), (1, 105), (4, 0), (7, 0), (8, 0), (9, 0), (10, 61), (13, 71), (16, 0), (19, 0), (21, 0), (22, 0), (23, 62), (26, 0), (27, 0), (28, 0), (29, 61), (32, 106), (35, 0), (36, 61), (39, 21), (42, 0)]
def xm_86 : xi_M := (7, "keep", "(I)I", prog_1_method_25_code, some .int, 1, xk_86)
/-- GuineaHours.isKeptPlace(I)Z -/
def xc_87 : List xi_E := [(.iload_n 0, [0], 0, 0), (.ifCond .lt 12, [7], 0, 0), (.iload_n 0, [0], 0, 0), (.iconst 3, [], 3, 0), (.if_icmp .ge 7, [7], 0, 0), (.iconst 1, [], 1, 0), (.goto 4, [8], 0, 0), (.iconst 0, [], 0, 0), (.ireturn, [1], 0, 0)]
def xk_87 : List (Nat × Nat) := [(0, 0), (1, 0), (4, 0), (5, 0), (6, 0), (9, 0), (10, 0), (13, 0), (14, 0)]
def xm_87 : xi_M := (7, "isKeptPlace", "(I)Z", prog_1_method_57_code, some .boolean, 0, xk_87)
/-- GuineaHours$Day.becomeLike(LGuineaHours$Day;)V -/
def xc_88 : List xi_E := [(.aload_n 0, [0], 0, 0), (.aload_n 1, [1], 0, 0), (.getfield 9, [1, 0, 0], 0, 0), (.putfield 9, [1, 0, 0], 0, 0), (.aload_n 0, [0], 0, 0), (.aload_n 1, [1], 0, 0), (.getfield 15, [1, 1, 0], 0, 0), (.putfield 15, [1, 1, 0], 0, 0), (.aload_n 0, [0], 0, 0), (.aload_n 1, [1], 0, 0), (.getfield 18, [1, 2, 0], 0, 0), (.putfield 18, [1, 2, 0], 0, 0), (.aload_n 1, [1], 0, 0), (.getfield 21, [1, 3, 2], 0, 0), (.iconst 0, [], 0, 0), (.aload_n 0, [0], 0, 0), (.getfield 21, [1, 3, 2], 0, 0), (.iconst 0, [], 0, 0), (.bipush 6, [], 6, 0), (.invokestatic 25, [], 0, 0), (.return_, [], 0, 0)]
def xk_88 : List (Nat × Nat) := [(0, 0), (1, 0), (2, 15), (5, 15), (8, 0), (9, 0), (10, 17), (13, 17), (16, 0), (17, 0), (18, 19), (21, 19), (24, 0), (25, 22), (28, 0), (29, 0), (30, 22), (33, 0), (34, 0), (36, 107), (39, 0)]
def xm_88 : xi_M := (1, "becomeLike", "(LGuineaHours$Day;)V", prog_3_method_7_code, none, 1, xk_88)
/-- GuineaHours.on(I)I -/
def xc_89 : List xi_E := [(.iload_n 1, [1], 0, 0), (.invokestatic 245, [87, 1], 0, 0), (.ifCond .ne 5, [5], 0, 0), (.iconst (-1), [], (-1), 0), (.ireturn, [0], 0, 0), (.aload_n 0, [0], 0, 0), (.getfield 43, [7, 7, 2], 0, 0), (.iload_n 1, [1], 0, 0), (.aaload, [], 0, 0), (.invokevirtual 211, [61, 1, 1], 0, 0), (.ifCond .ne 9, [15], 0, 0), (.aload_n 0, [0], 0, 0), (.iconst 1, [], 1, 0), (.invokevirtual 114, [11, 2, 7], 0, 0), (.ireturn, [0], 0, 0), (.aload_n 0, [0], 0, 0), (.getfield 39, [7, 6, 2], 0, 0), (.aload_n 0, [0], 0, 0), (.getfield 43, [7, 7, 2], 0, 0), (.iload_n 1, [1], 0, 0), (.aaload, [], 0, 0), (.invokevirtual 248, [88, 2, 1], 0, 0), (.aload_n 0, [0], 0, 0), (.getfield 50, [7, 8, 2], 0, 0), (.iconst 0, [], 0, 0), (.putfield 189, [3, 1, 3], 0, 0), (.aload_n 0, [0], 0, 0), (.getfield 39, [7, 6, 2], 0, 0), (.getfield 222, [1, 2, 0], 0, 0), (.ireturn, [0], 0, 0)]
def xk_89 : List (Nat × Nat) := [(0, 0), (1, 105), (4, 0), (7, 0), (8, 0), (9, 0), (10, 62), (13, 0), (14, 0), (15, 71), (18, 0), (21, 0), (22, 0), (23, 15), (26, 0), (27, 0), (28, 61), (31, 0), (32, 62), (35, 0), (36, 0), (37, 106), (40, 0), (41, 63), (44, 0), (45, 28), (48, 0), (49, 61), (52, 21), (55, 0)]
def xm_89 : xi_M := (7, "on", "(I)I", prog_1_method_26_code, some .int, 1, xk_89)
/-- GuineaHours.judge(I)I -/
def xc_90 : List xi_E := [(.iload_n 1, [1], 0, 0), (.invokestatic 110, [10, 1], 0, 0), (.ifCond .ne 5, [5], 0, 0), (.iconst (-1), [], (-1), 0), (.ireturn, [0], 0, 0), (.aload_n 0, [0], 0, 0), (.getfield 29, [7, 4, 2], 0, 0), (.getfield 199, [4, 0, 0], 0, 0), (.ifCond .ne 6, [11], 0, 0), (.bipush (-4), [], (-4), 0), (.ireturn, [0], 0, 0), (.aload_n 0, [0], 0, 0), (.getfield 14, [7, 1, 2], 0, 0), (.iload_n 1, [1], 0, 0), (.iaload, [], 0, 0), (.ifCond .ge 9, [20], 0, 0), (.aload_n 0, [0], 0, 0), (.iconst 1, [], 1, 0), (.invokevirtual 114, [11, 2, 7], 0, 0), (.ireturn, [0], 0, 0), (.aload_n 0, [0], 0, 0), (.getfield 14, [7, 1, 2], 0, 0), (.iload_n 1, [1], 0, 0), (.iaload, [], 0, 0), (.aload_n 0, [0], 0, 0), (.getfield 29, [7, 4, 2], 0, 0), (.getfield 199, [4, 0, 0], 0, 0), (.iconst 1, [], 1, 0), (.iadd, [], 0, 0), (.if_icmp .eq 9, [34], 0, 0), (.aload_n 0, [0], 0, 0), (.iconst 5, [], 5, 0), (.invokevirtual 114, [11, 2, 7], 0, 0), (.ireturn, [0], 0, 0), (.iconst 0, [], 0, 0), (.istore_n 2, [2], 0, 0), (.iload_n 2, [2], 0, 0), (.aload_n 0, [0], 0, 0), (.getfield 29, [7, 4, 2], 0, 0), (.getfield 199, [4, 0, 0], 0, 0), (.if_icmp .gt 33, [57], 0, 0), (.aload_n 0, [0], 0, 0), (.getfield 29, [7, 4, 2], 0, 0), (.aload_n 0, [0], 0, 0), (.getfield 11, [7, 0, 2], 0, 0), (.iload_n 1, [1], 0, 0), (.aaload, [], 0, 0), (.iload_n 2, [2], 0, 0), (.iaload, [], 0, 0), (.invokevirtual 158, [37, 2, 4], 0, 0), (.ifCond .ne 9, [55], 0, 0), (.aload_n 0, [0], 0, 0), (.iconst 3, [], 3, 0), (.invokevirtual 114, [11, 2, 7], 0, 0), (.ireturn, [0], 0, 0), (.iinc 2 1, [2], 1, 0), (.goto (-38), [36], 0, 0), (.aload_n 0, [0], 0, 0), (.aload_n 0, [0], 0, 0), (.getfield 11, [7, 0, 2], 0, 0), (.iload_n 1, [1], 0, 0), (.aaload, [], 0, 0), (.invokevirtual 251, [91, 2, 7], 0, 0), (.ireturn, [0], 0, 0)]
def xk_90 : List (Nat × Nat) := [(0, 0), (1, 14), (4, 0), (7, 0), (8, 0), (9, 0), (10, 59), (13, 4), (16, 0), (19, 0), (21, 0), (22, 0), (23, 56), (26, 0), (27, 0), (28, 0), (31, 0), (32, 0), (33, 15), (36, 0), (37, 0), (38, 56), (41, 0), (42, 0), (43, 0), (44, 59), (47, 4), (50, 0), (51, 0), (52, 0), (55, 0), (56, 0), (57, 15), (60, 0), (61, 0), (62, 0), (63, 0), (64, 0), (65, 59), (68, 4), (71, 0), (74, 0), (75, 59), (78, 0), (79, 55), (82, 0), (83, 0), (84, 0), (85, 0), (86, 49), (89, 0), (92, 0), (93, 0), (94, 15), (97, 0), (98, 0), (101, 0), (104, 0), (105, 0), (106, 55), (109, 0), (110, 0), (111, 110), (114, 0)]
def xm_90 : xi_M := (7, "judge", "(I)I", prog_1_method_27_code, some .int, 1, xk_90)
/-- GuineaHours.judgeHands([I)I -/
def xc_91 : List xi_E := [(.aload_n 0, [0], 0, 0), (.getfield 59, [7, 9, 2], 0, 0), (.aload_n 0, [0], 0, 0), (.getfield 29, [7, 4, 2], 0, 0), (.aload_n 0, [0], 0, 0), (.getfield 39, [7, 6, 2], 0, 0), (.getfield 177, [1, 0, 0], 0, 0), (.aload_n 0, [0], 0, 0), (.getfield 39, [7, 6, 2], 0, 0), (.getfield 193, [1, 1, 0], 0, 0), (.invokevirtual 231, [63, 4, 6], 0, 0), (.aload_n 0, [0], 0, 0), (.getfield 59, [7, 9, 2], 0, 0), (.iconst 0, [], 0, 0), (.aload_n 1, [1], 0, 0), (.iconst 0, [], 0, 0), (.iaload, [], 0, 0), (.invokevirtual 387, [66, 3, 6], 0, 0), (.iconst 0, [], 0, 0), (.istore_n 2, [2], 0, 0), (.iload_n 2, [2], 0, 0), (.aload_n 0, [0], 0, 0), (.getfield 29, [7, 4, 2], 0, 0), (.getfield 199, [4, 0, 0], 0, 0), (.if_icmp .ge 57, [61], 0, 0), (.iload_n 2, [2], 0, 0), (.iconst 1, [], 1, 0), (.iadd, [], 0, 0), (.aload_n 1, [1], 0, 0), (.arraylength, [], 0, 0), (.if_icmp .ge 49, [61], 0, 0), (.aload_n 0, [0], 0, 0), (.getfield 59, [7, 9, 2], 0, 0), (.iload_n 2, [2], 0, 0), (.aload_n 1, [1], 0, 0), (.iload_n 2, [2], 0, 0), (.iconst 1, [], 1, 0), (.iadd, [], 0, 0), (.iaload, [], 0, 0), (.invokevirtual 390, [92, 3, 6], 0, 0), (.istore_n 3, [3], 0, 0), (.iload_n 3, [3], 0, 0), (.ifCond .eq 10, [48], 0, 0), (.aload_n 0, [0], 0, 0), (.iload_n 3, [3], 0, 0), (.putfield 87, [7, 14, 0], 0, 0), (.iload_n 2, [2], 0, 0), (.ireturn, [0], 0, 0), (.aload_n 0, [0], 0, 0), (.getfield 59, [7, 9, 2], 0, 0), (.iload_n 2, [2], 0, 0), (.iconst 1, [], 1, 0), (.iadd, [], 0, 0), (.aload_n 1, [1], 0, 0), (.iload_n 2, [2], 0, 0), (.iconst 1, [], 1, 0), (.iadd, [], 0, 0), (.iaload, [], 0, 0), (.invokevirtual 387, [66, 3, 6], 0, 0), (.iinc 2 1, [2], 1, 0), (.goto (-62), [20], 0, 0), (.aload_n 0, [0], 0, 0), (.iconst 0, [], 0, 0), (.putfield 87, [7, 14, 0], 0, 0), (.aload_n 0, [0], 0, 0), (.getfield 29, [7, 4, 2], 0, 0), (.getfield 199, [4, 0, 0], 0, 0), (.ireturn, [0], 0, 0)]
def xk_91 : List (Nat × Nat) := [(0, 0), (1, 64), (4, 0), (5, 59), (8, 0), (9, 61), (12, 16), (15, 0), (16, 61), (19, 18), (22, 73), (25, 0), (26, 64), (29, 0), (30, 0), (31, 0), (32, 0), (33, 111), (36, 0), (37, 0), (38, 0), (39, 0), (40, 59), (43, 4), (46, 0), (49, 0), (50, 0), (51, 0), (52, 0), (53, 0), (54, 0), (57, 0), (58, 64), (61, 0), (62, 0), (63, 0), (64, 0), (65, 0), (66, 0), (67, 112), (70, 0), (71, 0), (72, 0), (75, 0), (76, 0), (77, 69), (80, 0), (81, 0), (82, 0), (83, 64), (86, 0), (87, 0), (88, 0), (89, 0), (90, 0), (91, 0), (92, 0), (93, 0), (94, 111), (97, 0), (100, 0), (103, 0), (104, 0), (105, 69), (108, 0), (109, 59), (112, 4), (115, 0)]
def xm_91 : xi_M := (7, "judgeHands", "([I)I", prog_1_method_66_code, some .int, 1, xk_91)
/-- GuineaHours$Walk.against(II)I -/
def xc_92 : List xi_E := [(.aload_n 0, [0], 0, 0), (.getfield 44, [6, 3, 2], 0, 0), (.iload_n 1, [1], 0, 0), (.invokevirtual 78, [48, 2, 4], 0, 0), (.ifCond .eq 24, [18], 0, 0), (.aload_n 0, [0], 0, 0), (.getfield 44, [6, 3, 2], 0, 0), (.aload_n 0, [0], 0, 0), (.getfield 35, [6, 8, 2], 0, 0), (.iload_n 1, [1], 0, 0), (.iaload, [], 0, 0), (.iload_n 1, [1], 0, 0), (.invokevirtual 81, [56, 3, 4], 0, 0), (.iload_n 2, [2], 0, 0), (.ishr, [], 0, 0), (.iconst 1, [], 1, 0), (.iand, [], 0, 0), (.ifCond .ne 5, [20], 0, 0), (.iconst 1, [], 1, 0), (.ireturn, [0], 0, 0), (.aload_n 0, [0], 0, 0), (.iload_n 1, [1], 0, 0), (.invokevirtual 84, [68, 2, 6], 0, 0), (.iload_n 2, [2], 0, 0), (.ishr, [], 0, 0), (.iconst 1, [], 1, 0), (.iand, [], 0, 0), (.ifCond .eq 5, [30], 0, 0), (.iconst 2, [], 2, 0), (.ireturn, [0], 0, 0), (.aload_n 0, [0], 0, 0), (.getfield 25, [6, 5, 0], 0, 0), (.iload_n 2, [2], 0, 0), (.ishr, [], 0, 0), (.iconst 1, [], 1, 0), (.iand, [], 0, 0), (.ifCond .eq 7, [39], 0, 0), (.iconst 3, [], 3, 0), (.goto 4, [40], 0, 0), (.iconst 0, [], 0, 0), (.ireturn, [0], 0, 0)]
def xk_92 : List (Nat × Nat) := [(0, 0), (1, 41), (4, 0), (5, 81), (8, 0), (11, 0), (12, 41), (15, 0), (16, 46), (19, 0), (20, 0), (21, 0), (22, 82), (25, 0), (26, 0), (27, 0), (28, 0), (29, 0), (32, 0), (33, 0), (34, 0), (35, 0), (36, 83), (39, 0), (40, 0), (41, 0), (42, 0), (43, 0), (46, 0), (47, 0), (48, 0), (49, 43), (52, 0), (53, 0), (54, 0), (55, 0), (56, 0), (59, 0), (60, 0), (63, 0), (64, 0)]
def xm_92 : xi_M := (6, "against", "(II)I", prog_8_method_9_code, some .int, 1, xk_92)
/-- GuineaHours.ways(II)I -/
def xc_93 : List xi_E := [(.aload_n 0, [0], 0, 0), (.getfield 29, [7, 4, 2], 0, 0), (.iload_n 1, [1], 0, 0), (.invokevirtual 158, [37, 2, 4], 0, 0), (.ifCond .eq 14, [10], 0, 0), (.aload_n 0, [0], 0, 0), (.getfield 29, [7, 4, 2], 0, 0), (.iload_n 2, [2], 0, 0), (.invokevirtual 158, [37, 2, 4], 0, 0), (.ifCond .ne 5, [12], 0, 0), (.iconst (-1), [], (-1), 0), (.ireturn, [0], 0, 0), (.aload_n 0, [0], 0, 0), (.iload_n 1, [1], 0, 0), (.iload_n 2, [2], 0, 0), (.invokevirtual 255, [94, 3, 7], 0, 0), (.ireturn, [0], 0, 0)]
def xk_93 : List (Nat × Nat) := [(0, 0), (1, 59), (4, 0), (5, 49), (8, 0), (11, 0), (12, 59), (15, 0), (16, 49), (19, 0), (22, 0), (23, 0), (24, 0), (25, 0), (26, 0), (27, 114), (30, 0)]
def xm_93 : xi_M := (7, "ways", "(II)I", prog_1_method_28_code, some .int, 1, xk_93)
/-- GuineaHours.countWays(II)I -/
def xc_94 : List xi_E := [(.aload_n 0, [0], 0, 0), (.getfield 59, [7, 9, 2], 0, 0), (.aload_n 0, [0], 0, 0), (.getfield 29, [7, 4, 2], 0, 0), (.aload_n 0, [0], 0, 0), (.getfield 39, [7, 6, 2], 0, 0), (.getfield 177, [1, 0, 0], 0, 0), (.aload_n 0, [0], 0, 0), (.getfield 39, [7, 6, 2], 0, 0), (.getfield 193, [1, 1, 0], 0, 0), (.invokevirtual 231, [63, 4, 6], 0, 0), (.aload_n 0, [0], 0, 0), (.getfield 59, [7, 9, 2], 0, 0), (.iconst 0, [], 0, 0), (.iconst 1, [], 1, 0), (.iload_n 1, [1], 0, 0), (.ishl, [], 0, 0), (.invokevirtual 393, [95, 3, 6], 0, 0), (.aload_n 0, [0], 0, 0), (.getfield 59, [7, 9, 2], 0, 0), (.aload_n 0, [0], 0, 0), (.getfield 29, [7, 4, 2], 0, 0), (.getfield 199, [4, 0, 0], 0, 0), (.iconst 1, [], 1, 0), (.iload_n 2, [2], 0, 0), (.ishl, [], 0, 0), (.invokevirtual 393, [95, 3, 6], 0, 0), (.aload_n 0, [0], 0, 0), (.getfield 59, [7, 9, 2], 0, 0), (.invokevirtual 396, [96, 1, 6], 0, 0), (.aload_n 0, [0], 0, 0), (.getfield 59, [7, 9, 2], 0, 0), (.getfield 309, [6, 1, 0], 0, 0), (.ireturn, [0], 0, 0)]
def xk_94 : List (Nat × Nat) := [(0, 0), (1, 64), (4, 0), (5, 59), (8, 0), (9, 61), (12, 16), (15, 0), (16, 61), (19, 18), (22, 73), (25, 0), (26, 64), (29, 0), (30, 0), (31, 0), (32, 0), (33, 115), (36, 0), (37, 64), (40, 0), (41, 59), (44, 4), (47, 0), (48, 0), (49, 0), (50, 115), (53, 0), (54, 64), (57, 116), (60, 0), (61, 64), (64, 38), (67, 0)]
def xm_94 : xi_M := (7, "countWays", "(II)I", prog_1_method_67_code, some .int, 1, xk_94)
/-- GuineaHours$Walk.narrow(II)V -/
def xc_95 : List xi_E := [(.iload_n 1, [1], 0, 0), (.ifCond .lt 19, [13], 0, 0), (.iload_n 1, [1], 0, 0), (.bipush 6, [], 6, 0), (.if_icmp .ge 13, [13], 0, 0), (.aload_n 0, [0], 0, 0), (.getfield 38, [6, 9, 2], 0, 0), (.iload_n 1, [1], 0, 0), (.dup2, [], 0, 0), (.iaload, [], 0, 0), (.iload_n 2, [2], 0, 0), (.iand, [], 0, 0), (.iastore, [], 0, 0), (.return_, [], 0, 0)]
def xk_95 : List (Nat × Nat) := [(0, 0), (1, 0), (4, 0), (5, 0), (7, 0), (10, 0), (11, 47), (14, 0), (15, 0), (16, 0), (17, 0), (18, 0), (19, 0), (20, 0)]
def xm_95 : xi_M := (6, "narrow", "(II)V", prog_8_method_3_code, none, 1, xk_95)
/-- GuineaHours$Walk.countAll()V -/
def xc_96 : List xi_E := [(.aload_n 0, [0], 0, 0), (.invokevirtual 95, [78, 1, 6], 0, 0), (.iconst 0, [], 0, 0), (.istore_n 1, [1], 0, 0), (.iload_n 1, [1], 0, 0), (.aload_n 0, [0], 0, 0), (.getfield 44, [6, 3, 2], 0, 0), (.getfield 98, [4, 1, 0], 0, 0), (.if_icmp .ge 61, [41], 0, 0), (.aload_n 0, [0], 0, 0), (.getfield 9, [6, 0, 3], 0, 0), (.ifCond .eq 10, [15], 0, 0), (.aload_n 0, [0], 0, 0), (.getfield 15, [6, 1, 0], 0, 0), (.ifCond .gt 47, [41], 0, 0), (.aload_n 0, [0], 0, 0), (.getfield 38, [6, 9, 2], 0, 0), (.iconst 0, [], 0, 0), (.iaload, [], 0, 0), (.iload_n 1, [1], 0, 0), (.ishr, [], 0, 0), (.iconst 1, [], 1, 0), (.iand, [], 0, 0), (.ifCond .eq 28, [39], 0, 0), (.aload_n 0, [0], 0, 0), (.iconst 0, [], 0, 0), (.iload_n 1, [1], 0, 0), (.invokevirtual 70, [66, 3, 6], 0, 0), (.aload_n 0, [0], 0, 0), (.dup, [], 0, 0), (.getfield 15, [6, 1, 0], 0, 0), (.aload_n 0, [0], 0, 0), (.iconst 0, [], 0, 0), (.invokevirtual 101, [80, 2, 6], 0, 0), (.iadd, [], 0, 0), (.putfield 15, [6, 1, 0], 0, 0), (.aload_n 0, [0], 0, 0), (.iload_n 1, [1], 0, 0), (.invokevirtual 104, [83, 2, 6], 0, 0), (.iinc 1 1, [1], 1, 0), (.goto (-66), [4], 0, 0), (.return_, [], 0, 0)]
def xk_96 : List (Nat × Nat) := [(0, 0), (1, 93), (4, 0), (5, 0), (6, 0), (7, 0), (8, 41), (11, 9), (14, 0), (17, 0), (18, 35), (21, 0), (24, 0), (25, 37), (28, 0), (31, 0), (32, 47), (35, 0), (36, 0), (37, 0), (38, 0), (39, 0), (40, 0), (41, 0), (44, 0), (45, 0), (46, 0), (47, 78), (50, 0), (51, 0), (52, 37), (55, 0), (56, 0), (57, 96), (60, 0), (61, 37), (64, 0), (65, 0), (66, 101), (69, 0), (72, 0), (75, 0)]
def xm_96 : xi_M := (6, "countAll", "()V", prog_8_method_11_code, none, 1, xk_96)
/-- GuineaHours.way(III)I -/
def xc_97 : List xi_E := [(.aload_n 0, [0], 0, 0), (.getfield 29, [7, 4, 2], 0, 0), (.iload_n 1, [1], 0, 0), (.invokevirtual 158, [37, 2, 4], 0, 0), (.ifCond .eq 21, [13], 0, 0), (.aload_n 0, [0], 0, 0), (.getfield 29, [7, 4, 2], 0, 0), (.iload_n 2, [2], 0, 0), (.invokevirtual 158, [37, 2, 4], 0, 0), (.ifCond .eq 10, [13], 0, 0), (.iload_n 3, [3], 0, 0), (.invokestatic 110, [10, 1], 0, 0), (.ifCond .ne 5, [15], 0, 0), (.iconst (-1), [], (-1), 0), (.ireturn, [0], 0, 0), (.aload_n 0, [0], 0, 0), (.iload_n 1, [1], 0, 0), (.iload_n 2, [2], 0, 0), (.aload_n 0, [0], 0, 0), (.getfield 39, [7, 6, 2], 0, 0), (.getfield 177, [1, 0, 0], 0, 0), (.invokevirtual 258, [98, 4, 7], 0, 0), (.ifCond .ne 6, [25], 0, 0), (.bipush (-9), [], (-9), 0), (.ireturn, [0], 0, 0), (.aload_n 0, [0], 0, 0), (.iload_n 3, [3], 0, 0), (.aload_n 0, [0], 0, 0), (.getfield 29, [7, 4, 2], 0, 0), (.getfield 199, [4, 0, 0], 0, 0), (.iconst 1, [], 1, 0), (.iadd, [], 0, 0), (.invokevirtual 118, [12, 3, 7], 0, 0), (.aload_n 0, [0], 0, 0), (.getfield 59, [7, 9, 2], 0, 0), (.aload_n 0, [0], 0, 0), (.getfield 11, [7, 0, 2], 0, 0), (.iload_n 3, [3], 0, 0), (.aaload, [], 0, 0), (.invokevirtual 261, [99, 2, 6], 0, 0), (.iconst 1, [], 1, 0), (.ireturn, [0], 0, 0)]
def xk_97 : List (Nat × Nat) := [(0, 0), (1, 59), (4, 0), (5, 49), (8, 0), (11, 0), (12, 59), (15, 0), (16, 49), (19, 0), (22, 0), (23, 14), (26, 0), (29, 0), (30, 0), (31, 0), (32, 0), (33, 0), (34, 0), (35, 61), (38, 16), (41, 118), (44, 0), (47, 0), (49, 0), (50, 0), (51, 0), (52, 0), (53, 59), (56, 4), (59, 0), (60, 0), (61, 16), (64, 0), (65, 64), (68, 0), (69, 55), (72, 0), (73, 0), (74, 119), (77, 0), (78, 0)]
def xm_97 : xi_M := (7, "way", "(III)I", prog_1_method_29_code, some .int, 1, xk_97)
/-- GuineaHours.findWay(III)Z -/
def xc_98 : List xi_E := [(.aload_n 0, [0], 0, 0), (.getfield 59, [7, 9, 2], 0, 0), (.aload_n 0, [0], 0, 0), (.getfield 29, [7, 4, 2], 0, 0), (.iload_n 3, [3], 0, 0), (.aload_n 0, [0], 0, 0), (.getfield 39, [7, 6, 2], 0, 0), (.getfield 193, [1, 1, 0], 0, 0), (.invokevirtual 231, [63, 4, 6], 0, 0), (.aload_n 0, [0], 0, 0), (.getfield 59, [7, 9, 2], 0, 0), (.iconst 1, [], 1, 0), (.putfield 399, [6, 0, 3], 0, 0), (.aload_n 0, [0], 0, 0), (.getfield 59, [7, 9, 2], 0, 0), (.iconst 0, [], 0, 0), (.iconst 1, [], 1, 0), (.iload_n 1, [1], 0, 0), (.ishl, [], 0, 0), (.invokevirtual 393, [95, 3, 6], 0, 0), (.aload_n 0, [0], 0, 0), (.getfield 59, [7, 9, 2], 0, 0), (.aload_n 0, [0], 0, 0), (.getfield 29, [7, 4, 2], 0, 0), (.getfield 199, [4, 0, 0], 0, 0), (.iconst 1, [], 1, 0), (.iload_n 2, [2], 0, 0), (.ishl, [], 0, 0), (.invokevirtual 393, [95, 3, 6], 0, 0), (.aload_n 0, [0], 0, 0), (.getfield 59, [7, 9, 2], 0, 0), (.invokevirtual 396, [96, 1, 6], 0, 0), (.aload_n 0, [0], 0, 0), (.getfield 59, [7, 9, 2], 0, 0), (.getfield 309, [6, 1, 0], 0, 0), (.ifCond .le 7, [38], 0, 0), (.iconst 1, [], 1, 0), (.goto 4, [39], 0, 0), (.iconst 0, [], 0, 0), (.ireturn, [1], 0, 0)]
def xk_98 : List (Nat × Nat) := [(0, 0), (1, 64), (4, 0), (5, 59), (8, 0), (9, 0), (10, 61), (13, 18), (16, 73), (19, 0), (20, 64), (23, 0), (24, 36), (27, 0), (28, 64), (31, 0), (32, 0), (33, 0), (34, 0), (35, 115), (38, 0), (39, 64), (42, 0), (43, 59), (46, 4), (49, 0), (50, 0), (51, 0), (52, 115), (55, 0), (56, 64), (59, 116), (62, 0), (63, 64), (66, 38), (69, 0), (72, 0), (73, 0), (76, 0), (77, 0)]
def xm_98 : xi_M := (7, "findWay", "(III)Z", prog_1_method_68_code, some .boolean, 1, xk_98)
/-- GuineaHours$Walk.copyHands([I)V -/
def xc_99 : List xi_E := [(.iconst 0, [], 0, 0), (.istore_n 2, [2], 0, 0), (.iload_n 2, [2], 0, 0), (.aload_n 0, [0], 0, 0), (.getfield 44, [6, 3, 2], 0, 0), (.getfield 88, [4, 0, 0], 0, 0), (.if_icmp .gt 30, [23], 0, 0), (.iload_n 2, [2], 0, 0), (.bipush 6, [], 6, 0), (.if_icmp .ge 24, [23], 0, 0), (.iload_n 2, [2], 0, 0), (.aload_n 1, [1], 0, 0), (.arraylength, [], 0, 0), (.if_icmp .ge 18, [23], 0, 0), (.aload_n 1, [1], 0, 0), (.iload_n 2, [2], 0, 0), (.aload_n 0, [0], 0, 0), (.getfield 35, [6, 8, 2], 0, 0), (.iload_n 2, [2], 0, 0), (.iaload, [], 0, 0), (.iastore, [], 0, 0), (.iinc 2 1, [2], 1, 0), (.goto (-35), [2], 0, 0), (.return_, [], 0, 0)]
def xk_99 : List (Nat × Nat) := [(0, 0), (1, 0), (2, 0), (3, 0), (4, 41), (7, 3), (10, 0), (13, 0), (14, 0), (16, 0), (19, 0), (20, 0), (21, 0), (22, 0), (25, 0), (26, 0), (27, 0), (28, 46), (31, 0), (32, 0), (33, 0), (34, 0), (37, 0), (40, 0)]
def xm_99 : xi_M := (6, "copyHands", "([I)V", prog_8_method_16_code, none, 1, xk_99)
/-- GuineaHours.bars(II)I -/
def xc_100 : List xi_E := [(.aload_n 0, [0], 0, 0), (.getfield 29, [7, 4, 2], 0, 0), (.iload_n 1, [1], 0, 0), (.invokevirtual 158, [37, 2, 4], 0, 0), (.ifCond .eq 14, [10], 0, 0), (.aload_n 0, [0], 0, 0), (.getfield 29, [7, 4, 2], 0, 0), (.iload_n 2, [2], 0, 0), (.invokevirtual 158, [37, 2, 4], 0, 0), (.ifCond .ne 5, [12], 0, 0), (.iconst (-1), [], (-1), 0), (.ireturn, [0], 0, 0), (.aload_n 0, [0], 0, 0), (.iload_n 1, [1], 0, 0), (.iload_n 2, [2], 0, 0), (.invokevirtual 255, [94, 3, 7], 0, 0), (.pop, [], 0, 0), (.aload_n 0, [0], 0, 0), (.getfield 59, [7, 9, 2], 0, 0), (.getfield 265, [6, 2, 0], 0, 0), (.iconst 1, [], 1, 0), (.iload_n 1, [1], 0, 0), (.ishl, [], 0, 0), (.iconst (-1), [], (-1), 0), (.ixor, [], 0, 0), (.iand, [], 0, 0), (.iconst 1, [], 1, 0), (.iload_n 2, [2], 0, 0), (.ishl, [], 0, 0), (.iconst (-1), [], (-1), 0), (.ixor, [], 0, 0), (.iand, [], 0, 0), (.ireturn, [0], 0, 0)]
def xk_100 : List (Nat × Nat) := [(0, 0), (1, 59), (4, 0), (5, 49), (8, 0), (11, 0), (12, 59), (15, 0), (16, 49), (19, 0), (22, 0), (23, 0), (24, 0), (25, 0), (26, 0), (27, 114), (30, 0), (31, 0), (32, 64), (35, 40), (38, 0), (39, 0), (40, 0), (41, 0), (42, 0), (43, 0), (44, 0), (45, 0), (46, 0), (47, 0), (48, 0), (49, 0), (50, 0)]
def xm_100 : xi_M := (7, "bars", "(II)I", prog_1_method_30_code, some .int, 1, xk_100)
/-- GuineaHours.least(II)I -/
def xc_101 : List xi_E := [(.aload_n 0, [0], 0, 0), (.getfield 29, [7, 4, 2], 0, 0), (.iload_n 1, [1], 0, 0), (.invokevirtual 158, [37, 2, 4], 0, 0), (.ifCond .eq 14, [10], 0, 0), (.aload_n 0, [0], 0, 0), (.getfield 29, [7, 4, 2], 0, 0), (.iload_n 2, [2], 0, 0), (.invokevirtual 158, [37, 2, 4], 0, 0), (.ifCond .ne 5, [12], 0, 0), (.iconst (-1), [], (-1), 0), (.ireturn, [0], 0, 0), (.iconst 1, [], 1, 0), (.istore_n 3, [3], 0, 0), (.iload_n 3, [3], 0, 0), (.iconst 5, [], 5, 0), (.if_icmp .gt 21, [27], 0, 0), (.aload_n 0, [0], 0, 0), (.iload_n 1, [1], 0, 0), (.iload_n 2, [2], 0, 0), (.iload_n 3, [3], 0, 0), (.invokevirtual 258, [98, 4, 7], 0, 0), (.ifCond .eq 5, [25], 0, 0), (.iload_n 3, [3], 0, 0), (.ireturn, [0], 0, 0), (.iinc 3 1, [3], 1, 0), (.goto (-20), [14], 0, 0), (.bipush (-9), [], (-9), 0), (.ireturn, [0], 0, 0)]
def xk_101 : List (Nat × Nat) := [(0, 0), (1, 59), (4, 0), (5, 49), (8, 0), (11, 0), (12, 59), (15, 0), (16, 49), (19, 0), (22, 0), (23, 0), (24, 0), (25, 0), (26, 0), (27, 0), (28, 0), (31, 0), (32, 0), (33, 0), (34, 0), (35, 118), (38, 0), (41, 0), (42, 0), (43, 0), (46, 0), (49, 0), (51, 0)]
def xm_101 : xi_M := (7, "least", "(II)I", prog_1_method_31_code, some .int, 1, xk_101)
/-- GuineaHours.worth(II)I -/
def xc_102 : List xi_E := [(.aload_n 0, [0], 0, 0), (.getfield 29, [7, 4, 2], 0, 0), (.iload_n 1, [1], 0, 0), (.invokevirtual 158, [37, 2, 4], 0, 0), (.ifCond .eq 14, [10], 0, 0), (.aload_n 0, [0], 0, 0), (.getfield 29, [7, 4, 2], 0, 0), (.iload_n 2, [2], 0, 0), (.invokevirtual 268, [103, 2, 4], 0, 0), (.ifCond .ne 5, [12], 0, 0), (.iconst (-1), [], (-1), 0), (.ireturn, [0], 0, 0), (.aload_n 0, [0], 0, 0), (.getfield 69, [7, 11, 2], 0, 0), (.aload_n 0, [0], 0, 0), (.getfield 29, [7, 4, 2], 0, 0), (.iload_n 2, [2], 0, 0), (.invokevirtual 271, [104, 3, 5], 0, 0), (.aload_n 0, [0], 0, 0), (.aload_n 0, [0], 0, 0), (.getfield 69, [7, 11, 2], 0, 0), (.iload_n 1, [1], 0, 0), (.iload_n 2, [2], 0, 0), (.invokevirtual 275, [105, 3, 5], 0, 0), (.putfield 87, [7, 14, 0], 0, 0), (.aload_n 0, [0], 0, 0), (.getfield 69, [7, 11, 2], 0, 0), (.iload_n 1, [1], 0, 0), (.iload_n 2, [2], 0, 0), (.invokevirtual 278, [107, 3, 5], 0, 0), (.ireturn, [0], 0, 0)]
def xk_102 : List (Nat × Nat) := [(0, 0), (1, 59), (4, 0), (5, 49), (8, 0), (11, 0), (12, 59), (15, 0), (16, 123), (19, 0), (22, 0), (23, 0), (24, 0), (25, 66), (28, 0), (29, 59), (32, 0), (33, 124), (36, 0), (37, 0), (38, 66), (41, 0), (42, 0), (43, 133), (46, 69), (49, 0), (50, 66), (53, 0), (54, 0), (55, 134), (58, 0)]
def xm_102 : xi_M := (7, "worth", "(II)I", prog_1_method_32_code, some .int, 1, xk_102)
/-- GuineaHours$Town.isMoment(I)Z -/
def xc_103 : List xi_E := [(.iload_n 1, [1], 0, 0), (.ifCond .lt 15, [8], 0, 0), (.iload_n 1, [1], 0, 0), (.aload_n 0, [0], 0, 0), (.getfield 9, [4, 0, 0], 0, 0), (.if_icmp .gt 7, [8], 0, 0), (.iconst 1, [], 1, 0), (.goto 4, [9], 0, 0), (.iconst 0, [], 0, 0), (.ireturn, [1], 0, 0)]
def xk_103 : List (Nat × Nat) := [(0, 0), (1, 0), (4, 0), (5, 0), (6, 0), (9, 0), (12, 0), (13, 0), (16, 0), (17, 0)]
def xm_103 : xi_M := (4, "isMoment", "(I)Z", prog_6_method_4_code, some .boolean, 1, xk_103)
/-- GuineaHours$Values.settle(LGuineaHours$Town;I)V -/
def xc_104 : List xi_E := [(.aload_n 0, [0], 0, 0), (.aload_n 1, [1], 0, 0), (.putfield 15, [5, 0, 2], 0, 0), (.aload_n 0, [0], 0, 0), (.getfield 15, [5, 0, 2], 0, 0), (.getfield 19, [4, 0, 0], 0, 0), (.istore_n 3, [3], 0, 0), (.iload_n 3, [3], 0, 0), (.iload_n 2, [2], 0, 0), (.if_icmp .lt 93, [54], 0, 0), (.iload_n 3, [3], 0, 0), (.ifCond .lt 89, [54], 0, 0), (.iconst 0, [], 0, 0), (.istore 4, [4], 0, 0), (.iload 4, [4], 0, 0), (.aload_n 0, [0], 0, 0), (.getfield 15, [5, 0, 2], 0, 0), (.getfield 25, [4, 1, 0], 0, 0), (.if_icmp .ge 68, [52], 0, 0), (.aload_n 0, [0], 0, 0), (.iload 4, [4], 0, 0), (.iload_n 3, [3], 0, 0), (.invokevirtual 28, [105, 3, 5], 0, 0), (.istore 5, [5], 0, 0), (.iload 5, [5], 0, 0), (.bipush (-9), [], (-9), 0), (.if_icmp .ne 7, [29], 0, 0), (.iconst 0, [], 0, 0), (.goto 10, [33], 0, 0), (.aload_n 0, [0], 0, 0), (.iload 5, [5], 0, 0), (.iload_n 3, [3], 0, 0), (.invokevirtual 32, [106, 3, 5], 0, 0), (.istore 6, [6], 0, 0), (.aload_n 0, [0], 0, 0), (.getfield 9, [5, 1, 2], 0, 0), (.iload_n 3, [3], 0, 0), (.bipush 7, [], 7, 0), (.imul, [], 0, 0), (.iload 4, [4], 0, 0), (.iadd, [], 0, 0), (.iload_n 3, [3], 0, 0), (.aload_n 0, [0], 0, 0), (.getfield 15, [5, 0, 2], 0, 0), (.getfield 19, [4, 0, 0], 0, 0), (.if_icmp .ne 8, [48], 0, 0), (.bipush 9, [], 9, 0), (.goto 5, [49], 0, 0), (.iload 6, [6], 0, 0), (.iastore, [], 0, 0), (.iinc 4 1, [4], 1, 0), (.goto (-74), [14], 0, 0), (.iinc 3 (-1), [3], (-1), 0), (.goto (-92), [7], 0, 0), (.return_, [], 0, 0)]
def xk_104 : List (Nat × Nat) := [(0, 0), (1, 0), (2, 49), (5, 0), (6, 49), (9, 1), (12, 0), (13, 0), (14, 0), (15, 0), (18, 0), (19, 0), (22, 0), (23, 0), (25, 0), (27, 0), (28, 49), (31, 6), (34, 0), (37, 0), (38, 0), (40, 0), (41, 125), (44, 0), (46, 0), (48, 0), (50, 0), (53, 0), (54, 0), (57, 0), (58, 0), (60, 0), (61, 127), (64, 0), (66, 0), (67, 50), (70, 0), (71, 0), (73, 0), (74, 0), (76, 0), (77, 0), (78, 0), (79, 49), (82, 1), (85, 0), (88, 0), (90, 0), (93, 0), (95, 0), (96, 0), (99, 0), (102, 0), (105, 0), (108, 0)]
def xm_104 : xi_M := (5, "settle", "(LGuineaHours$Town;I)V", prog_7_method_2_code, none, 1, xk_104)
/-- GuineaHours$Values.bestTaker(II)I -/
def xc_105 : List xi_E := [(.aload_n 0, [0], 0, 0), (.getfield 15, [5, 0, 2], 0, 0), (.iload_n 1, [1], 0, 0), (.iload_n 2, [2], 0, 0), (.invokevirtual 54, [56, 3, 4], 0, 0), (.istore_n 3, [3], 0, 0), (.bipush (-9), [], (-9), 0), (.istore 4, [4], 0, 0), (.iconst 0, [], 0, 0), (.istore 5, [5], 0, 0), (.iload 5, [5], 0, 0), (.aload_n 0, [0], 0, 0), (.getfield 15, [5, 0, 2], 0, 0), (.getfield 25, [4, 1, 0], 0, 0), (.if_icmp .ge 58, [43], 0, 0), (.iload_n 3, [3], 0, 0), (.iload 5, [5], 0, 0), (.ishr, [], 0, 0), (.iconst 1, [], 1, 0), (.iand, [], 0, 0), (.ifCond .eq 7, [23], 0, 0), (.iconst 1, [], 1, 0), (.goto 4, [24], 0, 0), (.iconst 0, [], 0, 0), (.istore 6, [6], 0, 0), (.iload 6, [6], 0, 0), (.ifCond .eq 31, [41], 0, 0), (.iload 4, [4], 0, 0), (.bipush (-9), [], (-9), 0), (.if_icmp .eq 20, [39], 0, 0), (.aload_n 0, [0], 0, 0), (.iload 5, [5], 0, 0), (.iload_n 2, [2], 0, 0), (.invokevirtual 32, [106, 3, 5], 0, 0), (.aload_n 0, [0], 0, 0), (.iload 4, [4], 0, 0), (.iload_n 2, [2], 0, 0), (.invokevirtual 32, [106, 3, 5], 0, 0), (.if_icmp .le 7, [41], 0, 0), (.iload 5, [5], 0, 0), (.istore 4, [4], 0, 0), (.iinc 5 1, [5], 1, 0), (.goto (-64), [10], 0, 0), (.iload 4, [4], 0, 0), (.ireturn, [0], 0, 0)]
def xk_105 : List (Nat × Nat) := [(0, 0), (1, 49), (4, 0), (5, 0), (6, 126), (9, 0), (10, 0), (12, 0), (14, 0), (15, 0), (17, 0), (19, 0), (20, 49), (23, 6), (26, 0), (29, 0), (30, 0), (32, 0), (33, 0), (34, 0), (35, 0), (38, 0), (39, 0), (42, 0), (43, 0), (45, 0), (47, 0), (50, 0), (52, 0), (54, 0), (57, 0), (58, 0), (60, 0), (61, 127), (64, 0), (65, 0), (67, 0), (68, 127), (71, 0), (74, 0), (76, 0), (78, 0), (81, 0), (84, 0), (86, 0)]
def xm_105 : xi_M := (5, "bestTaker", "(II)I", prog_7_method_5_code, some .int, 1, xk_105)
/-- GuineaHours$Values.valueByGiving(II)I -/
def xc_106 : List xi_E := [(.iconst 0, [], 0, 0), (.aload_n 0, [0], 0, 0), (.iload_n 1, [1], 0, 0), (.iload_n 2, [2], 0, 0), (.iconst 1, [], 1, 0), (.iadd, [], 0, 0), (.invokevirtual 42, [107, 3, 5], 0, 0), (.aload_n 0, [0], 0, 0), (.getfield 15, [5, 0, 2], 0, 0), (.iload_n 1, [1], 0, 0), (.invokevirtual 45, [45, 2, 4], 0, 0), (.isub, [], 0, 0), (.invokestatic 49, [1], 0, 0), (.ireturn, [0], 0, 0)]
def xk_106 : List (Nat × Nat) := [(0, 0), (1, 0), (2, 0), (3, 0), (4, 0), (5, 0), (6, 128), (9, 0), (10, 49), (13, 0), (14, 131), (17, 0), (18, 132), (21, 0)]
def xm_106 : xi_M := (5, "valueByGiving", "(II)I", prog_7_method_4_code, some .int, 1, xk_106)
/-- GuineaHours$Values.valueTo(II)I -/
def xc_107 : List xi_E := [(.aload_n 0, [0], 0, 0), (.getfield 15, [5, 0, 2], 0, 0), (.iload_n 2, [2], 0, 0), (.invokevirtual 35, [103, 2, 4], 0, 0), (.ifCond .eq 28, [19], 0, 0), (.aload_n 0, [0], 0, 0), (.getfield 15, [5, 0, 2], 0, 0), (.iload_n 1, [1], 0, 0), (.invokevirtual 39, [37, 2, 4], 0, 0), (.ifCond .eq 17, [19], 0, 0), (.aload_n 0, [0], 0, 0), (.getfield 9, [5, 1, 2], 0, 0), (.iload_n 2, [2], 0, 0), (.bipush 7, [], 7, 0), (.imul, [], 0, 0), (.iload_n 1, [1], 0, 0), (.iadd, [], 0, 0), (.iaload, [], 0, 0), (.goto 4, [20], 0, 0), (.iconst 0, [], 0, 0), (.ireturn, [0], 0, 0)]
def xk_107 : List (Nat × Nat) := [(0, 0), (1, 49), (4, 0), (5, 129), (8, 0), (11, 0), (12, 49), (15, 0), (16, 130), (19, 0), (22, 0), (23, 50), (26, 0), (27, 0), (29, 0), (30, 0), (31, 0), (32, 0), (33, 0), (36, 0), (37, 0)]
def xm_107 : xi_M := (5, "valueTo", "(II)I", prog_7_method_3_code, some .int, 1, xk_107)
/-- java/lang/Math.max(II)I -/
def xc_108 : List xi_E := [(.iload_n 0, [0], 0, 0), (.iload_n 1, [1], 0, 0), (.if_icmp .lt 7, [5], 0, 0), (.iload_n 0, [0], 0, 0), (.goto 4, [6], 0, 0), (.iload_n 1, [1], 0, 0), (.ireturn, [0], 0, 0)]
def xk_108 : List (Nat × Nat) := [(0, 0), (1, 0), (2, 0), (5, 0), (6, 0), (9, 0), (10, 0)]
def xm_108 : xi_M := (11, "max", "(II)I", prog_12_method_65_code, some .int, 0, xk_108)
/-- GuineaHours.best(I)I -/
def xc_109 : List xi_E := [(.aload_n 0, [0], 0, 0), (.getfield 29, [7, 4, 2], 0, 0), (.iload_n 1, [1], 0, 0), (.invokevirtual 268, [103, 2, 4], 0, 0), (.ifCond .ne 5, [7], 0, 0), (.iconst (-1), [], (-1), 0), (.ireturn, [0], 0, 0), (.aload_n 0, [0], 0, 0), (.getfield 29, [7, 4, 2], 0, 0), (.getfield 155, [4, 1, 0], 0, 0), (.ifCond .ne 6, [13], 0, 0), (.bipush (-4), [], (-4), 0), (.ireturn, [0], 0, 0), (.aload_n 0, [0], 0, 0), (.getfield 69, [7, 11, 2], 0, 0), (.aload_n 0, [0], 0, 0), (.getfield 29, [7, 4, 2], 0, 0), (.iload_n 1, [1], 0, 0), (.invokevirtual 271, [104, 3, 5], 0, 0), (.iconst 0, [], 0, 0), (.istore_n 2, [2], 0, 0), (.iconst 1, [], 1, 0), (.istore_n 3, [3], 0, 0), (.iload_n 3, [3], 0, 0), (.aload_n 0, [0], 0, 0), (.getfield 29, [7, 4, 2], 0, 0), (.getfield 155, [4, 1, 0], 0, 0), (.if_icmp .ge 32, [43], 0, 0), (.aload_n 0, [0], 0, 0), (.getfield 69, [7, 11, 2], 0, 0), (.iload_n 3, [3], 0, 0), (.iload_n 1, [1], 0, 0), (.invokevirtual 278, [107, 3, 5], 0, 0), (.aload_n 0, [0], 0, 0), (.getfield 69, [7, 11, 2], 0, 0), (.iload_n 2, [2], 0, 0), (.iload_n 1, [1], 0, 0), (.invokevirtual 278, [107, 3, 5], 0, 0), (.if_icmp .le 5, [41], 0, 0), (.iload_n 3, [3], 0, 0), (.istore_n 2, [2], 0, 0), (.iinc 3 1, [3], 1, 0), (.goto (-37), [23], 0, 0), (.aload_n 0, [0], 0, 0), (.aload_n 0, [0], 0, 0), (.getfield 69, [7, 11, 2], 0, 0), (.iload_n 2, [2], 0, 0), (.iload_n 1, [1], 0, 0), (.invokevirtual 278, [107, 3, 5], 0, 0), (.putfield 87, [7, 14, 0], 0, 0), (.iload_n 2, [2], 0, 0), (.ireturn, [0], 0, 0)]
def xk_109 : List (Nat × Nat) := [(0, 0), (1, 59), (4, 0), (5, 123), (8, 0), (11, 0), (12, 0), (13, 0), (14, 59), (17, 10), (20, 0), (23, 0), (25, 0), (26, 0), (27, 66), (30, 0), (31, 59), (34, 0), (35, 124), (38, 0), (39, 0), (40, 0), (41, 0), (42, 0), (43, 0), (44, 59), (47, 10), (50, 0), (53, 0), (54, 66), (57, 0), (58, 0), (59, 134), (62, 0), (63, 66), (66, 0), (67, 0), (68, 134), (71, 0), (74, 0), (75, 0), (76, 0), (79, 0), (82, 0), (83, 0), (84, 66), (87, 0), (88, 0), (89, 134), (92, 69), (95, 0), (96, 0)]
def xm_109 : xi_M := (7, "best", "(I)I", prog_1_method_33_code, some .int, 1, xk_109)
/-- GuineaHours.keeps(II)I -/
def xc_110 : List xi_E := [(.iload_n 1, [1], 0, 0), (.ifCond .lt 25, [12], 0, 0), (.iload_n 1, [1], 0, 0), (.aload_n 0, [0], 0, 0), (.getfield 29, [7, 4, 2], 0, 0), (.invokevirtual 281, [64, 1, 4], 0, 0), (.if_icmp .gt 14, [12], 0, 0), (.aload_n 0, [0], 0, 0), (.getfield 29, [7, 4, 2], 0, 0), (.iload_n 2, [2], 0, 0), (.invokevirtual 268, [103, 2, 4], 0, 0), (.ifCond .ne 5, [14], 0, 0), (.iconst (-1), [], (-1), 0), (.ireturn, [0], 0, 0), (.iload_n 1, [1], 0, 0), (.ifCond .ne 6, [18], 0, 0), (.bipush (-9), [], (-9), 0), (.ireturn, [0], 0, 0), (.aload_n 0, [0], 0, 0), (.getfield 29, [7, 4, 2], 0, 0), (.getfield 199, [4, 0, 0], 0, 0), (.istore_n 3, [3], 0, 0), (.iload_n 3, [3], 0, 0), (.iload_n 2, [2], 0, 0), (.if_icmp .le 22, [34], 0, 0), (.aload_n 0, [0], 0, 0), (.getfield 29, [7, 4, 2], 0, 0), (.iload_n 1, [1], 0, 0), (.iload_n 2, [2], 0, 0), (.iload_n 3, [3], 0, 0), (.invokevirtual 284, [111, 4, 4], 0, 0), (.ifCond .ne 9, [34], 0, 0), (.iinc 3 (-1), [3], (-1), 0), (.goto (-21), [22], 0, 0), (.aload_n 0, [0], 0, 0), (.aload_n 0, [0], 0, 0), (.getfield 29, [7, 4, 2], 0, 0), (.iload_n 1, [1], 0, 0), (.iload_n 2, [2], 0, 0), (.iload_n 3, [3], 0, 0), (.invokevirtual 284, [111, 4, 4], 0, 0), (.putfield 87, [7, 14, 0], 0, 0), (.iload_n 3, [3], 0, 0), (.iload_n 2, [2], 0, 0), (.isub, [], 0, 0), (.ireturn, [0], 0, 0)]
def xk_110 : List (Nat × Nat) := [(0, 0), (1, 0), (4, 0), (5, 0), (6, 59), (9, 137), (12, 0), (15, 0), (16, 59), (19, 0), (20, 123), (23, 0), (26, 0), (27, 0), (28, 0), (29, 0), (32, 0), (34, 0), (35, 0), (36, 59), (39, 4), (42, 0), (43, 0), (44, 0), (45, 0), (48, 0), (49, 59), (52, 0), (53, 0), (54, 0), (55, 138), (58, 0), (61, 0), (64, 0), (67, 0), (68, 0), (69, 59), (72, 0), (73, 0), (74, 0), (75, 138), (78, 69), (81, 0), (82, 0), (83, 0), (84, 0)]
def xm_110 : xi_M := (7, "keeps", "(II)I", prog_1_method_34_code, some .int, 1, xk_110)
/-- GuineaHours$Town.keepersOf(III)I -/
def xc_111 : List xi_E := [(.iload_n 1, [1], 0, 0), (.istore 4, [4], 0, 0), (.iload_n 3, [3], 0, 0), (.iconst 1, [], 1, 0), (.isub, [], 0, 0), (.istore 5, [5], 0, 0), (.iload 5, [5], 0, 0), (.iload_n 2, [2], 0, 0), (.if_icmp .lt 20, [17], 0, 0), (.aload_n 0, [0], 0, 0), (.iload 4, [4], 0, 0), (.iload_n 1, [1], 0, 0), (.iload 5, [5], 0, 0), (.invokevirtual 57, [79, 4, 4], 0, 0), (.istore 4, [4], 0, 0), (.iinc 5 (-1), [5], (-1), 0), (.goto (-20), [6], 0, 0), (.iload 4, [4], 0, 0), (.ireturn, [0], 0, 0)]
def xk_111 : List (Nat × Nat) := [(0, 0), (1, 0), (3, 0), (4, 0), (5, 0), (6, 0), (8, 0), (10, 0), (11, 0), (14, 0), (15, 0), (17, 0), (18, 0), (20, 139), (23, 0), (25, 0), (28, 0), (31, 0), (33, 0)]
def xm_111 : xi_M := (4, "keepersOf", "(III)I", prog_6_method_17_code, some .int, 1, xk_111)
/-- GuineaHours.fewest(I)I -/
def xc_112 : List xi_E := [(.aload_n 0, [0], 0, 0), (.getfield 29, [7, 4, 2], 0, 0), (.iload_n 1, [1], 0, 0), (.invokevirtual 268, [103, 2, 4], 0, 0), (.ifCond .ne 5, [7], 0, 0), (.iconst (-1), [], (-1), 0), (.ireturn, [0], 0, 0), (.iconst 0, [], 0, 0), (.istore_n 2, [2], 0, 0), (.iconst 1, [], 1, 0), (.istore_n 3, [3], 0, 0), (.iload_n 3, [3], 0, 0), (.aload_n 0, [0], 0, 0), (.getfield 29, [7, 4, 2], 0, 0), (.invokevirtual 281, [64, 1, 4], 0, 0), (.if_icmp .gt 57, [42], 0, 0), (.iload_n 2, [2], 0, 0), (.ifCond .eq 14, [23], 0, 0), (.iload_n 3, [3], 0, 0), (.invokestatic 206, [59, 1], 0, 0), (.iload_n 2, [2], 0, 0), (.invokestatic 206, [59, 1], 0, 0), (.if_icmp .ge 7, [25], 0, 0), (.iconst 1, [], 1, 0), (.goto 4, [26], 0, 0), (.iconst 0, [], 0, 0), (.istore 4, [4], 0, 0), (.iload 4, [4], 0, 0), (.ifCond .eq 24, [40], 0, 0), (.aload_n 0, [0], 0, 0), (.getfield 29, [7, 4, 2], 0, 0), (.iload_n 3, [3], 0, 0), (.iload_n 1, [1], 0, 0), (.aload_n 0, [0], 0, 0), (.getfield 29, [7, 4, 2], 0, 0), (.getfield 199, [4, 0, 0], 0, 0), (.invokevirtual 284, [111, 4, 4], 0, 0), (.ifCond .eq 5, [40], 0, 0), (.iload_n 3, [3], 0, 0), (.istore_n 2, [2], 0, 0), (.iinc 3 1, [3], 1, 0), (.goto (-62), [11], 0, 0), (.iload_n 2, [2], 0, 0), (.ifCond .ne 6, [46], 0, 0), (.bipush (-9), [], (-9), 0), (.ireturn, [0], 0, 0), (.aload_n 0, [0], 0, 0), (.iload_n 2, [2], 0, 0), (.putfield 87, [7, 14, 0], 0, 0), (.iload_n 2, [2], 0, 0), (.invokestatic 206, [59, 1], 0, 0), (.ireturn, [0], 0, 0)]
def xk_112 : List (Nat × Nat) := [(0, 0), (1, 59), (4, 0), (5, 123), (8, 0), (11, 0), (12, 0), (13, 0), (14, 0), (15, 0), (16, 0), (17, 0), (18, 0), (19, 59), (22, 137), (25, 0), (28, 0), (29, 0), (32, 0), (33, 69), (36, 0), (37, 69), (40, 0), (43, 0), (44, 0), (47, 0), (48, 0), (50, 0), (52, 0), (55, 0), (56, 59), (59, 0), (60, 0), (61, 0), (62, 59), (65, 4), (68, 138), (71, 0), (74, 0), (75, 0), (76, 0), (79, 0), (82, 0), (83, 0), (86, 0), (88, 0), (89, 0), (90, 0), (91, 69), (94, 0), (95, 69), (98, 0)]
def xm_112 : xi_M := (7, "fewest", "(I)I", prog_1_method_35_code, some .int, 1, xk_112)
/-- GuineaHours.leaves(II)I -/
def xc_113 : List xi_E := [(.iload_n 1, [1], 0, 0), (.invokestatic 110, [10, 1], 0, 0), (.ifCond .eq 14, [8], 0, 0), (.aload_n 0, [0], 0, 0), (.getfield 29, [7, 4, 2], 0, 0), (.iload_n 2, [2], 0, 0), (.invokevirtual 268, [103, 2, 4], 0, 0), (.ifCond .ne 5, [10], 0, 0), (.iconst (-1), [], (-1), 0), (.ireturn, [0], 0, 0), (.aload_n 0, [0], 0, 0), (.getfield 29, [7, 4, 2], 0, 0), (.getfield 155, [4, 1, 0], 0, 0), (.ifCond .ne 6, [16], 0, 0), (.bipush (-4), [], (-4), 0), (.ireturn, [0], 0, 0), (.aload_n 0, [0], 0, 0), (.getfield 14, [7, 1, 2], 0, 0), (.iload_n 1, [1], 0, 0), (.iaload, [], 0, 0), (.ifCond .ge 9, [25], 0, 0), (.aload_n 0, [0], 0, 0), (.iconst 1, [], 1, 0), (.invokevirtual 114, [11, 2, 7], 0, 0), (.ireturn, [0], 0, 0), (.aload_n 0, [0], 0, 0), (.getfield 14, [7, 1, 2], 0, 0), (.iload_n 1, [1], 0, 0), (.iaload, [], 0, 0), (.aload_n 0, [0], 0, 0), (.getfield 29, [7, 4, 2], 0, 0), (.getfield 155, [4, 1, 0], 0, 0), (.if_icmp .eq 9, [37], 0, 0), (.aload_n 0, [0], 0, 0), (.iconst 5, [], 5, 0), (.invokevirtual 114, [11, 2, 7], 0, 0), (.ireturn, [0], 0, 0), (.aload_n 0, [0], 0, 0), (.aload_n 0, [0], 0, 0), (.getfield 11, [7, 0, 2], 0, 0), (.iload_n 1, [1], 0, 0), (.aaload, [], 0, 0), (.invokevirtual 288, [114, 2, 7], 0, 0), (.ifCond .ne 9, [48], 0, 0), (.aload_n 0, [0], 0, 0), (.iconst 3, [], 3, 0), (.invokevirtual 114, [11, 2, 7], 0, 0), (.ireturn, [0], 0, 0), (.iconst 1, [], 1, 0), (.istore_n 3, [3], 0, 0), (.iload_n 3, [3], 0, 0), (.aload_n 0, [0], 0, 0), (.getfield 29, [7, 4, 2], 0, 0), (.invokevirtual 281, [64, 1, 4], 0, 0), (.if_icmp .gt 46, [77], 0, 0), (.aload_n 0, [0], 0, 0), (.aload_n 0, [0], 0, 0), (.getfield 11, [7, 0, 2], 0, 0), (.iload_n 1, [1], 0, 0), (.aaload, [], 0, 0), (.iload_n 3, [3], 0, 0), (.invokevirtual 292, [115, 3, 7], 0, 0), (.bipush 9, [], 9, 0), (.if_icmp .ge 24, [75], 0, 0), (.aload_n 0, [0], 0, 0), (.getfield 29, [7, 4, 2], 0, 0), (.iload_n 3, [3], 0, 0), (.iload_n 2, [2], 0, 0), (.aload_n 0, [0], 0, 0), (.getfield 29, [7, 4, 2], 0, 0), (.getfield 199, [4, 0, 0], 0, 0), (.invokevirtual 284, [111, 4, 4], 0, 0), (.ifCond .eq 5, [75], 0, 0), (.iload_n 3, [3], 0, 0), (.ireturn, [0], 0, 0), (.iinc 3 1, [3], 1, 0), (.goto (-51), [50], 0, 0), (.iconst 0, [], 0, 0), (.ireturn, [0], 0, 0)]
def xk_113 : List (Nat × Nat) := [(0, 0), (1, 14), (4, 0), (7, 0), (8, 59), (11, 0), (12, 123), (15, 0), (18, 0), (19, 0), (20, 0), (21, 59), (24, 10), (27, 0), (30, 0), (32, 0), (33, 0), (34, 56), (37, 0), (38, 0), (39, 0), (42, 0), (43, 0), (44, 15), (47, 0), (48, 0), (49, 56), (52, 0), (53, 0), (54, 0), (55, 59), (58, 10), (61, 0), (64, 0), (65, 0), (66, 15), (69, 0), (70, 0), (71, 0), (72, 55), (75, 0), (76, 0), (77, 142), (80, 0), (83, 0), (84, 0), (85, 15), (88, 0), (89, 0), (90, 0), (91, 0), (92, 0), (93, 59), (96, 137), (99, 0), (102, 0), (103, 0), (104, 55), (107, 0), (108, 0), (109, 0), (110, 143), (113, 0), (115, 0), (118, 0), (119, 59), (122, 0), (123, 0), (124, 0), (125, 59), (128, 4), (131, 138), (134, 0), (137, 0), (138, 0), (139, 0), (142, 0), (145, 0), (146, 0)]
def xm_113 : xi_M := (7, "leaves", "(II)I", prog_1_method_36_code, some .int, 1, xk_113)
/-- GuineaHours.areShares([I)Z -/
def xc_114 : List xi_E := [(.iconst 0, [], 0, 0), (.istore_n 2, [2], 0, 0), (.iload_n 2, [2], 0, 0), (.aload_n 0, [0], 0, 0), (.getfield 29, [7, 4, 2], 0, 0), (.getfield 155, [4, 1, 0], 0, 0), (.if_icmp .ge 25, [20], 0, 0), (.aload_n 1, [1], 0, 0), (.iload_n 2, [2], 0, 0), (.iaload, [], 0, 0), (.ifCond .lt 11, [16], 0, 0), (.aload_n 1, [1], 0, 0), (.iload_n 2, [2], 0, 0), (.iaload, [], 0, 0), (.bipush 9, [], 9, 0), (.if_icmp .le 5, [18], 0, 0), (.iconst 0, [], 0, 0), (.ireturn, [1], 0, 0), (.iinc 2 1, [2], 1, 0), (.goto (-30), [2], 0, 0), (.aload_n 0, [0], 0, 0), (.aload_n 1, [1], 0, 0), (.aload_n 0, [0], 0, 0), (.getfield 29, [7, 4, 2], 0, 0), (.invokevirtual 281, [64, 1, 4], 0, 0), (.invokevirtual 292, [115, 3, 7], 0, 0), (.bipush 9, [], 9, 0), (.if_icmp .ne 7, [30], 0, 0), (.iconst 1, [], 1, 0), (.goto 4, [31], 0, 0), (.iconst 0, [], 0, 0), (.ireturn, [1], 0, 0)]
def xk_114 : List (Nat × Nat) := [(0, 0), (1, 0), (2, 0), (3, 0), (4, 59), (7, 10), (10, 0), (13, 0), (14, 0), (15, 0), (16, 0), (19, 0), (20, 0), (21, 0), (22, 0), (24, 0), (27, 0), (28, 0), (29, 0), (32, 0), (35, 0), (36, 0), (37, 0), (38, 59), (41, 137), (44, 143), (47, 0), (49, 0), (52, 0), (53, 0), (56, 0), (57, 0)]
def xm_114 : xi_M := (7, "areShares", "([I)Z", prog_1_method_69_code, some .boolean, 1, xk_114)
/-- GuineaHours.shareOf([II)I -/
def xc_115 : List xi_E := [(.iconst 0, [], 0, 0), (.istore_n 3, [3], 0, 0), (.iconst 0, [], 0, 0), (.istore 4, [4], 0, 0), (.iload 4, [4], 0, 0), (.aload_n 0, [0], 0, 0), (.getfield 29, [7, 4, 2], 0, 0), (.getfield 155, [4, 1, 0], 0, 0), (.if_icmp .ge 25, [23], 0, 0), (.iload_n 2, [2], 0, 0), (.iload 4, [4], 0, 0), (.ishr, [], 0, 0), (.iconst 1, [], 1, 0), (.iand, [], 0, 0), (.ifCond .eq 10, [21], 0, 0), (.iload_n 3, [3], 0, 0), (.aload_n 1, [1], 0, 0), (.iload 4, [4], 0, 0), (.iaload, [], 0, 0), (.iadd, [], 0, 0), (.istore_n 3, [3], 0, 0), (.iinc 4 1, [4], 1, 0), (.goto (-31), [4], 0, 0), (.iload_n 3, [3], 0, 0), (.ireturn, [0], 0, 0)]
def xk_115 : List (Nat × Nat) := [(0, 0), (1, 0), (2, 0), (3, 0), (5, 0), (7, 0), (8, 59), (11, 10), (14, 0), (17, 0), (18, 0), (20, 0), (21, 0), (22, 0), (23, 0), (26, 0), (27, 0), (28, 0), (30, 0), (31, 0), (32, 0), (33, 0), (36, 0), (39, 0), (40, 0)]
def xm_115 : xi_M := (7, "shareOf", "([II)I", prog_1_method_70_code, some .int, 1, xk_115)
/-- GuineaHours.sight(III)I -/
def xc_116 : List xi_E := [(.aload_n 0, [0], 0, 0), (.getfield 29, [7, 4, 2], 0, 0), (.iload_n 1, [1], 0, 0), (.invokevirtual 268, [103, 2, 4], 0, 0), (.ifCond .eq 23, [15], 0, 0), (.aload_n 0, [0], 0, 0), (.getfield 29, [7, 4, 2], 0, 0), (.iload_n 2, [2], 0, 0), (.invokevirtual 158, [37, 2, 4], 0, 0), (.ifCond .eq 12, [15], 0, 0), (.iload_n 3, [3], 0, 0), (.ifCond .lt 8, [15], 0, 0), (.iload_n 3, [3], 0, 0), (.iconst 1, [], 1, 0), (.if_icmp .le 5, [17], 0, 0), (.iconst (-1), [], (-1), 0), (.ireturn, [0], 0, 0), (.aload_n 0, [0], 0, 0), (.getfield 50, [7, 8, 2], 0, 0), (.getfield 296, [3, 0, 0], 0, 0), (.bipush 8, [], 8, 0), (.if_icmp .lt 6, [24], 0, 0), (.bipush (-2), [], (-2), 0), (.ireturn, [0], 0, 0), (.aload_n 0, [0], 0, 0), (.getfield 50, [7, 8, 2], 0, 0), (.iload_n 1, [1], 0, 0), (.iload_n 2, [2], 0, 0), (.iload_n 3, [3], 0, 0), (.invokevirtual 299, [117, 4, 3], 0, 0), (.aload_n 0, [0], 0, 0), (.getfield 50, [7, 8, 2], 0, 0), (.getfield 296, [3, 0, 0], 0, 0), (.iconst 1, [], 1, 0), (.isub, [], 0, 0), (.ireturn, [0], 0, 0)]
def xk_116 : List (Nat × Nat) := [(0, 0), (1, 59), (4, 0), (5, 123), (8, 0), (11, 0), (12, 59), (15, 0), (16, 49), (19, 0), (22, 0), (23, 0), (26, 0), (27, 0), (28, 0), (31, 0), (32, 0), (33, 0), (34, 63), (37, 26), (40, 0), (42, 0), (45, 0), (47, 0), (48, 0), (49, 63), (52, 0), (53, 0), (54, 0), (55, 145), (58, 0), (59, 63), (62, 26), (65, 0), (66, 0), (67, 0)]
def xm_116 : xi_M := (7, "sight", "(III)I", prog_1_method_37_code, some .int, 1, xk_116)
/-- GuineaHours$Sights.addOne(III)V -/
def xc_117 : List xi_E := [(.aload_n 0, [0], 0, 0), (.getfield 9, [3, 0, 0], 0, 0), (.ifCond .lt 52, [31], 0, 0), (.aload_n 0, [0], 0, 0), (.getfield 9, [3, 0, 0], 0, 0), (.bipush 8, [], 8, 0), (.if_icmp .ge 43, [31], 0, 0), (.aload_n 0, [0], 0, 0), (.getfield 19, [3, 2, 2], 0, 0), (.aload_n 0, [0], 0, 0), (.getfield 9, [3, 0, 0], 0, 0), (.iload_n 1, [1], 0, 0), (.iastore, [], 0, 0), (.aload_n 0, [0], 0, 0), (.getfield 23, [3, 3, 2], 0, 0), (.aload_n 0, [0], 0, 0), (.getfield 9, [3, 0, 0], 0, 0), (.iload_n 2, [2], 0, 0), (.iastore, [], 0, 0), (.aload_n 0, [0], 0, 0), (.getfield 26, [3, 4, 2], 0, 0), (.aload_n 0, [0], 0, 0), (.getfield 9, [3, 0, 0], 0, 0), (.iload_n 3, [3], 0, 0), (.iastore, [], 0, 0), (.aload_n 0, [0], 0, 0), (.dup, [], 0, 0), (.getfield 9, [3, 0, 0], 0, 0), (.iconst 1, [], 1, 0), (.iadd, [], 0, 0), (.putfield 9, [3, 0, 0], 0, 0), (.aload_n 0, [0], 0, 0), (.iconst 0, [], 0, 0), (.putfield 15, [3, 1, 3], 0, 0), (.return_, [], 0, 0)]
def xk_117 : List (Nat × Nat) := [(0, 0), (1, 25), (4, 0), (7, 0), (8, 25), (11, 0), (13, 0), (16, 0), (17, 29), (20, 0), (21, 25), (24, 0), (25, 0), (26, 0), (27, 31), (30, 0), (31, 25), (34, 0), (35, 0), (36, 0), (37, 33), (40, 0), (41, 25), (44, 0), (45, 0), (46, 0), (47, 0), (48, 25), (51, 0), (52, 0), (53, 25), (56, 0), (57, 0), (58, 27), (61, 0)]
def xm_117 : xi_M := (3, "addOne", "(III)V", prog_5_method_2_code, none, 1, xk_117)
/-- GuineaHours.forget(I)I -/
def xc_118 : List xi_E := [(.iload_n 1, [1], 0, 0), (.ifCond .lt 14, [7], 0, 0), (.iload_n 1, [1], 0, 0), (.aload_n 0, [0], 0, 0), (.getfield 50, [7, 8, 2], 0, 0), (.getfield 296, [3, 0, 0], 0, 0), (.if_icmp .le 5, [9], 0, 0), (.iconst (-1), [], (-1), 0), (.ireturn, [0], 0, 0), (.aload_n 0, [0], 0, 0), (.getfield 50, [7, 8, 2], 0, 0), (.getfield 296, [3, 0, 0], 0, 0), (.iload_n 1, [1], 0, 0), (.isub, [], 0, 0), (.istore_n 2, [2], 0, 0), (.aload_n 0, [0], 0, 0), (.getfield 50, [7, 8, 2], 0, 0), (.iload_n 1, [1], 0, 0), (.invokevirtual 303, [42, 2, 3], 0, 0), (.iload_n 2, [2], 0, 0), (.ireturn, [0], 0, 0)]
def xk_118 : List (Nat × Nat) := [(0, 0), (1, 0), (4, 0), (5, 0), (6, 63), (9, 26), (12, 0), (15, 0), (16, 0), (17, 0), (18, 63), (21, 26), (24, 0), (25, 0), (26, 0), (27, 0), (28, 63), (31, 0), (32, 47), (35, 0), (36, 0)]
def xm_118 : xi_M := (7, "forget", "(I)I", prog_1_method_38_code, some .int, 1, xk_118)
/-- GuineaHours.fits()I -/
def xc_119 : List xi_E := [(.aload_n 0, [0], 0, 0), (.getfield 29, [7, 4, 2], 0, 0), (.getfield 199, [4, 0, 0], 0, 0), (.ifCond .ne 6, [6], 0, 0), (.bipush (-4), [], (-4), 0), (.ireturn, [0], 0, 0), (.aload_n 0, [0], 0, 0), (.invokevirtual 306, [120, 1, 7], 0, 0), (.aload_n 0, [0], 0, 0), (.aload_n 0, [0], 0, 0), (.getfield 63, [7, 10, 2], 0, 0), (.iconst 0, [], 0, 0), (.invokevirtual 242, [84, 2, 6], 0, 0), (.putfield 87, [7, 14, 0], 0, 0), (.aload_n 0, [0], 0, 0), (.getfield 63, [7, 10, 2], 0, 0), (.getfield 309, [6, 1, 0], 0, 0), (.ireturn, [0], 0, 0)]
def xk_119 : List (Nat × Nat) := [(0, 0), (1, 59), (4, 4), (7, 0), (10, 0), (12, 0), (13, 0), (14, 148), (17, 0), (18, 0), (19, 65), (22, 0), (23, 102), (26, 69), (29, 0), (30, 65), (33, 38), (36, 0)]
def xm_119 : xi_M := (7, "fits", "()I", prog_1_method_39_code, some .int, 1, xk_119)
/-- GuineaHours.seekPast()V -/
def xc_120 : List xi_E := [(.aload_n 0, [0], 0, 0), (.getfield 50, [7, 8, 2], 0, 0), (.getfield 189, [3, 1, 3], 0, 0), (.ifCond .eq 4, [5], 0, 0), (.return_, [], 0, 0), (.aload_n 0, [0], 0, 0), (.getfield 63, [7, 10, 2], 0, 0), (.aload_n 0, [0], 0, 0), (.getfield 29, [7, 4, 2], 0, 0), (.aload_n 0, [0], 0, 0), (.getfield 39, [7, 6, 2], 0, 0), (.getfield 177, [1, 0, 0], 0, 0), (.aload_n 0, [0], 0, 0), (.getfield 39, [7, 6, 2], 0, 0), (.getfield 193, [1, 1, 0], 0, 0), (.invokevirtual 231, [63, 4, 6], 0, 0), (.iconst 0, [], 0, 0), (.istore_n 1, [1], 0, 0), (.iload_n 1, [1], 0, 0), (.aload_n 0, [0], 0, 0), (.getfield 50, [7, 8, 2], 0, 0), (.getfield 296, [3, 0, 0], 0, 0), (.if_icmp .ge 63, [56], 0, 0), (.iload_n 1, [1], 0, 0), (.bipush 8, [], 8, 0), (.if_icmp .ge 57, [56], 0, 0), (.iconst 1, [], 1, 0), (.aload_n 0, [0], 0, 0), (.getfield 50, [7, 8, 2], 0, 0), (.getfield 366, [3, 3, 2], 0, 0), (.iload_n 1, [1], 0, 0), (.iaload, [], 0, 0), (.ishl, [], 0, 0), (.istore_n 2, [2], 0, 0), (.aload_n 0, [0], 0, 0), (.getfield 63, [7, 10, 2], 0, 0), (.aload_n 0, [0], 0, 0), (.getfield 50, [7, 8, 2], 0, 0), (.getfield 364, [3, 2, 2], 0, 0), (.iload_n 1, [1], 0, 0), (.iaload, [], 0, 0), (.aload_n 0, [0], 0, 0), (.getfield 50, [7, 8, 2], 0, 0), (.getfield 369, [3, 4, 2], 0, 0), (.iload_n 1, [1], 0, 0), (.iaload, [], 0, 0), (.iconst 1, [], 1, 0), (.if_icmp .ne 7, [50], 0, 0), (.iload_n 2, [2], 0, 0), (.goto 6, [53], 0, 0), (.iload_n 2, [2], 0, 0), (.iconst (-1), [], (-1), 0), (.ixor, [], 0, 0), (.invokevirtual 393, [95, 3, 6], 0, 0), (.iinc 1 1, [1], 1, 0), (.goto (-68), [18], 0, 0), (.aload_n 0, [0], 0, 0), (.getfield 63, [7, 10, 2], 0, 0), (.invokevirtual 396, [96, 1, 6], 0, 0), (.aload_n 0, [0], 0, 0), (.getfield 50, [7, 8, 2], 0, 0), (.iconst 1, [], 1, 0), (.putfield 189, [3, 1, 3], 0, 0), (.return_, [], 0, 0)]
def xk_120 : List (Nat × Nat) := [(0, 0), (1, 63), (4, 28), (7, 0), (10, 0), (11, 0), (12, 65), (15, 0), (16, 59), (19, 0), (20, 61), (23, 16), (26, 0), (27, 61), (30, 18), (33, 73), (36, 0), (37, 0), (38, 0), (39, 0), (40, 63), (43, 26), (46, 0), (49, 0), (50, 0), (52, 0), (55, 0), (56, 0), (57, 63), (60, 32), (63, 0), (64, 0), (65, 0), (66, 0), (67, 0), (68, 65), (71, 0), (72, 63), (75, 30), (78, 0), (79, 0), (80, 0), (81, 63), (84, 34), (87, 0), (88, 0), (89, 0), (90, 0), (93, 0), (94, 0), (97, 0), (98, 0), (99, 0), (100, 115), (103, 0), (106, 0), (109, 0), (110, 65), (113, 116), (116, 0), (117, 63), (120, 0), (121, 28), (124, 0)]
def xm_120 : xi_M := (7, "seekPast", "()V", prog_1_method_71_code, none, 1, xk_120)
/-- GuineaHours.where(I)I -/
def xc_121 : List xi_E := [(.aload_n 0, [0], 0, 0), (.iload_n 1, [1], 0, 0), (.invokevirtual 312, [122, 2, 7], 0, 0), (.istore_n 2, [2], 0, 0), (.iload_n 2, [2], 0, 0), (.ifCond .eq 5, [8], 0, 0), (.iload_n 2, [2], 0, 0), (.ireturn, [0], 0, 0), (.aload_n 0, [0], 0, 0), (.getfield 63, [7, 10, 2], 0, 0), (.iload_n 1, [1], 0, 0), (.invokevirtual 242, [84, 2, 6], 0, 0), (.istore_n 3, [3], 0, 0), (.aload_n 0, [0], 0, 0), (.bipush (-9), [], (-9), 0), (.putfield 87, [7, 14, 0], 0, 0), (.iconst 0, [], 0, 0), (.istore 4, [4], 0, 0), (.iload 4, [4], 0, 0), (.aload_n 0, [0], 0, 0), (.getfield 29, [7, 4, 2], 0, 0), (.getfield 155, [4, 1, 0], 0, 0), (.if_icmp .ge 23, [33], 0, 0), (.iload_n 3, [3], 0, 0), (.iconst 1, [], 1, 0), (.iload 4, [4], 0, 0), (.ishl, [], 0, 0), (.if_icmp .ne 9, [31], 0, 0), (.aload_n 0, [0], 0, 0), (.iload 4, [4], 0, 0), (.putfield 87, [7, 14, 0], 0, 0), (.iinc 4 1, [4], 1, 0), (.goto (-29), [18], 0, 0), (.iload_n 3, [3], 0, 0), (.ireturn, [0], 0, 0)]
def xk_121 : List (Nat × Nat) := [(0, 0), (1, 0), (2, 150), (5, 0), (6, 0), (7, 0), (10, 0), (11, 0), (12, 0), (13, 65), (16, 0), (17, 102), (20, 0), (21, 0), (22, 0), (24, 69), (27, 0), (28, 0), (30, 0), (32, 0), (33, 59), (36, 10), (39, 0), (42, 0), (43, 0), (44, 0), (46, 0), (47, 0), (50, 0), (51, 0), (53, 69), (56, 0), (59, 0), (62, 0), (63, 0)]
def xm_121 : xi_M := (7, "where", "(I)I", prog_1_method_40_code, some .int, 1, xk_121)
/-- GuineaHours.refusePast(I)I -/
def xc_122 : List xi_E := [(.aload_n 0, [0], 0, 0), (.getfield 29, [7, 4, 2], 0, 0), (.iload_n 1, [1], 0, 0), (.invokevirtual 268, [103, 2, 4], 0, 0), (.ifCond .ne 5, [7], 0, 0), (.iconst (-1), [], (-1), 0), (.ireturn, [0], 0, 0), (.aload_n 0, [0], 0, 0), (.getfield 29, [7, 4, 2], 0, 0), (.getfield 199, [4, 0, 0], 0, 0), (.ifCond .ne 6, [13], 0, 0), (.bipush (-4), [], (-4), 0), (.ireturn, [0], 0, 0), (.aload_n 0, [0], 0, 0), (.invokevirtual 306, [120, 1, 7], 0, 0), (.aload_n 0, [0], 0, 0), (.getfield 63, [7, 10, 2], 0, 0), (.getfield 309, [6, 1, 0], 0, 0), (.ifCond .ne 11, [23], 0, 0), (.aload_n 0, [0], 0, 0), (.iconst 4, [], 4, 0), (.invokevirtual 114, [11, 2, 7], 0, 0), (.goto 4, [24], 0, 0), (.iconst 0, [], 0, 0), (.ireturn, [0], 0, 0)]
def xk_122 : List (Nat × Nat) := [(0, 0), (1, 59), (4, 0), (5, 123), (8, 0), (11, 0), (12, 0), (13, 0), (14, 59), (17, 4), (20, 0), (23, 0), (25, 0), (26, 0), (27, 148), (30, 0), (31, 65), (34, 38), (37, 0), (40, 0), (41, 0), (42, 15), (45, 0), (48, 0), (49, 0)]
def xm_122 : xi_M := (7, "refusePast", "(I)I", prog_1_method_72_code, some .int, 1, xk_122)
/-- GuineaHours.ask(I)I -/
def xc_123 : List xi_E := [(.aload_n 0, [0], 0, 0), (.iload_n 1, [1], 0, 0), (.invokevirtual 312, [122, 2, 7], 0, 0), (.istore_n 2, [2], 0, 0), (.iload_n 2, [2], 0, 0), (.ifCond .eq 5, [8], 0, 0), (.iload_n 2, [2], 0, 0), (.ireturn, [0], 0, 0), (.iconst 0, [], 0, 0), (.istore_n 3, [3], 0, 0), (.iconst 1, [], 1, 0), (.istore 4, [4], 0, 0), (.iload 4, [4], 0, 0), (.aload_n 0, [0], 0, 0), (.getfield 29, [7, 4, 2], 0, 0), (.getfield 155, [4, 1, 0], 0, 0), (.if_icmp .ge 34, [32], 0, 0), (.aload_n 0, [0], 0, 0), (.getfield 63, [7, 10, 2], 0, 0), (.iload_n 1, [1], 0, 0), (.iload 4, [4], 0, 0), (.invokevirtual 315, [124, 3, 6], 0, 0), (.aload_n 0, [0], 0, 0), (.getfield 63, [7, 10, 2], 0, 0), (.iload_n 1, [1], 0, 0), (.iload_n 3, [3], 0, 0), (.invokevirtual 315, [124, 3, 6], 0, 0), (.if_icmp .ge 6, [30], 0, 0), (.iload 4, [4], 0, 0), (.istore_n 3, [3], 0, 0), (.iinc 4 1, [4], 1, 0), (.goto (-40), [12], 0, 0), (.aload_n 0, [0], 0, 0), (.aload_n 0, [0], 0, 0), (.getfield 63, [7, 10, 2], 0, 0), (.iload_n 1, [1], 0, 0), (.iload_n 3, [3], 0, 0), (.invokevirtual 315, [124, 3, 6], 0, 0), (.putfield 87, [7, 14, 0], 0, 0), (.iload_n 3, [3], 0, 0), (.ireturn, [0], 0, 0)]
def xk_123 : List (Nat × Nat) := [(0, 0), (1, 0), (2, 150), (5, 0), (6, 0), (7, 0), (10, 0), (11, 0), (12, 0), (13, 0), (14, 0), (15, 0), (17, 0), (19, 0), (20, 59), (23, 10), (26, 0), (29, 0), (30, 65), (33, 0), (34, 0), (36, 152), (39, 0), (40, 65), (43, 0), (44, 0), (45, 152), (48, 0), (51, 0), (53, 0), (54, 0), (57, 0), (60, 0), (61, 0), (62, 65), (65, 0), (66, 0), (67, 152), (70, 69), (73, 0), (74, 0)]
def xm_123 : xi_M := (7, "ask", "(I)I", prog_1_method_41_code, some .int, 1, xk_123)
/-- GuineaHours$Walk.leftAtMost(II)I -/
def xc_124 : List xi_E := [(.aload_n 0, [0], 0, 0), (.iload_n 1, [1], 0, 0), (.iload_n 2, [2], 0, 0), (.invokevirtual 123, [85, 3, 6], 0, 0), (.istore_n 3, [3], 0, 0), (.iload_n 3, [3], 0, 0), (.aload_n 0, [0], 0, 0), (.getfield 15, [6, 1, 0], 0, 0), (.iload_n 3, [3], 0, 0), (.isub, [], 0, 0), (.invokestatic 126, [1], 0, 0), (.ireturn, [0], 0, 0)]
def xk_124 : List (Nat × Nat) := [(0, 0), (1, 0), (2, 0), (3, 103), (6, 0), (7, 0), (8, 0), (9, 37), (12, 0), (13, 0), (14, 153), (17, 0)]
def xm_124 : xi_M := (6, "leftAtMost", "(II)I", prog_8_method_18_code, some .int, 1, xk_124)
/-- GuineaHours.odds(III)I -/
def xc_125 : List xi_E := [(.aload_n 0, [0], 0, 0), (.getfield 29, [7, 4, 2], 0, 0), (.iload_n 1, [1], 0, 0), (.invokevirtual 158, [37, 2, 4], 0, 0), (.ifCond .eq 25, [15], 0, 0), (.aload_n 0, [0], 0, 0), (.getfield 29, [7, 4, 2], 0, 0), (.iload_n 2, [2], 0, 0), (.invokevirtual 268, [103, 2, 4], 0, 0), (.ifCond .eq 14, [15], 0, 0), (.aload_n 0, [0], 0, 0), (.getfield 29, [7, 4, 2], 0, 0), (.iload_n 3, [3], 0, 0), (.invokevirtual 158, [37, 2, 4], 0, 0), (.ifCond .ne 5, [17], 0, 0), (.iconst (-1), [], (-1), 0), (.ireturn, [0], 0, 0), (.aload_n 0, [0], 0, 0), (.getfield 76, [7, 12, 2], 0, 0), (.aload_n 0, [0], 0, 0), (.getfield 29, [7, 4, 2], 0, 0), (.iload_n 2, [2], 0, 0), (.iload_n 3, [3], 0, 0), (.invokevirtual 318, [126, 4, 0], 0, 0), (.aload_n 0, [0], 0, 0), (.aload_n 0, [0], 0, 0), (.getfield 76, [7, 12, 2], 0, 0), (.iload_n 1, [1], 0, 0), (.iload_n 2, [2], 0, 0), (.invokevirtual 320, [129, 3, 0], 0, 0), (.aload_n 0, [0], 0, 0), (.getfield 76, [7, 12, 2], 0, 0), (.iload_n 2, [2], 0, 0), (.invokevirtual 323, [128, 2, 0], 0, 0), (.invokevirtual 327, [130, 3, 7], 0, 0), (.iconst 1, [], 1, 0), (.ireturn, [0], 0, 0)]
def xk_125 : List (Nat × Nat) := [(0, 0), (1, 59), (4, 0), (5, 49), (8, 0), (11, 0), (12, 59), (15, 0), (16, 123), (19, 0), (22, 0), (23, 59), (26, 0), (27, 49), (30, 0), (33, 0), (34, 0), (35, 0), (36, 67), (39, 0), (40, 59), (43, 0), (44, 0), (45, 155), (48, 0), (49, 0), (50, 67), (53, 0), (54, 0), (55, 163), (58, 0), (59, 67), (62, 0), (63, 164), (66, 165), (69, 0), (70, 0)]
def xm_125 : xi_M := (7, "odds", "(III)I", prog_1_method_42_code, some .int, 1, xk_125)
/-- GuineaHours$Chances.settle(LGuineaHours$Town;II)V -/
def xc_126 : List xi_E := [(.aload_n 0, [0], 0, 0), (.aload_n 1, [1], 0, 0), (.putfield 15, [0, 0, 2], 0, 0), (.aload_n 0, [0], 0, 0), (.getfield 15, [0, 0, 2], 0, 0), (.getfield 19, [4, 0, 0], 0, 0), (.istore 4, [4], 0, 0), (.iload 4, [4], 0, 0), (.iload_n 2, [2], 0, 0), (.if_icmp .lt 88, [51], 0, 0), (.iload 4, [4], 0, 0), (.ifCond .lt 83, [51], 0, 0), (.iconst 0, [], 0, 0), (.istore 5, [5], 0, 0), (.iload 5, [5], 0, 0), (.aload_n 0, [0], 0, 0), (.getfield 15, [0, 0, 2], 0, 0), (.getfield 25, [4, 1, 0], 0, 0), (.if_icmp .ge 62, [49], 0, 0), (.iload 4, [4], 0, 0), (.aload_n 0, [0], 0, 0), (.getfield 15, [0, 0, 2], 0, 0), (.getfield 19, [4, 0, 0], 0, 0), (.if_icmp .ne 18, [32], 0, 0), (.iload 5, [5], 0, 0), (.iload_n 3, [3], 0, 0), (.if_icmp .ne 7, [29], 0, 0), (.iconst 1, [], 1, 0), (.goto 4, [30], 0, 0), (.iconst 0, [], 0, 0), (.i2l, [], 0, 0), (.goto 12, [37], 0, 0), (.aload_n 0, [0], 0, 0), (.iload 5, [5], 0, 0), (.iload 4, [4], 0, 0), (.iload_n 3, [3], 0, 0), (.invokevirtual 28, [127, 4, 0], 0, 0), (.lstore 6, [6], 0, 0), (.aload_n 0, [0], 0, 0), (.getfield 9, [0, 1, 2], 0, 0), (.iload 4, [4], 0, 0), (.bipush 7, [], 7, 0), (.imul, [], 0, 0), (.iload 5, [5], 0, 0), (.iadd, [], 0, 0), (.lload 6, [6], 0, 0), (.lastore, [], 0, 0), (.iinc 5 1, [5], 1, 0), (.goto (-68), [14], 0, 0), (.iinc 4 (-1), [4], (-1), 0), (.goto (-88), [7], 0, 0), (.return_, [], 0, 0)]
def xk_126 : List (Nat × Nat) := [(0, 0), (1, 0), (2, 51), (5, 0), (6, 51), (9, 2), (12, 0), (14, 0), (16, 0), (17, 0), (20, 0), (22, 0), (25, 0), (26, 0), (28, 0), (30, 0), (31, 51), (34, 7), (37, 0), (40, 0), (42, 0), (43, 51), (46, 2), (49, 0), (52, 0), (54, 0), (55, 0), (58, 0), (59, 0), (62, 0), (63, 0), (64, 0), (67, 0), (68, 0), (70, 0), (72, 0), (73, 156), (76, 0), (78, 0), (79, 52), (82, 0), (84, 0), (86, 0), (87, 0), (89, 0), (90, 0), (92, 0), (93, 0), (96, 0), (99, 0), (102, 0), (105, 0)]
def xm_126 : xi_M := (0, "settle", "(LGuineaHours$Town;II)V", prog_2_method_2_code, none, 1, xk_126)
/-- GuineaHours$Chances.shareByGiving(III)J -/
def xc_127 : List xi_E := [(.aload_n 0, [0], 0, 0), (.getfield 15, [0, 0, 2], 0, 0), (.iload_n 1, [1], 0, 0), (.iload_n 2, [2], 0, 0), (.invokevirtual 32, [56, 3, 4], 0, 0), (.istore 4, [4], 0, 0), (.iload 4, [4], 0, 0), (.invokestatic 36, [59, 1], 0, 0), (.istore 5, [5], 0, 0), (.iload 5, [5], 0, 0), (.ifCond .ne 18, [20], 0, 0), (.iload_n 3, [3], 0, 0), (.iconst (-1), [], (-1), 0), (.if_icmp .ne 11, [18], 0, 0), (.aload_n 0, [0], 0, 0), (.iload_n 2, [2], 0, 0), (.invokevirtual 42, [128, 2, 0], 0, 0), (.goto 4, [19], 0, 0), (.lconst 0, [], 0, 0), (.lreturn, [], 0, 0), (.lconst 0, [], 0, 0), (.lstore 6, [6], 0, 0), (.iconst 0, [], 0, 0), (.istore 8, [8], 0, 0), (.iload 8, [8], 0, 0), (.aload_n 0, [0], 0, 0), (.getfield 15, [0, 0, 2], 0, 0), (.getfield 25, [4, 1, 0], 0, 0), (.if_icmp .ge 33, [46], 0, 0), (.iload 4, [4], 0, 0), (.iload 8, [8], 0, 0), (.ishr, [], 0, 0), (.iconst 1, [], 1, 0), (.iand, [], 0, 0), (.ifCond .eq 17, [44], 0, 0), (.lload 6, [6], 0, 0), (.aload_n 0, [0], 0, 0), (.iload 8, [8], 0, 0), (.iload_n 2, [2], 0, 0), (.iconst 1, [], 1, 0), (.iadd, [], 0, 0), (.invokevirtual 46, [129, 3, 0], 0, 0), (.ladd, [], 0, 0), (.lstore 6, [6], 0, 0), (.iinc 8 1, [8], 1, 0), (.goto (-39), [24], 0, 0), (.lload 6, [6], 0, 0), (.bipush 60, [], 60, 0), (.iload 5, [5], 0, 0), (.idiv, [], 0, 0), (.i2l, [], 0, 0), (.lmul, [], 0, 0), (.lreturn, [], 0, 0)]
def xk_127 : List (Nat × Nat) := [(0, 0), (1, 51), (4, 0), (5, 0), (6, 157), (9, 0), (11, 0), (13, 158), (16, 0), (18, 0), (20, 0), (23, 0), (24, 0), (25, 0), (28, 0), (29, 0), (30, 159), (33, 0), (36, 0), (37, 0), (38, 0), (39, 0), (41, 0), (42, 0), (44, 0), (46, 0), (47, 51), (50, 7), (53, 0), (56, 0), (58, 0), (60, 0), (61, 0), (62, 0), (63, 0), (66, 0), (68, 0), (69, 0), (71, 0), (72, 0), (73, 0), (74, 160), (77, 0), (78, 0), (80, 0), (83, 0), (86, 0), (88, 0), (90, 0), (92, 0), (93, 0), (94, 0), (95, 0)]
def xm_127 : xi_M := (0, "shareByGiving", "(III)J", prog_2_method_3_code, some .long, 1, xk_127)
/-- GuineaHours$Chances.whole(I)J -/
def xc_128 : List xi_E := [(.lconst 1, [], 0, 1), (.lstore_n 2, [2], 0, 0), (.iload_n 1, [1], 0, 0), (.istore 4, [4], 0, 0), (.iload 4, [4], 0, 0), (.aload_n 0, [0], 0, 0), (.getfield 15, [0, 0, 2], 0, 0), (.getfield 19, [4, 0, 0], 0, 0), (.if_icmp .ge 15, [15], 0, 0), (.lload_n 2, [2], 0, 0), (.ldc2_w 57, [], 0, 60), (.lmul, [], 0, 0), (.lstore_n 2, [2], 0, 0), (.iinc 4 1, [4], 1, 0), (.goto (-21), [4], 0, 0), (.lload_n 2, [2], 0, 0), (.lreturn, [], 0, 0)]
def xk_128 : List (Nat × Nat) := [(0, 0), (1, 0), (2, 0), (3, 0), (5, 0), (7, 0), (8, 51), (11, 2), (14, 0), (17, 0), (18, 0), (21, 0), (22, 0), (23, 0), (26, 0), (29, 0), (30, 0)]
def xm_128 : xi_M := (0, "whole", "(I)J", prog_2_method_5_code, some .long, 1, xk_128)
/-- GuineaHours$Chances.shareOf(II)J -/
def xc_129 : List xi_E := [(.aload_n 0, [0], 0, 0), (.getfield 15, [0, 0, 2], 0, 0), (.iload_n 2, [2], 0, 0), (.invokevirtual 50, [103, 2, 4], 0, 0), (.ifCond .eq 28, [19], 0, 0), (.aload_n 0, [0], 0, 0), (.getfield 15, [0, 0, 2], 0, 0), (.iload_n 1, [1], 0, 0), (.invokevirtual 54, [37, 2, 4], 0, 0), (.ifCond .eq 17, [19], 0, 0), (.aload_n 0, [0], 0, 0), (.getfield 9, [0, 1, 2], 0, 0), (.iload_n 2, [2], 0, 0), (.bipush 7, [], 7, 0), (.imul, [], 0, 0), (.iload_n 1, [1], 0, 0), (.iadd, [], 0, 0), (.laload, [], 0, 0), (.goto 4, [20], 0, 0), (.lconst 0, [], 0, 0), (.lreturn, [], 0, 0)]
def xk_129 : List (Nat × Nat) := [(0, 0), (1, 51), (4, 0), (5, 161), (8, 0), (11, 0), (12, 51), (15, 0), (16, 162), (19, 0), (22, 0), (23, 52), (26, 0), (27, 0), (29, 0), (30, 0), (31, 0), (32, 0), (33, 0), (36, 0), (37, 0)]
def xm_129 : xi_M := (0, "shareOf", "(II)J", prog_2_method_4_code, some .long, 1, xk_129)
/-- GuineaHours.tellFraction(JJ)V -/
def xc_130 : List xi_E := [(.lload_n 1, [1], 0, 0), (.lload_n 3, [3], 0, 0), (.invokestatic 402, [131, 2], 0, 0), (.lstore 5, [5], 0, 0), (.lload 5, [5], 0, 0), (.lconst 0, [], 0, 0), (.lcmp, [], 0, 0), (.ifCond .le 19, [18], 0, 0), (.aload_n 0, [0], 0, 0), (.lload_n 1, [1], 0, 0), (.lload 5, [5], 0, 0), (.ldiv, [], 0, 0), (.putfield 91, [7, 15, 1], 0, 0), (.aload_n 0, [0], 0, 0), (.lload_n 3, [3], 0, 0), (.lload 5, [5], 0, 0), (.ldiv, [], 0, 0), (.putfield 95, [7, 16, 1], 0, 0), (.return_, [], 0, 0)]
def xk_130 : List (Nat × Nat) := [(0, 0), (1, 0), (2, 166), (5, 0), (7, 0), (9, 0), (10, 0), (11, 0), (14, 0), (15, 0), (16, 0), (18, 0), (19, 70), (22, 0), (23, 0), (24, 0), (26, 0), (27, 71), (30, 0)]
def xm_130 : xi_M := (7, "tellFraction", "(JJ)V", prog_1_method_73_code, none, 1, xk_130)
/-- GuineaHours.commonDivisor(JJ)J -/
def xc_131 : List xi_E := [(.lload_n 2, [2], 0, 0), (.lstore 4, [4], 0, 0), (.lload_n 0, [0], 0, 0), (.lstore 6, [6], 0, 0), (.iconst 0, [], 0, 0), (.istore 8, [8], 0, 0), (.iload 8, [8], 0, 0), (.sipush 1000, [], 1000, 0), (.if_icmp .ge 31, [23], 0, 0), (.lload 6, [6], 0, 0), (.lconst 0, [], 0, 0), (.lcmp, [], 0, 0), (.ifCond .le 24, [23], 0, 0), (.lload 4, [4], 0, 0), (.lload 6, [6], 0, 0), (.lrem, [], 0, 0), (.lstore 9, [9], 0, 0), (.lload 6, [6], 0, 0), (.lstore 4, [4], 0, 0), (.lload 9, [9], 0, 0), (.lstore 6, [6], 0, 0), (.iinc 8 1, [8], 1, 0), (.goto (-33), [6], 0, 0), (.lload 4, [4], 0, 0), (.lreturn, [], 0, 0)]
def xk_131 : List (Nat × Nat) := [(0, 0), (1, 0), (3, 0), (4, 0), (6, 0), (7, 0), (9, 0), (11, 0), (14, 0), (17, 0), (19, 0), (20, 0), (21, 0), (24, 0), (26, 0), (28, 0), (29, 0), (31, 0), (33, 0), (35, 0), (37, 0), (39, 0), (42, 0), (45, 0), (47, 0)]
def xm_131 : xi_M := (7, "commonDivisor", "(JJ)J", prog_1_method_74_code, some .long, 0, xk_131)
/-- GuineaHours.lost(II)I -/
def xc_132 : List xi_E := [(.aload_n 0, [0], 0, 0), (.getfield 29, [7, 4, 2], 0, 0), (.iload_n 1, [1], 0, 0), (.invokevirtual 158, [37, 2, 4], 0, 0), (.ifCond .eq 14, [10], 0, 0), (.aload_n 0, [0], 0, 0), (.getfield 29, [7, 4, 2], 0, 0), (.iload_n 2, [2], 0, 0), (.invokevirtual 268, [103, 2, 4], 0, 0), (.ifCond .ne 5, [12], 0, 0), (.iconst (-1), [], (-1), 0), (.ireturn, [0], 0, 0), (.aload_n 0, [0], 0, 0), (.getfield 76, [7, 12, 2], 0, 0), (.aload_n 0, [0], 0, 0), (.getfield 29, [7, 4, 2], 0, 0), (.iload_n 2, [2], 0, 0), (.iconst (-1), [], (-1), 0), (.invokevirtual 318, [126, 4, 0], 0, 0), (.aload_n 0, [0], 0, 0), (.aload_n 0, [0], 0, 0), (.getfield 76, [7, 12, 2], 0, 0), (.iload_n 1, [1], 0, 0), (.iload_n 2, [2], 0, 0), (.invokevirtual 320, [129, 3, 0], 0, 0), (.aload_n 0, [0], 0, 0), (.getfield 76, [7, 12, 2], 0, 0), (.iload_n 2, [2], 0, 0), (.invokevirtual 323, [128, 2, 0], 0, 0), (.invokevirtual 327, [130, 3, 7], 0, 0), (.iconst 1, [], 1, 0), (.ireturn, [0], 0, 0)]
def xk_132 : List (Nat × Nat) := [(0, 0), (1, 59), (4, 0), (5, 49), (8, 0), (11, 0), (12, 59), (15, 0), (16, 123), (19, 0), (22, 0), (23, 0), (24, 0), (25, 67), (28, 0), (29, 59), (32, 0), (33, 0), (34, 155), (37, 0), (38, 0), (39, 67), (42, 0), (43, 0), (44, 163), (47, 0), (48, 67), (51, 0), (52, 164), (55, 165), (58, 0), (59, 0)]
def xm_132 : xi_M := (7, "lost", "(II)I", prog_1_method_43_code, some .int, 1, xk_132)
/-- GuineaHours.send(III)I -/
def xc_133 : List xi_E := [(.aload_n 0, [0], 0, 0), (.getfield 29, [7, 4, 2], 0, 0), (.iload_n 1, [1], 0, 0), (.invokevirtual 158, [37, 2, 4], 0, 0), (.ifCond .eq 25, [15], 0, 0), (.aload_n 0, [0], 0, 0), (.getfield 29, [7, 4, 2], 0, 0), (.iload_n 2, [2], 0, 0), (.invokevirtual 164, [48, 2, 4], 0, 0), (.ifCond .eq 14, [15], 0, 0), (.aload_n 0, [0], 0, 0), (.getfield 29, [7, 4, 2], 0, 0), (.iload_n 3, [3], 0, 0), (.invokevirtual 158, [37, 2, 4], 0, 0), (.ifCond .ne 5, [17], 0, 0), (.iconst (-1), [], (-1), 0), (.ireturn, [0], 0, 0), (.aload_n 0, [0], 0, 0), (.getfield 76, [7, 12, 2], 0, 0), (.aload_n 0, [0], 0, 0), (.getfield 29, [7, 4, 2], 0, 0), (.iload_n 2, [2], 0, 0), (.iconst 1, [], 1, 0), (.iadd, [], 0, 0), (.iload_n 3, [3], 0, 0), (.invokevirtual 318, [126, 4, 0], 0, 0), (.aload_n 0, [0], 0, 0), (.getfield 29, [7, 4, 2], 0, 0), (.iload_n 1, [1], 0, 0), (.iload_n 2, [2], 0, 0), (.invokevirtual 196, [56, 3, 4], 0, 0), (.istore 4, [4], 0, 0), (.bipush (-9), [], (-9), 0), (.istore 5, [5], 0, 0), (.iconst 0, [], 0, 0), (.istore 6, [6], 0, 0), (.iload 6, [6], 0, 0), (.aload_n 0, [0], 0, 0), (.getfield 29, [7, 4, 2], 0, 0), (.getfield 155, [4, 1, 0], 0, 0), (.if_icmp .ge 70, [76], 0, 0), (.iload 4, [4], 0, 0), (.iload 6, [6], 0, 0), (.ishr, [], 0, 0), (.iconst 1, [], 1, 0), (.iand, [], 0, 0), (.ifCond .eq 7, [49], 0, 0), (.iconst 1, [], 1, 0), (.goto 4, [50], 0, 0), (.iconst 0, [], 0, 0), (.istore 7, [7], 0, 0), (.iload 7, [7], 0, 0), (.ifCond .eq 42, [74], 0, 0), (.iload 5, [5], 0, 0), (.bipush (-9), [], (-9), 0), (.if_icmp .eq 31, [72], 0, 0), (.aload_n 0, [0], 0, 0), (.getfield 76, [7, 12, 2], 0, 0), (.iload 6, [6], 0, 0), (.iload_n 2, [2], 0, 0), (.iconst 1, [], 1, 0), (.iadd, [], 0, 0), (.invokevirtual 320, [129, 3, 0], 0, 0), (.aload_n 0, [0], 0, 0), (.getfield 76, [7, 12, 2], 0, 0), (.iload 5, [5], 0, 0), (.iload_n 2, [2], 0, 0), (.iconst 1, [], 1, 0), (.iadd, [], 0, 0), (.invokevirtual 320, [129, 3, 0], 0, 0), (.lcmp, [], 0, 0), (.ifCond .le 7, [74], 0, 0), (.iload 6, [6], 0, 0), (.istore 5, [5], 0, 0), (.iinc 6 1, [6], 1, 0), (.goto (-76), [36], 0, 0), (.iload 5, [5], 0, 0), (.bipush (-9), [], (-9), 0), (.if_icmp .eq 29, [94], 0, 0), (.aload_n 0, [0], 0, 0), (.aload_n 0, [0], 0, 0), (.getfield 76, [7, 12, 2], 0, 0), (.iload 5, [5], 0, 0), (.iload_n 2, [2], 0, 0), (.iconst 1, [], 1, 0), (.iadd, [], 0, 0), (.invokevirtual 320, [129, 3, 0], 0, 0), (.aload_n 0, [0], 0, 0), (.getfield 76, [7, 12, 2], 0, 0), (.iload_n 2, [2], 0, 0), (.iconst 1, [], 1, 0), (.iadd, [], 0, 0), (.invokevirtual 323, [128, 2, 0], 0, 0), (.invokevirtual 327, [130, 3, 7], 0, 0), (.iload 5, [5], 0, 0), (.ireturn, [0], 0, 0)]
def xk_133 : List (Nat × Nat) := [(0, 0), (1, 59), (4, 0), (5, 49), (8, 0), (11, 0), (12, 59), (15, 0), (16, 55), (19, 0), (22, 0), (23, 59), (26, 0), (27, 49), (30, 0), (33, 0), (34, 0), (35, 0), (36, 67), (39, 0), (40, 59), (43, 0), (44, 0), (45, 0), (46, 0), (47, 155), (50, 0), (51, 59), (54, 0), (55, 0), (56, 66), (59, 0), (61, 0), (63, 0), (65, 0), (66, 0), (68, 0), (70, 0), (71, 59), (74, 10), (77, 0), (80, 0), (82, 0), (84, 0), (85, 0), (86, 0), (87, 0), (90, 0), (91, 0), (94, 0), (95, 0), (97, 0), (99, 0), (102, 0), (104, 0), (106, 0), (109, 0), (110, 67), (113, 0), (115, 0), (116, 0), (117, 0), (118, 163), (121, 0), (122, 67), (125, 0), (127, 0), (128, 0), (129, 0), (130, 163), (133, 0), (134, 0), (137, 0), (139, 0), (141, 0), (144, 0), (147, 0), (149, 0), (151, 0), (154, 0), (155, 0), (156, 67), (159, 0), (161, 0), (162, 0), (163, 0), (164, 163), (167, 0), (168, 67), (171, 0), (172, 0), (173, 0), (174, 164), (177, 165), (180, 0), (182, 0)]
def xm_133 : xi_M := (7, "send", "(III)I", prog_1_method_44_code, some .int, 1, xk_133)
/-- GuineaHours.two(II)I -/
def xc_134 : List xi_E := [(.aload_n 0, [0], 0, 0), (.getfield 29, [7, 4, 2], 0, 0), (.iload_n 1, [1], 0, 0), (.invokevirtual 158, [37, 2, 4], 0, 0), (.ifCond .eq 19, [13], 0, 0), (.aload_n 0, [0], 0, 0), (.getfield 29, [7, 4, 2], 0, 0), (.iload_n 2, [2], 0, 0), (.invokevirtual 158, [37, 2, 4], 0, 0), (.ifCond .eq 8, [13], 0, 0), (.iload_n 1, [1], 0, 0), (.iload_n 2, [2], 0, 0), (.if_icmp .ne 5, [15], 0, 0), (.iconst (-1), [], (-1), 0), (.ireturn, [0], 0, 0), (.aload_n 0, [0], 0, 0), (.getfield 83, [7, 13, 2], 0, 0), (.iload_n 1, [1], 0, 0), (.iload_n 2, [2], 0, 0), (.invokevirtual 331, [135, 3, 2], 0, 0), (.iconst 0, [], 0, 0), (.istore_n 3, [3], 0, 0), (.iload_n 3, [3], 0, 0), (.aload_n 0, [0], 0, 0), (.getfield 29, [7, 4, 2], 0, 0), (.getfield 199, [4, 0, 0], 0, 0), (.if_icmp .ge 24, [36], 0, 0), (.aload_n 0, [0], 0, 0), (.getfield 83, [7, 13, 2], 0, 0), (.aload_n 0, [0], 0, 0), (.getfield 29, [7, 4, 2], 0, 0), (.iload_n 3, [3], 0, 0), (.invokevirtual 333, [136, 3, 2], 0, 0), (.ifCond .eq 9, [36], 0, 0), (.iinc 3 1, [3], 1, 0), (.goto (-29), [22], 0, 0), (.iload_n 3, [3], 0, 0), (.ireturn, [0], 0, 0)]
def xk_134 : List (Nat × Nat) := [(0, 0), (1, 59), (4, 0), (5, 49), (8, 0), (11, 0), (12, 59), (15, 0), (16, 49), (19, 0), (22, 0), (23, 0), (24, 0), (27, 0), (28, 0), (29, 0), (30, 68), (33, 0), (34, 0), (35, 170), (38, 0), (39, 0), (40, 0), (41, 0), (42, 59), (45, 4), (48, 0), (51, 0), (52, 68), (55, 0), (56, 59), (59, 0), (60, 172), (63, 0), (66, 0), (69, 0), (72, 0), (73, 0)]
def xm_134 : xi_M := (7, "two", "(II)I", prog_1_method_45_code, some .int, 1, xk_134)
/-- GuineaHours$Pairs.startWith(II)V -/
def xc_135 : List xi_E := [(.aload_n 0, [0], 0, 0), (.getfield 9, [2, 0, 2], 0, 0), (.iconst 0, [], 0, 0), (.invokestatic 18, [8, 2], 0, 0), (.iload_n 1, [1], 0, 0), (.ifCond .lt 18, [16], 0, 0), (.iload_n 1, [1], 0, 0), (.bipush 7, [], 7, 0), (.if_icmp .ge 12, [16], 0, 0), (.aload_n 0, [0], 0, 0), (.getfield 9, [2, 0, 2], 0, 0), (.iload_n 1, [1], 0, 0), (.iconst 1, [], 1, 0), (.iload_n 2, [2], 0, 0), (.ishl, [], 0, 0), (.iastore, [], 0, 0), (.return_, [], 0, 0)]
def xk_135 : List (Nat × Nat) := [(0, 0), (1, 53), (4, 0), (5, 171), (8, 0), (9, 0), (12, 0), (13, 0), (15, 0), (18, 0), (19, 53), (22, 0), (23, 0), (24, 0), (25, 0), (26, 0), (27, 0)]
def xm_135 : xi_M := (2, "startWith", "(II)V", prog_4_method_2_code, none, 1, xk_135)
/-- GuineaHours$Pairs.giveBoth(LGuineaHours$Town;I)Z -/
def xc_136 : List xi_E := [(.aload_n 0, [0], 0, 0), (.getfield 9, [2, 0, 2], 0, 0), (.iconst 0, [], 0, 0), (.aload_n 0, [0], 0, 0), (.getfield 15, [2, 1, 2], 0, 0), (.iconst 0, [], 0, 0), (.bipush 7, [], 7, 0), (.invokestatic 24, [], 0, 0), (.aload_n 0, [0], 0, 0), (.getfield 9, [2, 0, 2], 0, 0), (.iconst 0, [], 0, 0), (.invokestatic 18, [8, 2], 0, 0), (.iconst 0, [], 0, 0), (.istore_n 3, [3], 0, 0), (.iconst 0, [], 0, 0), (.istore 4, [4], 0, 0), (.iload 4, [4], 0, 0), (.aload_n 1, [1], 0, 0), (.getfield 30, [4, 1, 0], 0, 0), (.if_icmp .ge 48, [43], 0, 0), (.aload_n 1, [1], 0, 0), (.iload 4, [4], 0, 0), (.iload_n 2, [2], 0, 0), (.invokevirtual 36, [56, 3, 4], 0, 0), (.istore 5, [5], 0, 0), (.aload_n 0, [0], 0, 0), (.aload_n 1, [1], 0, 0), (.iload_n 2, [2], 0, 0), (.iload 4, [4], 0, 0), (.invokevirtual 40, [137, 4, 2], 0, 0), (.istore 6, [6], 0, 0), (.iload 5, [5], 0, 0), (.ifCond .eq 18, [41], 0, 0), (.iload 6, [6], 0, 0), (.ifCond .eq 13, [41], 0, 0), (.iconst 1, [], 1, 0), (.istore_n 3, [3], 0, 0), (.aload_n 0, [0], 0, 0), (.iload 5, [5], 0, 0), (.iload 6, [6], 0, 0), (.invokevirtual 44, [138, 3, 2], 0, 0), (.iinc 4 1, [4], 1, 0), (.goto (-51), [16], 0, 0), (.iload_n 3, [3], 0, 0), (.ireturn, [1], 0, 0)]
def xk_136 : List (Nat × Nat) := [(0, 0), (1, 53), (4, 0), (5, 0), (6, 54), (9, 0), (10, 0), (12, 173), (15, 0), (16, 53), (19, 0), (20, 171), (23, 0), (24, 0), (25, 0), (26, 0), (28, 0), (30, 0), (31, 8), (34, 0), (37, 0), (38, 0), (40, 0), (41, 174), (44, 0), (46, 0), (47, 0), (48, 0), (49, 0), (51, 175), (54, 0), (56, 0), (58, 0), (61, 0), (63, 0), (66, 0), (67, 0), (68, 0), (69, 0), (71, 0), (73, 177), (76, 0), (79, 0), (82, 0), (83, 0)]
def xm_136 : xi_M := (2, "giveBoth", "(LGuineaHours$Town;I)Z", prog_4_method_3_code, some .boolean, 1, xk_136)
/-- GuineaHours$Pairs.takersFromOthers(LGuineaHours$Town;II)I -/
def xc_137 : List xi_E := [(.iconst 0, [], 0, 0), (.istore 4, [4], 0, 0), (.iconst 0, [], 0, 0), (.istore 5, [5], 0, 0), (.iload 5, [5], 0, 0), (.aload_n 1, [1], 0, 0), (.getfield 30, [4, 1, 0], 0, 0), (.if_icmp .ge 46, [32], 0, 0), (.aload_n 0, [0], 0, 0), (.getfield 15, [2, 1, 2], 0, 0), (.iload_n 3, [3], 0, 0), (.iaload, [], 0, 0), (.iload 5, [5], 0, 0), (.ishr, [], 0, 0), (.iconst 1, [], 1, 0), (.iand, [], 0, 0), (.ifCond .eq 26, [30], 0, 0), (.aload_n 1, [1], 0, 0), (.iload_n 3, [3], 0, 0), (.iload 5, [5], 0, 0), (.iload_n 2, [2], 0, 0), (.invokevirtual 48, [34, 4, 4], 0, 0), (.ifCond .ne 15, [30], 0, 0), (.iload 4, [4], 0, 0), (.aload_n 1, [1], 0, 0), (.iload 5, [5], 0, 0), (.iload_n 2, [2], 0, 0), (.invokevirtual 36, [56, 3, 4], 0, 0), (.ior, [], 0, 0), (.istore 4, [4], 0, 0), (.iinc 5 1, [5], 1, 0), (.goto (-49), [4], 0, 0), (.iload 4, [4], 0, 0), (.ireturn, [0], 0, 0)]
def xk_137 : List (Nat × Nat) := [(0, 0), (1, 0), (3, 0), (4, 0), (6, 0), (8, 0), (9, 8), (12, 0), (15, 0), (16, 54), (19, 0), (20, 0), (21, 0), (23, 0), (24, 0), (25, 0), (26, 0), (29, 0), (30, 0), (31, 0), (33, 0), (34, 176), (37, 0), (40, 0), (42, 0), (43, 0), (45, 0), (46, 174), (49, 0), (50, 0), (52, 0), (55, 0), (58, 0), (60, 0)]
def xm_137 : xi_M := (2, "takersFromOthers", "(LGuineaHours$Town;II)I", prog_4_method_4_code, some .int, 1, xk_137)
/-- GuineaHours$Pairs.addPairs(II)V -/
def xc_138 : List xi_E := [(.iconst 0, [], 0, 0), (.istore_n 3, [3], 0, 0), (.iload_n 3, [3], 0, 0), (.bipush 7, [], 7, 0), (.if_icmp .ge 27, [21], 0, 0), (.iload_n 1, [1], 0, 0), (.iload_n 3, [3], 0, 0), (.ishr, [], 0, 0), (.iconst 1, [], 1, 0), (.iand, [], 0, 0), (.ifCond .eq 13, [19], 0, 0), (.aload_n 0, [0], 0, 0), (.getfield 9, [2, 0, 2], 0, 0), (.iload_n 3, [3], 0, 0), (.dup2, [], 0, 0), (.iaload, [], 0, 0), (.iload_n 2, [2], 0, 0), (.ior, [], 0, 0), (.iastore, [], 0, 0), (.iinc 3 1, [3], 1, 0), (.goto (-27), [2], 0, 0), (.return_, [], 0, 0)]
def xk_138 : List (Nat × Nat) := [(0, 0), (1, 0), (2, 0), (3, 0), (5, 0), (8, 0), (9, 0), (10, 0), (11, 0), (12, 0), (13, 0), (16, 0), (17, 53), (20, 0), (21, 0), (22, 0), (23, 0), (24, 0), (25, 0), (26, 0), (29, 0), (32, 0)]
def xm_138 : xi_M := (2, "addPairs", "(II)V", prog_4_method_5_code, none, 1, xk_138)
/-- GuineaHours.lots(II)I -/
def xc_139 : List xi_E := [(.aload_n 0, [0], 0, 0), (.getfield 29, [7, 4, 2], 0, 0), (.iload_n 1, [1], 0, 0), (.invokevirtual 158, [37, 2, 4], 0, 0), (.ifCond .eq 25, [15], 0, 0), (.aload_n 0, [0], 0, 0), (.getfield 29, [7, 4, 2], 0, 0), (.getfield 199, [4, 0, 0], 0, 0), (.ifCond .eq 15, [15], 0, 0), (.iload_n 2, [2], 0, 0), (.iconst 1, [], 1, 0), (.if_icmp .lt 10, [15], 0, 0), (.iload_n 2, [2], 0, 0), (.ldc_w 337, [], 2147483647, 0), (.if_icmp .lt 5, [17], 0, 0), (.iconst (-1), [], (-1), 0), (.ireturn, [0], 0, 0), (.aload_n 0, [0], 0, 0), (.getfield 39, [7, 6, 2], 0, 0), (.iload_n 1, [1], 0, 0), (.invokevirtual 202, [58, 2, 1], 0, 0), (.iload_n 2, [2], 0, 0), (.i2l, [], 0, 0), (.lstore_n 3, [3], 0, 0), (.iconst 0, [], 0, 0), (.istore 5, [5], 0, 0), (.iload 5, [5], 0, 0), (.aload_n 0, [0], 0, 0), (.getfield 29, [7, 4, 2], 0, 0), (.getfield 199, [4, 0, 0], 0, 0), (.if_icmp .ge 54, [57], 0, 0), (.lload_n 3, [3], 0, 0), (.ldc2_w 338, [], 0, 48271), (.lmul, [], 0, 0), (.ldc2_w 340, [], 0, 2147483647), (.lrem, [], 0, 0), (.lstore_n 3, [3], 0, 0), (.aload_n 0, [0], 0, 0), (.invokevirtual 215, [62, 1, 7], 0, 0), (.istore 6, [6], 0, 0), (.iload 6, [6], 0, 0), (.ifCond .ne 6, [44], 0, 0), (.iload 5, [5], 0, 0), (.ireturn, [0], 0, 0), (.aload_n 0, [0], 0, 0), (.getfield 39, [7, 6, 2], 0, 0), (.iload 6, [6], 0, 0), (.lload_n 3, [3], 0, 0), (.iload 6, [6], 0, 0), (.invokestatic 206, [59, 1], 0, 0), (.i2l, [], 0, 0), (.lrem, [], 0, 0), (.l2i, [], 0, 0), (.invokestatic 342, [140, 2], 0, 0), (.invokevirtual 219, [69, 2, 1], 0, 0), (.iinc 5 1, [5], 1, 0), (.goto (-60), [26], 0, 0), (.aload_n 0, [0], 0, 0), (.getfield 39, [7, 6, 2], 0, 0), (.getfield 222, [1, 2, 0], 0, 0), (.ireturn, [0], 0, 0)]
def xk_139 : List (Nat × Nat) := [(0, 0), (1, 59), (4, 0), (5, 49), (8, 0), (11, 0), (12, 59), (15, 4), (18, 0), (21, 0), (22, 0), (23, 0), (26, 0), (27, 3), (30, 0), (33, 0), (34, 0), (35, 0), (36, 61), (39, 0), (40, 68), (43, 0), (44, 0), (45, 0), (46, 0), (47, 0), (49, 0), (51, 0), (52, 59), (55, 4), (58, 0), (61, 0), (62, 1), (65, 0), (66, 2), (69, 0), (70, 0), (71, 0), (72, 72), (75, 0), (77, 0), (79, 0), (82, 0), (84, 0), (85, 0), (86, 61), (89, 0), (91, 0), (92, 0), (94, 69), (97, 0), (98, 0), (99, 0), (100, 179), (103, 84), (106, 0), (109, 0), (112, 0), (113, 61), (116, 21), (119, 0)]
def xm_139 : xi_M := (7, "lots", "(II)I", prog_1_method_46_code, some .int, 1, xk_139)
/-- GuineaHours.bitAt(II)I -/
def xc_140 : List xi_E := [(.iload_n 1, [1], 0, 0), (.istore_n 2, [2], 0, 0), (.iconst 0, [], 0, 0), (.istore_n 3, [3], 0, 0), (.iload_n 3, [3], 0, 0), (.bipush 7, [], 7, 0), (.if_icmp .ge 26, [20], 0, 0), (.iload_n 0, [0], 0, 0), (.iload_n 3, [3], 0, 0), (.ishr, [], 0, 0), (.iconst 1, [], 1, 0), (.iand, [], 0, 0), (.ifCond .eq 12, [18], 0, 0), (.iload_n 2, [2], 0, 0), (.ifCond .ne 5, [17], 0, 0), (.iload_n 3, [3], 0, 0), (.ireturn, [0], 0, 0), (.iinc 2 (-1), [2], (-1), 0), (.iinc 3 1, [3], 1, 0), (.goto (-26), [4], 0, 0), (.iconst 0, [], 0, 0), (.ireturn, [0], 0, 0)]
def xk_140 : List (Nat × Nat) := [(0, 0), (1, 0), (2, 0), (3, 0), (4, 0), (5, 0), (7, 0), (10, 0), (11, 0), (12, 0), (13, 0), (14, 0), (15, 0), (18, 0), (19, 0), (22, 0), (23, 0), (24, 0), (27, 0), (30, 0), (33, 0), (34, 0)]
def xm_140 : xi_M := (7, "bitAt", "(II)I", prog_1_method_75_code, some .int, 0, xk_140)
/-- GuineaHours.asked()I -/
def xc_141 : List xi_E := [(.aload_n 0, [0], 0, 0), (.getfield 87, [7, 14, 0], 0, 0), (.ireturn, [0], 0, 0)]
def xk_141 : List (Nat × Nat) := [(0, 0), (1, 69), (4, 0)]
def xm_141 : xi_M := (7, "asked", "()I", prog_1_method_47_code, some .int, 1, xk_141)
/-- GuineaHours.upper()J -/
def xc_142 : List xi_E := [(.aload_n 0, [0], 0, 0), (.getfield 91, [7, 15, 1], 0, 0), (.lreturn, [], 0, 0)]
def xk_142 : List (Nat × Nat) := [(0, 0), (1, 70), (4, 0)]
def xm_142 : xi_M := (7, "upper", "()J", prog_1_method_48_code, some .long, 1, xk_142)
/-- GuineaHours.lower()J -/
def xc_143 : List xi_E := [(.aload_n 0, [0], 0, 0), (.getfield 95, [7, 16, 1], 0, 0), (.lreturn, [], 0, 0)]
def xk_143 : List (Nat × Nat) := [(0, 0), (1, 71), (4, 0)]
def xm_143 : xi_M := (7, "lower", "()J", prog_1_method_49_code, some .long, 1, xk_143)
/-- GuineaHours.count(I)I -/
def xc_144 : List xi_E := [(.iload_n 1, [1], 0, 0), (.tableswitch 124 0 7 #[47, 55, 63, 86, 95, 103, 108, 116], [40, 2, 6, 10, 20, 25, 29, 32, 36], 0, 0), (.aload_n 0, [0], 0, 0), (.getfield 29, [7, 4, 2], 0, 0), (.getfield 155, [4, 1, 0], 0, 0), (.ireturn, [0], 0, 0), (.aload_n 0, [0], 0, 0), (.getfield 29, [7, 4, 2], 0, 0), (.getfield 199, [4, 0, 0], 0, 0), (.ireturn, [0], 0, 0), (.aload_n 0, [0], 0, 0), (.getfield 39, [7, 6, 2], 0, 0), (.invokevirtual 211, [61, 1, 1], 0, 0), (.ifCond .eq 13, [18], 0, 0), (.aload_n 0, [0], 0, 0), (.getfield 39, [7, 6, 2], 0, 0), (.getfield 222, [1, 2, 0], 0, 0), (.goto 5, [19], 0, 0), (.bipush (-9), [], (-9), 0), (.ireturn, [0], 0, 0), (.aload_n 0, [0], 0, 0), (.getfield 29, [7, 4, 2], 0, 0), (.iconst 3, [], 3, 0), (.invokevirtual 186, [52, 2, 4], 0, 0), (.ireturn, [0], 0, 0), (.aload_n 0, [0], 0, 0), (.getfield 50, [7, 8, 2], 0, 0), (.getfield 296, [3, 0, 0], 0, 0), (.ireturn, [0], 0, 0), (.aload_n 0, [0], 0, 0), (.invokevirtual 345, [145, 1, 7], 0, 0), (.ireturn, [0], 0, 0), (.aload_n 0, [0], 0, 0), (.getfield 14, [7, 1, 2], 0, 0), (.invokestatic 348, [146, 1], 0, 0), (.ireturn, [0], 0, 0), (.aload_n 0, [0], 0, 0), (.getfield 23, [7, 3, 2], 0, 0), (.invokestatic 348, [146, 1], 0, 0), (.ireturn, [0], 0, 0), (.iconst (-1), [], (-1), 0), (.ireturn, [0], 0, 0)]
def xk_144 : List (Nat × Nat) := [(0, 0), (1, 0), (48, 0), (49, 59), (52, 10), (55, 0), (56, 0), (57, 59), (60, 4), (63, 0), (64, 0), (65, 61), (68, 71), (71, 0), (74, 0), (75, 61), (78, 21), (81, 0), (84, 0), (86, 0), (87, 0), (88, 59), (91, 0), (92, 61), (95, 0), (96, 0), (97, 63), (100, 26), (103, 0), (104, 0), (105, 184), (108, 0), (109, 0), (110, 56), (113, 185), (116, 0), (117, 0), (118, 58), (121, 185), (124, 0), (125, 0), (126, 0)]
def xm_144 : xi_M := (7, "count", "(I)I", prog_1_method_50_code, some .int, 1, xk_144)
/-- GuineaHours.countKept()I -/
def xc_145 : List xi_E := [(.iconst 0, [], 0, 0), (.istore_n 1, [1], 0, 0), (.iconst 0, [], 0, 0), (.istore_n 2, [2], 0, 0), (.iload_n 2, [2], 0, 0), (.iconst 3, [], 3, 0), (.if_icmp .ge 24, [16], 0, 0), (.aload_n 0, [0], 0, 0), (.getfield 43, [7, 7, 2], 0, 0), (.iload_n 2, [2], 0, 0), (.aaload, [], 0, 0), (.invokevirtual 211, [61, 1, 1], 0, 0), (.ifCond .eq 6, [14], 0, 0), (.iinc 1 1, [1], 1, 0), (.iinc 2 1, [2], 1, 0), (.goto (-23), [4], 0, 0), (.iload_n 1, [1], 0, 0), (.ireturn, [0], 0, 0)]
def xk_145 : List (Nat × Nat) := [(0, 0), (1, 0), (2, 0), (3, 0), (4, 0), (5, 0), (6, 0), (9, 0), (10, 62), (13, 0), (14, 0), (15, 71), (18, 0), (21, 0), (24, 0), (27, 0), (30, 0), (31, 0)]
def xm_145 : xi_M := (7, "countKept", "()I", prog_1_method_76_code, some .int, 1, xk_145)
/-- GuineaHours.countThere([I)I -/
def xc_146 : List xi_E := [(.iconst 0, [], 0, 0), (.istore_n 1, [1], 0, 0), (.iconst 0, [], 0, 0), (.istore_n 2, [2], 0, 0), (.iload_n 2, [2], 0, 0), (.aload_n 0, [0], 0, 0), (.arraylength, [], 0, 0), (.if_icmp .ge 18, [15], 0, 0), (.aload_n 0, [0], 0, 0), (.iload_n 2, [2], 0, 0), (.iaload, [], 0, 0), (.ifCond .lt 6, [13], 0, 0), (.iinc 1 1, [1], 1, 0), (.iinc 2 1, [2], 1, 0), (.goto (-18), [4], 0, 0), (.iload_n 1, [1], 0, 0), (.ireturn, [0], 0, 0)]
def xk_146 : List (Nat × Nat) := [(0, 0), (1, 0), (2, 0), (3, 0), (4, 0), (5, 0), (6, 0), (7, 0), (10, 0), (11, 0), (12, 0), (13, 0), (16, 0), (19, 0), (22, 0), (25, 0), (26, 0)]
def xm_146 : xi_M := (7, "countThere", "([I)I", prog_1_method_77_code, some .int, 0, xk_146)
/-- GuineaHours.finding()I -/
def xc_147 : List xi_E := [(.aload_n 0, [0], 0, 0), (.getfield 98, [7, 17, 0], 0, 0), (.ireturn, [0], 0, 0)]
def xk_147 : List (Nat × Nat) := [(0, 0), (1, 72), (4, 0)]
def xm_147 : xi_M := (7, "finding", "()I", prog_1_method_51_code, some .int, 1, xk_147)
/-- GuineaHours.findings(I)I -/
def xc_148 : List xi_E := [(.iload_n 1, [1], 0, 0), (.iconst 1, [], 1, 0), (.if_icmp .lt 8, [6], 0, 0), (.iload_n 1, [1], 0, 0), (.iconst 5, [], 5, 0), (.if_icmp .le 5, [8], 0, 0), (.iconst (-1), [], (-1), 0), (.ireturn, [0], 0, 0), (.aload_n 0, [0], 0, 0), (.getfield 101, [7, 18, 2], 0, 0), (.iload_n 1, [1], 0, 0), (.iaload, [], 0, 0), (.ireturn, [0], 0, 0)]
def xk_148 : List (Nat × Nat) := [(0, 0), (1, 0), (2, 0), (5, 0), (6, 0), (7, 0), (10, 0), (11, 0), (12, 0), (13, 73), (16, 0), (17, 0), (18, 0)]
def xm_148 : xi_M := (7, "findings", "(I)I", prog_1_method_52_code, some .int, 1, xk_148)
/-- GuineaHours.digest()J -/
def xc_149 : List xi_E := [(.ldc2_w 351, [], 0, 17), (.lstore_n 1, [1], 0, 0), (.iconst 0, [], 0, 0), (.istore_n 3, [3], 0, 0), (.iload_n 3, [3], 0, 0), (.bipush 7, [], 7, 0), (.if_icmp .gt 22, [18], 0, 0), (.ldc2_w 353, [], 0, 31), (.lload_n 1, [1], 0, 0), (.lmul, [], 0, 0), (.aload_n 0, [0], 0, 0), (.iload_n 3, [3], 0, 0), (.invokevirtual 355, [144, 2, 7], 0, 0), (.i2l, [], 0, 0), (.ladd, [], 0, 0), (.lstore_n 1, [1], 0, 0), (.iinc 3 1, [3], 1, 0), (.goto (-22), [4], 0, 0), (.ldc2_w 353, [], 0, 31), (.lload_n 1, [1], 0, 0), (.lmul, [], 0, 0), (.aload_n 0, [0], 0, 0), (.getfield 39, [7, 6, 2], 0, 0), (.getfield 177, [1, 0, 0], 0, 0), (.i2l, [], 0, 0), (.ladd, [], 0, 0), (.lstore_n 1, [1], 0, 0), (.ldc2_w 353, [], 0, 31), (.lload_n 1, [1], 0, 0), (.lmul, [], 0, 0), (.aload_n 0, [0], 0, 0), (.getfield 39, [7, 6, 2], 0, 0), (.getfield 193, [1, 1, 0], 0, 0), (.i2l, [], 0, 0), (.ladd, [], 0, 0), (.lstore_n 1, [1], 0, 0), (.aload_n 0, [0], 0, 0), (.lload_n 1, [1], 0, 0), (.invokevirtual 357, [150, 2, 7], 0, 0), (.lstore_n 1, [1], 0, 0), (.iconst 0, [], 0, 0), (.istore_n 3, [3], 0, 0), (.iload_n 3, [3], 0, 0), (.aload_n 0, [0], 0, 0), (.getfield 39, [7, 6, 2], 0, 0), (.getfield 222, [1, 2, 0], 0, 0), (.if_icmp .gt 32, [63], 0, 0), (.iload_n 3, [3], 0, 0), (.bipush 6, [], 6, 0), (.if_icmp .ge 26, [63], 0, 0), (.ldc2_w 353, [], 0, 31), (.lload_n 1, [1], 0, 0), (.lmul, [], 0, 0), (.aload_n 0, [0], 0, 0), (.getfield 39, [7, 6, 2], 0, 0), (.getfield 361, [1, 3, 2], 0, 0), (.iload_n 3, [3], 0, 0), (.iaload, [], 0, 0), (.i2l, [], 0, 0), (.ladd, [], 0, 0), (.lstore_n 1, [1], 0, 0), (.iinc 3 1, [3], 1, 0), (.goto (-37), [42], 0, 0), (.iconst 0, [], 0, 0), (.istore_n 3, [3], 0, 0), (.iload_n 3, [3], 0, 0), (.aload_n 0, [0], 0, 0), (.getfield 50, [7, 8, 2], 0, 0), (.getfield 296, [3, 0, 0], 0, 0), (.if_icmp .ge 66, [108], 0, 0), (.iload_n 3, [3], 0, 0), (.bipush 8, [], 8, 0), (.if_icmp .ge 60, [108], 0, 0), (.ldc2_w 353, [], 0, 31), (.lload_n 1, [1], 0, 0), (.lmul, [], 0, 0), (.aload_n 0, [0], 0, 0), (.getfield 50, [7, 8, 2], 0, 0), (.getfield 364, [3, 2, 2], 0, 0), (.iload_n 3, [3], 0, 0), (.iaload, [], 0, 0), (.i2l, [], 0, 0), (.ladd, [], 0, 0), (.lstore_n 1, [1], 0, 0), (.ldc2_w 353, [], 0, 31), (.lload_n 1, [1], 0, 0), (.lmul, [], 0, 0), (.aload_n 0, [0], 0, 0), (.getfield 50, [7, 8, 2], 0, 0), (.getfield 366, [3, 3, 2], 0, 0), (.iload_n 3, [3], 0, 0), (.iaload, [], 0, 0), (.i2l, [], 0, 0), (.ladd, [], 0, 0), (.lstore_n 1, [1], 0, 0), (.ldc2_w 353, [], 0, 31), (.lload_n 1, [1], 0, 0), (.lmul, [], 0, 0), (.aload_n 0, [0], 0, 0), (.getfield 50, [7, 8, 2], 0, 0), (.getfield 369, [3, 4, 2], 0, 0), (.iload_n 3, [3], 0, 0), (.iaload, [], 0, 0), (.i2l, [], 0, 0), (.ladd, [], 0, 0), (.lstore_n 1, [1], 0, 0), (.iinc 3 1, [3], 1, 0), (.goto (-71), [65], 0, 0), (.iconst 0, [], 0, 0), (.istore_n 3, [3], 0, 0), (.iload_n 3, [3], 0, 0), (.iconst 3, [], 3, 0), (.if_icmp .ge 26, [126], 0, 0), (.ldc2_w 353, [], 0, 31), (.lload_n 1, [1], 0, 0), (.lmul, [], 0, 0), (.aload_n 0, [0], 0, 0), (.getfield 43, [7, 7, 2], 0, 0), (.iload_n 3, [3], 0, 0), (.aaload, [], 0, 0), (.getfield 222, [1, 2, 0], 0, 0), (.i2l, [], 0, 0), (.ladd, [], 0, 0), (.lstore_n 1, [1], 0, 0), (.iinc 3 1, [3], 1, 0), (.goto (-25), [110], 0, 0), (.aload_n 0, [0], 0, 0), (.aload_n 0, [0], 0, 0), (.lload_n 1, [1], 0, 0), (.invokevirtual 372, [151, 2, 7], 0, 0), (.invokevirtual 375, [152, 2, 7], 0, 0), (.lreturn, [], 0, 0)]
def xk_149 : List (Nat × Nat) := [(0, 3), (3, 0), (4, 0), (5, 0), (6, 0), (7, 0), (9, 0), (12, 4), (15, 0), (16, 0), (17, 0), (18, 0), (19, 189), (22, 0), (23, 0), (24, 0), (25, 0), (28, 0), (31, 4), (34, 0), (35, 0), (36, 0), (37, 61), (40, 16), (43, 0), (44, 0), (45, 0), (46, 4), (49, 0), (50, 0), (51, 0), (52, 61), (55, 18), (58, 0), (59, 0), (60, 0), (61, 0), (62, 0), (63, 190), (66, 0), (67, 0), (68, 0), (69, 0), (70, 0), (71, 61), (74, 21), (77, 0), (80, 0), (81, 0), (83, 0), (86, 4), (89, 0), (90, 0), (91, 0), (92, 61), (95, 24), (98, 0), (99, 0), (100, 0), (101, 0), (102, 0), (103, 0), (106, 0), (109, 0), (110, 0), (111, 0), (112, 0), (113, 63), (116, 26), (119, 0), (122, 0), (123, 0), (125, 0), (128, 4), (131, 0), (132, 0), (133, 0), (134, 63), (137, 30), (140, 0), (141, 0), (142, 0), (143, 0), (144, 0), (145, 4), (148, 0), (149, 0), (150, 0), (151, 63), (154, 32), (157, 0), (158, 0), (159, 0), (160, 0), (161, 0), (162, 4), (165, 0), (166, 0), (167, 0), (168, 63), (171, 34), (174, 0), (175, 0), (176, 0), (177, 0), (178, 0), (179, 0), (182, 0), (185, 0), (186, 0), (187, 0), (188, 0), (189, 0), (192, 4), (195, 0), (196, 0), (197, 0), (198, 62), (201, 0), (202, 0), (203, 21), (206, 0), (207, 0), (208, 0), (209, 0), (212, 0), (215, 0), (216, 0), (217, 0), (218, 191), (221, 192), (224, 0)]
def xm_149 : xi_M := (7, "digest", "()J", prog_1_method_53_code, some .long, 1, xk_149)
/-- GuineaHours.digestPeople(J)J -/
def xc_150 : List xi_E := [(.lload_n 1, [1], 0, 0), (.lstore_n 3, [3], 0, 0), (.iconst 0, [], 0, 0), (.istore 5, [5], 0, 0), (.iload 5, [5], 0, 0), (.aload_n 0, [0], 0, 0), (.getfield 29, [7, 4, 2], 0, 0), (.getfield 155, [4, 1, 0], 0, 0), (.if_icmp .ge 80, [48], 0, 0), (.iconst 0, [], 0, 0), (.istore 6, [6], 0, 0), (.iload 6, [6], 0, 0), (.iconst 2, [], 2, 0), (.if_icmp .gt 25, [26], 0, 0), (.ldc2_w 353, [], 0, 31), (.lload_n 3, [3], 0, 0), (.lmul, [], 0, 0), (.aload_n 0, [0], 0, 0), (.iload 5, [5], 0, 0), (.iload 6, [6], 0, 0), (.invokevirtual 161, [44, 3, 7], 0, 0), (.i2l, [], 0, 0), (.ladd, [], 0, 0), (.lstore_n 3, [3], 0, 0), (.iinc 6 1, [6], 1, 0), (.goto (-25), [11], 0, 0), (.iconst 0, [], 0, 0), (.istore 6, [6], 0, 0), (.iload 6, [6], 0, 0), (.aload_n 0, [0], 0, 0), (.getfield 29, [7, 4, 2], 0, 0), (.getfield 199, [4, 0, 0], 0, 0), (.if_icmp .ge 28, [46], 0, 0), (.ldc2_w 353, [], 0, 31), (.lload_n 3, [3], 0, 0), (.lmul, [], 0, 0), (.aload_n 0, [0], 0, 0), (.getfield 29, [7, 4, 2], 0, 0), (.iload 5, [5], 0, 0), (.iload 6, [6], 0, 0), (.invokevirtual 167, [35, 3, 4], 0, 0), (.i2l, [], 0, 0), (.ladd, [], 0, 0), (.lstore_n 3, [3], 0, 0), (.iinc 6 1, [6], 1, 0), (.goto (-34), [28], 0, 0), (.iinc 5 1, [5], 1, 0), (.goto (-86), [4], 0, 0), (.lload_n 3, [3], 0, 0), (.lreturn, [], 0, 0)]
def xk_150 : List (Nat × Nat) := [(0, 0), (1, 0), (2, 0), (3, 0), (5, 0), (7, 0), (8, 59), (11, 10), (14, 0), (17, 0), (18, 0), (20, 0), (22, 0), (23, 0), (26, 4), (29, 0), (30, 0), (31, 0), (32, 0), (34, 0), (36, 50), (39, 0), (40, 0), (41, 0), (42, 0), (45, 0), (48, 0), (49, 0), (51, 0), (53, 0), (54, 59), (57, 4), (60, 0), (63, 4), (66, 0), (67, 0), (68, 0), (69, 59), (72, 0), (74, 0), (76, 56), (79, 0), (80, 0), (81, 0), (82, 0), (85, 0), (88, 0), (91, 0), (94, 0), (95, 0)]
def xm_150 : xi_M := (7, "digestPeople", "(J)J", prog_1_method_78_code, some .long, 1, xk_150)
/-- GuineaHours.digestRows(J)J -/
def xc_151 : List xi_E := [(.lload_n 1, [1], 0, 0), (.lstore_n 3, [3], 0, 0), (.iconst 0, [], 0, 0), (.istore 5, [5], 0, 0), (.iload 5, [5], 0, 0), (.bipush 6, [], 6, 0), (.if_icmp .ge 70, [44], 0, 0), (.ldc2_w 353, [], 0, 31), (.lload_n 3, [3], 0, 0), (.lmul, [], 0, 0), (.aload_n 0, [0], 0, 0), (.getfield 14, [7, 1, 2], 0, 0), (.iload 5, [5], 0, 0), (.iaload, [], 0, 0), (.i2l, [], 0, 0), (.ladd, [], 0, 0), (.lstore_n 3, [3], 0, 0), (.iconst 0, [], 0, 0), (.istore 6, [6], 0, 0), (.iload 6, [6], 0, 0), (.aload_n 0, [0], 0, 0), (.getfield 14, [7, 1, 2], 0, 0), (.iload 5, [5], 0, 0), (.iaload, [], 0, 0), (.if_icmp .ge 34, [42], 0, 0), (.iload 6, [6], 0, 0), (.bipush 40, [], 40, 0), (.if_icmp .ge 27, [42], 0, 0), (.ldc2_w 353, [], 0, 31), (.lload_n 3, [3], 0, 0), (.lmul, [], 0, 0), (.aload_n 0, [0], 0, 0), (.getfield 11, [7, 0, 2], 0, 0), (.iload 5, [5], 0, 0), (.aaload, [], 0, 0), (.iload 6, [6], 0, 0), (.iaload, [], 0, 0), (.i2l, [], 0, 0), (.ladd, [], 0, 0), (.lstore_n 3, [3], 0, 0), (.iinc 6 1, [6], 1, 0), (.goto (-40), [19], 0, 0), (.iinc 5 1, [5], 1, 0), (.goto (-71), [4], 0, 0), (.lload_n 3, [3], 0, 0), (.lreturn, [], 0, 0)]
def xk_151 : List (Nat × Nat) := [(0, 0), (1, 0), (2, 0), (3, 0), (5, 0), (7, 0), (9, 0), (12, 4), (15, 0), (16, 0), (17, 0), (18, 56), (21, 0), (23, 0), (24, 0), (25, 0), (26, 0), (27, 0), (28, 0), (30, 0), (32, 0), (33, 56), (36, 0), (38, 0), (39, 0), (42, 0), (44, 0), (46, 0), (49, 4), (52, 0), (53, 0), (54, 0), (55, 55), (58, 0), (60, 0), (61, 0), (63, 0), (64, 0), (65, 0), (66, 0), (67, 0), (70, 0), (73, 0), (76, 0), (79, 0), (80, 0)]
def xm_151 : xi_M := (7, "digestRows", "(J)J", prog_1_method_79_code, some .long, 1, xk_151)
/-- GuineaHours.digestTexts(J)J -/
def xc_152 : List xi_E := [(.lload_n 1, [1], 0, 0), (.lstore_n 3, [3], 0, 0), (.iconst 0, [], 0, 0), (.istore 5, [5], 0, 0), (.iload 5, [5], 0, 0), (.iconst 4, [], 4, 0), (.if_icmp .ge 70, [44], 0, 0), (.ldc2_w 353, [], 0, 31), (.lload_n 3, [3], 0, 0), (.lmul, [], 0, 0), (.aload_n 0, [0], 0, 0), (.getfield 23, [7, 3, 2], 0, 0), (.iload 5, [5], 0, 0), (.iaload, [], 0, 0), (.i2l, [], 0, 0), (.ladd, [], 0, 0), (.lstore_n 3, [3], 0, 0), (.iconst 0, [], 0, 0), (.istore 6, [6], 0, 0), (.iload 6, [6], 0, 0), (.aload_n 0, [0], 0, 0), (.getfield 23, [7, 3, 2], 0, 0), (.iload 5, [5], 0, 0), (.iaload, [], 0, 0), (.if_icmp .ge 34, [42], 0, 0), (.iload 6, [6], 0, 0), (.bipush 80, [], 80, 0), (.if_icmp .ge 27, [42], 0, 0), (.ldc2_w 353, [], 0, 31), (.lload_n 3, [3], 0, 0), (.lmul, [], 0, 0), (.aload_n 0, [0], 0, 0), (.getfield 20, [7, 2, 2], 0, 0), (.iload 5, [5], 0, 0), (.aaload, [], 0, 0), (.iload 6, [6], 0, 0), (.baload, [], 0, 0), (.i2l, [], 0, 0), (.ladd, [], 0, 0), (.lstore_n 3, [3], 0, 0), (.iinc 6 1, [6], 1, 0), (.goto (-40), [19], 0, 0), (.iinc 5 1, [5], 1, 0), (.goto (-70), [4], 0, 0), (.lload_n 3, [3], 0, 0), (.lreturn, [], 0, 0)]
def xk_152 : List (Nat × Nat) := [(0, 0), (1, 0), (2, 0), (3, 0), (5, 0), (7, 0), (8, 0), (11, 4), (14, 0), (15, 0), (16, 0), (17, 58), (20, 0), (22, 0), (23, 0), (24, 0), (25, 0), (26, 0), (27, 0), (29, 0), (31, 0), (32, 58), (35, 0), (37, 0), (38, 0), (41, 0), (43, 0), (45, 0), (48, 4), (51, 0), (52, 0), (53, 0), (54, 57), (57, 0), (59, 0), (60, 0), (62, 0), (63, 0), (64, 0), (65, 0), (66, 0), (69, 0), (72, 0), (75, 0), (78, 0), (79, 0)]
def xm_152 : xi_M := (7, "digestTexts", "(J)J", prog_1_method_80_code, some .long, 1, xk_152)
/-- GuineaHoursModel.<init>()V -/
def xc_153 : List xi_E := [(.aload_n 0, [0], 0, 0), (.invokespecial 1, [], 0, 0), (.aload_n 0, [0], 0, 0), (.bipush 6, [], 6, 0), (.newarray .int, [9], 0, 0), (.putfield 7, [8, 1, 2], 0, 0), (.aload_n 0, [0], 0, 0), (.lconst 1, [], 0, 1), (.putfield 13, [8, 4, 1], 0, 0), (.aload_n 0, [0], 0, 0), (.bipush 6, [], 6, 0), (.newarray .int, [9], 0, 0), (.putfield 17, [8, 5, 2], 0, 0), (.aload_n 0, [0], 0, 0), (.sipush 240, [], 240, 0), (.newarray .int, [9], 0, 0), (.putfield 20, [8, 6, 2], 0, 0), (.aload_n 0, [0], 0, 0), (.bipush 40, [], 40, 0), (.newarray .int, [9], 0, 0), (.putfield 23, [8, 7, 2], 0, 0), (.aload_n 0, [0], 0, 0), (.iconst 4, [], 4, 0), (.newarray .int, [9], 0, 0), (.putfield 26, [8, 8, 2], 0, 0), (.aload_n 0, [0], 0, 0), (.sipush 320, [], 320, 0), (.newarray .int, [9], 0, 0), (.putfield 29, [8, 9, 2], 0, 0), (.aload_n 0, [0], 0, 0), (.bipush 98, [], 98, 0), (.newarray .int, [9], 0, 0), (.putfield 32, [8, 12, 2], 0, 0), (.aload_n 0, [0], 0, 0), (.iconst 3, [], 3, 0), (.putfield 35, [8, 16, 0], 0, 0), (.aload_n 0, [0], 0, 0), (.bipush 6, [], 6, 0), (.newarray .int, [9], 0, 0), (.putfield 39, [8, 19, 2], 0, 0), (.aload_n 0, [0], 0, 0), (.bipush 6, [], 6, 0), (.newarray .int, [9], 0, 0), (.putfield 42, [8, 20, 2], 0, 0), (.aload_n 0, [0], 0, 0), (.bipush 6, [], 6, 0), (.newarray .int, [9], 0, 0), (.putfield 45, [8, 25, 2], 0, 0), (.aload_n 0, [0], 0, 0), (.bipush 42, [], 42, 0), (.newarray .int, [9], 0, 0), (.putfield 48, [8, 26, 2], 0, 0), (.aload_n 0, [0], 0, 0), (.bipush 30, [], 30, 0), (.newarray .int, [9], 0, 0), (.putfield 51, [8, 28, 2], 0, 0), (.aload_n 0, [0], 0, 0), (.bipush 24, [], 24, 0), (.newarray .int, [9], 0, 0), (.putfield 54, [8, 31, 2], 0, 0), (.iconst 0, [], 0, 0), (.istore_n 1, [1], 0, 0), (.iload_n 1, [1], 0, 0), (.bipush 6, [], 6, 0), (.if_icmp .ge 17, [72], 0, 0), (.aload_n 0, [0], 0, 0), (.getfield 17, [8, 5, 2], 0, 0), (.iload_n 1, [1], 0, 0), (.bipush (-9), [], (-9), 0), (.iastore, [], 0, 0), (.iinc 1 1, [1], 1, 0), (.goto (-17), [62], 0, 0), (.iconst 0, [], 0, 0), (.istore_n 1, [1], 0, 0), (.iload_n 1, [1], 0, 0), (.iconst 4, [], 4, 0), (.if_icmp .ge 17, [84], 0, 0), (.aload_n 0, [0], 0, 0), (.getfield 26, [8, 8, 2], 0, 0), (.iload_n 1, [1], 0, 0), (.bipush (-9), [], (-9), 0), (.iastore, [], 0, 0), (.iinc 1 1, [1], 1, 0), (.goto (-16), [74], 0, 0), (.iconst 0, [], 0, 0), (.istore_n 1, [1], 0, 0), (.iload_n 1, [1], 0, 0), (.iconst 3, [], 3, 0), (.if_icmp .ge 20, [98], 0, 0), (.aload_n 0, [0], 0, 0), (.getfield 51, [8, 28, 2], 0, 0), (.bipush 10, [], 10, 0), (.iload_n 1, [1], 0, 0), (.imul, [], 0, 0), (.bipush (-9), [], (-9), 0), (.iastore, [], 0, 0), (.iinc 1 1, [1], 1, 0), (.goto (-19), [86], 0, 0), (.aload_n 0, [0], 0, 0), (.bipush (-9), [], (-9), 0), (.putfield 57, [8, 18, 0], 0, 0), (.return_, [], 0, 0)]
def xk_153 : List (Nat × Nat) := [(0, 0), (1, 194), (4, 0), (5, 0), (7, 0), (9, 75), (12, 0), (13, 0), (14, 78), (17, 0), (18, 0), (20, 0), (22, 79), (25, 0), (26, 0), (29, 0), (31, 80), (34, 0), (35, 0), (37, 0), (39, 81), (42, 0), (43, 0), (44, 0), (46, 82), (49, 0), (50, 0), (53, 0), (55, 83), (58, 0), (59, 0), (61, 0), (63, 86), (66, 0), (67, 0), (68, 90), (71, 0), (72, 0), (74, 0), (76, 93), (79, 0), (80, 0), (82, 0), (84, 94), (87, 0), (88, 0), (90, 0), (92, 99), (95, 0), (96, 0), (98, 0), (100, 100), (103, 0), (104, 0), (106, 0), (108, 102), (111, 0), (112, 0), (114, 0), (116, 105), (119, 0), (120, 0), (121, 0), (122, 0), (124, 0), (127, 0), (128, 79), (131, 0), (132, 0), (134, 0), (135, 0), (138, 0), (141, 0), (142, 0), (143, 0), (144, 0), (145, 0), (148, 0), (149, 82), (152, 0), (153, 0), (155, 0), (156, 0), (159, 0), (162, 0), (163, 0), (164, 0), (165, 0), (166, 0), (169, 0), (170, 102), (173, 0), (175, 0), (176, 0), (177, 0), (179, 0), (180, 0), (183, 0), (186, 0), (187, 0), (189, 92), (192, 0)]
def xm_153 : xi_M := (8, "<init>", "()V", prog_10_method_1_code, none, 2, xk_153)
/-- GuineaHoursModel.row(II)I -/
def xc_154 : List xi_E := [(.iload_n 1, [1], 0, 0), (.invokestatic 73, [155, 1], 0, 0), (.ifCond .eq 9, [6], 0, 0), (.iload_n 2, [2], 0, 0), (.bipush 40, [], 40, 0), (.if_icmp .le 5, [8], 0, 0), (.iconst (-1), [], (-1), 0), (.ireturn, [0], 0, 0), (.iload_n 2, [2], 0, 0), (.ifCond .ge 9, [14], 0, 0), (.aload_n 0, [0], 0, 0), (.iconst 5, [], 5, 0), (.invokevirtual 77, [157, 2, 8], 0, 0), (.ireturn, [0], 0, 0), (.aload_n 0, [0], 0, 0), (.getfield 17, [8, 5, 2], 0, 0), (.iload_n 1, [1], 0, 0), (.iload_n 2, [2], 0, 0), (.iastore, [], 0, 0), (.iconst 0, [], 0, 0), (.istore_n 3, [3], 0, 0), (.iload_n 3, [3], 0, 0), (.bipush 40, [], 40, 0), (.if_icmp .ge 16, [31], 0, 0), (.aload_n 0, [0], 0, 0), (.iload_n 1, [1], 0, 0), (.iload_n 3, [3], 0, 0), (.iconst 0, [], 0, 0), (.invokevirtual 84, [158, 4, 8], 0, 0), (.iinc 3 1, [3], 1, 0), (.goto (-16), [21], 0, 0), (.iload_n 2, [2], 0, 0), (.ireturn, [0], 0, 0)]
def xk_154 : List (Nat × Nat) := [(0, 0), (1, 196), (4, 0), (7, 0), (8, 0), (10, 0), (13, 0), (14, 0), (15, 0), (16, 0), (19, 0), (20, 0), (21, 198), (24, 0), (25, 0), (26, 79), (29, 0), (30, 0), (31, 0), (32, 0), (33, 0), (34, 0), (35, 0), (37, 0), (40, 0), (41, 0), (42, 0), (43, 0), (44, 199), (47, 0), (50, 0), (53, 0), (54, 0)]
def xm_154 : xi_M := (8, "row", "(II)I", prog_10_method_15_code, some .int, 1, xk_154)
/-- GuineaHoursModel.isRow(I)Z -/
def xc_155 : List xi_E := [(.iload_n 0, [0], 0, 0), (.iconst 0, [], 0, 0), (.iconst 5, [], 5, 0), (.invokestatic 69, [156, 3], 0, 0), (.ireturn, [1], 0, 0)]
def xk_155 : List (Nat × Nat) := [(0, 0), (1, 0), (2, 0), (3, 197), (6, 0)]
def xm_155 : xi_M := (8, "isRow", "(I)Z", prog_10_method_9_code, some .boolean, 0, xk_155)
/-- GuineaHoursModel.in(III)Z -/
def xc_156 : List xi_E := [(.iload_n 0, [0], 0, 0), (.iload_n 1, [1], 0, 0), (.if_icmp .lt 12, [8], 0, 0), (.iload_n 0, [0], 0, 0), (.iload_n 2, [2], 0, 0), (.if_icmp .gt 7, [8], 0, 0), (.iconst 1, [], 1, 0), (.goto 4, [9], 0, 0), (.iconst 0, [], 0, 0), (.ireturn, [1], 0, 0)]
def xk_156 : List (Nat × Nat) := [(0, 0), (1, 0), (2, 0), (5, 0), (6, 0), (7, 0), (10, 0), (11, 0), (14, 0), (15, 0)]
def xm_156 : xi_M := (8, "in", "(III)Z", prog_10_method_3_code, some .boolean, 0, xk_156)
/-- GuineaHoursModel.meet(I)I -/
def xc_157 : List xi_E := [(.aload_n 0, [0], 0, 0), (.iload_n 1, [1], 0, 0), (.putfield 60, [8, 0, 0], 0, 0), (.aload_n 0, [0], 0, 0), (.getfield 7, [8, 1, 2], 0, 0), (.iload_n 1, [1], 0, 0), (.dup2, [], 0, 0), (.iaload, [], 0, 0), (.iconst 1, [], 1, 0), (.iadd, [], 0, 0), (.iastore, [], 0, 0), (.bipush (-3), [], (-3), 0), (.ireturn, [0], 0, 0)]
def xk_157 : List (Nat × Nat) := [(0, 0), (1, 0), (2, 74), (5, 0), (6, 75), (9, 0), (10, 0), (11, 0), (12, 0), (13, 0), (14, 0), (15, 0), (17, 0)]
def xm_157 : xi_M := (8, "meet", "(I)I", prog_10_method_4_code, some .int, 1, xk_157)
/-- GuineaHoursModel.setRow(III)V -/
def xc_158 : List xi_E := [(.aload_n 0, [0], 0, 0), (.getfield 20, [8, 6, 2], 0, 0), (.bipush 40, [], 40, 0), (.iload_n 1, [1], 0, 0), (.imul, [], 0, 0), (.iload_n 2, [2], 0, 0), (.iadd, [], 0, 0), (.iload_n 3, [3], 0, 0), (.iastore, [], 0, 0), (.return_, [], 0, 0)]
def xk_158 : List (Nat × Nat) := [(0, 0), (1, 80), (4, 0), (6, 0), (7, 0), (8, 0), (9, 0), (10, 0), (11, 0), (12, 0)]
def xm_158 : xi_M := (8, "setRow", "(III)V", prog_10_method_14_code, none, 1, xk_158)
/-- GuineaHoursModel.at(II)I -/
def xc_159 : List xi_E := [(.aload_n 0, [0], 0, 0), (.iload_n 1, [1], 0, 0), (.invokevirtual 88, [160, 2, 8], 0, 0), (.istore_n 3, [3], 0, 0), (.iload_n 3, [3], 0, 0), (.ifCond .ge 5, [8], 0, 0), (.iload_n 3, [3], 0, 0), (.ireturn, [0], 0, 0), (.iload_n 2, [2], 0, 0), (.iconst 0, [], 0, 0), (.aload_n 0, [0], 0, 0), (.getfield 17, [8, 5, 2], 0, 0), (.iload_n 1, [1], 0, 0), (.iaload, [], 0, 0), (.iconst 1, [], 1, 0), (.isub, [], 0, 0), (.invokestatic 69, [156, 3], 0, 0), (.ifCond .eq 17, [26], 0, 0), (.aload_n 0, [0], 0, 0), (.aload_n 0, [0], 0, 0), (.iload_n 1, [1], 0, 0), (.iload_n 2, [2], 0, 0), (.invokevirtual 91, [161, 3, 8], 0, 0), (.iconst 1, [], 1, 0), (.invokevirtual 95, [162, 3, 8], 0, 0), (.goto 8, [29], 0, 0), (.aload_n 0, [0], 0, 0), (.iconst 2, [], 2, 0), (.invokevirtual 77, [157, 2, 8], 0, 0), (.ireturn, [0], 0, 0)]
def xk_159 : List (Nat × Nat) := [(0, 0), (1, 0), (2, 201), (5, 0), (6, 0), (7, 0), (10, 0), (11, 0), (12, 0), (13, 0), (14, 0), (15, 79), (18, 0), (19, 0), (20, 0), (21, 0), (22, 197), (25, 0), (28, 0), (29, 0), (30, 0), (31, 0), (32, 202), (35, 0), (36, 203), (39, 0), (42, 0), (43, 0), (44, 198), (47, 0)]
def xm_159 : xi_M := (8, "at", "(II)I", prog_10_method_16_code, some .int, 1, xk_159)
/-- GuineaHoursModel.askedRow(I)I -/
def xc_160 : List xi_E := [(.iload_n 1, [1], 0, 0), (.invokestatic 73, [155, 1], 0, 0), (.ifCond .ne 7, [5], 0, 0), (.iconst (-1), [], (-1), 0), (.goto 21, [15], 0, 0), (.aload_n 0, [0], 0, 0), (.getfield 17, [8, 5, 2], 0, 0), (.iload_n 1, [1], 0, 0), (.iaload, [], 0, 0), (.ifCond .ge 11, [14], 0, 0), (.aload_n 0, [0], 0, 0), (.iconst 1, [], 1, 0), (.invokevirtual 77, [157, 2, 8], 0, 0), (.goto 4, [15], 0, 0), (.iconst 0, [], 0, 0), (.ireturn, [0], 0, 0)]
def xk_160 : List (Nat × Nat) := [(0, 0), (1, 196), (4, 0), (7, 0), (8, 0), (11, 0), (12, 79), (15, 0), (16, 0), (17, 0), (20, 0), (21, 0), (22, 198), (25, 0), (28, 0), (29, 0)]
def xm_160 : xi_M := (8, "askedRow", "(I)I", prog_10_method_11_code, some .int, 1, xk_160)
/-- GuineaHoursModel.rowAt(II)I -/
def xc_161 : List xi_E := [(.aload_n 0, [0], 0, 0), (.getfield 20, [8, 6, 2], 0, 0), (.bipush 40, [], 40, 0), (.iload_n 1, [1], 0, 0), (.imul, [], 0, 0), (.iload_n 2, [2], 0, 0), (.iadd, [], 0, 0), (.iaload, [], 0, 0), (.ireturn, [0], 0, 0)]
def xk_161 : List (Nat × Nat) := [(0, 0), (1, 80), (4, 0), (6, 0), (7, 0), (8, 0), (9, 0), (10, 0), (11, 0)]
def xm_161 : xi_M := (8, "rowAt", "(II)I", prog_10_method_13_code, some .int, 1, xk_161)
/-- GuineaHoursModel.say(II)I -/
def xc_162 : List xi_E := [(.aload_n 0, [0], 0, 0), (.iload_n 1, [1], 0, 0), (.putfield 63, [8, 2, 0], 0, 0), (.iload_n 2, [2], 0, 0), (.ireturn, [0], 0, 0)]
def xk_162 : List (Nat × Nat) := [(0, 0), (1, 0), (2, 76), (5, 0), (6, 0)]
def xm_162 : xi_M := (8, "say", "(II)I", prog_10_method_5_code, some .int, 1, xk_162)
/-- GuineaHoursModel.lay(III)I -/
def xc_163 : List xi_E := [(.aload_n 0, [0], 0, 0), (.iload_n 1, [1], 0, 0), (.iload_n 2, [2], 0, 0), (.invokevirtual 98, [159, 3, 8], 0, 0), (.istore 4, [4], 0, 0), (.iload 4, [4], 0, 0), (.ifCond .ge 6, [9], 0, 0), (.iload 4, [4], 0, 0), (.ireturn, [0], 0, 0), (.aload_n 0, [0], 0, 0), (.iload_n 1, [1], 0, 0), (.iload_n 2, [2], 0, 0), (.iload_n 3, [3], 0, 0), (.invokevirtual 84, [158, 4, 8], 0, 0), (.iconst 1, [], 1, 0), (.ireturn, [0], 0, 0)]
def xk_163 : List (Nat × Nat) := [(0, 0), (1, 0), (2, 0), (3, 205), (6, 0), (8, 0), (10, 0), (13, 0), (15, 0), (16, 0), (17, 0), (18, 0), (19, 0), (20, 199), (23, 0), (24, 0)]
def xm_163 : xi_M := (8, "lay", "(III)I", prog_10_method_17_code, some .int, 1, xk_163)
/-- GuineaHoursModel.tear(I)I -/
def xc_164 : List xi_E := [(.aload_n 0, [0], 0, 0), (.iload_n 1, [1], 0, 0), (.invokevirtual 88, [160, 2, 8], 0, 0), (.istore_n 2, [2], 0, 0), (.iload_n 2, [2], 0, 0), (.ifCond .ge 5, [8], 0, 0), (.iload_n 2, [2], 0, 0), (.ireturn, [0], 0, 0), (.aload_n 0, [0], 0, 0), (.getfield 17, [8, 5, 2], 0, 0), (.iload_n 1, [1], 0, 0), (.bipush (-9), [], (-9), 0), (.iastore, [], 0, 0), (.iconst 1, [], 1, 0), (.ireturn, [0], 0, 0)]
def xk_164 : List (Nat × Nat) := [(0, 0), (1, 0), (2, 201), (5, 0), (6, 0), (7, 0), (10, 0), (11, 0), (12, 0), (13, 79), (16, 0), (17, 0), (19, 0), (20, 0), (21, 0)]
def xm_164 : xi_M := (8, "tear", "(I)I", prog_10_method_18_code, some .int, 1, xk_164)
/-- GuineaHoursModel.copy(IIIII)I -/
def xc_165 : List xi_E := [(.iload_n 1, [1], 0, 0), (.invokestatic 73, [155, 1], 0, 0), (.ifCond .eq 10, [6], 0, 0), (.iload_n 3, [3], 0, 0), (.invokestatic 73, [155, 1], 0, 0), (.ifCond .ne 5, [8], 0, 0), (.iconst (-1), [], (-1), 0), (.ireturn, [0], 0, 0), (.iload 5, [5], 0, 0), (.ifCond .ge 9, [14], 0, 0), (.aload_n 0, [0], 0, 0), (.iconst 5, [], 5, 0), (.invokevirtual 77, [157, 2, 8], 0, 0), (.ireturn, [0], 0, 0), (.aload_n 0, [0], 0, 0), (.getfield 17, [8, 5, 2], 0, 0), (.iload_n 1, [1], 0, 0), (.iaload, [], 0, 0), (.ifCond .lt 12, [24], 0, 0), (.aload_n 0, [0], 0, 0), (.getfield 17, [8, 5, 2], 0, 0), (.iload_n 3, [3], 0, 0), (.iaload, [], 0, 0), (.ifCond .ge 9, [28], 0, 0), (.aload_n 0, [0], 0, 0), (.iconst 1, [], 1, 0), (.invokevirtual 77, [157, 2, 8], 0, 0), (.ireturn, [0], 0, 0), (.iload_n 2, [2], 0, 0), (.ifCond .lt 43, [56], 0, 0), (.iload 4, [4], 0, 0), (.ifCond .lt 38, [56], 0, 0), (.iload_n 2, [2], 0, 0), (.i2l, [], 0, 0), (.iload 5, [5], 0, 0), (.i2l, [], 0, 0), (.ladd, [], 0, 0), (.aload_n 0, [0], 0, 0), (.getfield 17, [8, 5, 2], 0, 0), (.iload_n 1, [1], 0, 0), (.iaload, [], 0, 0), (.i2l, [], 0, 0), (.lcmp, [], 0, 0), (.ifCond .gt 21, [56], 0, 0), (.iload 4, [4], 0, 0), (.i2l, [], 0, 0), (.iload 5, [5], 0, 0), (.i2l, [], 0, 0), (.ladd, [], 0, 0), (.aload_n 0, [0], 0, 0), (.getfield 17, [8, 5, 2], 0, 0), (.iload_n 3, [3], 0, 0), (.iaload, [], 0, 0), (.i2l, [], 0, 0), (.lcmp, [], 0, 0), (.ifCond .le 9, [60], 0, 0), (.aload_n 0, [0], 0, 0), (.iconst 2, [], 2, 0), (.invokevirtual 77, [157, 2, 8], 0, 0), (.ireturn, [0], 0, 0), (.iconst 0, [], 0, 0), (.istore 6, [6], 0, 0), (.iload 6, [6], 0, 0), (.iload 5, [5], 0, 0), (.if_icmp .ge 25, [77], 0, 0), (.aload_n 0, [0], 0, 0), (.getfield 23, [8, 7, 2], 0, 0), (.iload 6, [6], 0, 0), (.aload_n 0, [0], 0, 0), (.iload_n 1, [1], 0, 0), (.iload_n 2, [2], 0, 0), (.iload 6, [6], 0, 0), (.iadd, [], 0, 0), (.invokevirtual 91, [161, 3, 8], 0, 0), (.iastore, [], 0, 0), (.iinc 6 1, [6], 1, 0), (.goto (-26), [62], 0, 0), (.iconst 0, [], 0, 0), (.istore 6, [6], 0, 0), (.iload 6, [6], 0, 0), (.iload 5, [5], 0, 0), (.if_icmp .ge 26, [94], 0, 0), (.aload_n 0, [0], 0, 0), (.iload_n 3, [3], 0, 0), (.iload 4, [4], 0, 0), (.iload 6, [6], 0, 0), (.iadd, [], 0, 0), (.aload_n 0, [0], 0, 0), (.getfield 23, [8, 7, 2], 0, 0), (.iload 6, [6], 0, 0), (.iaload, [], 0, 0), (.invokevirtual 84, [158, 4, 8], 0, 0), (.iinc 6 1, [6], 1, 0), (.goto (-27), [79], 0, 0), (.iconst 1, [], 1, 0), (.ireturn, [0], 0, 0)]
def xk_165 : List (Nat × Nat) := [(0, 0), (1, 196), (4, 0), (7, 0), (8, 196), (11, 0), (14, 0), (15, 0), (16, 0), (18, 0), (21, 0), (22, 0), (23, 198), (26, 0), (27, 0), (28, 79), (31, 0), (32, 0), (33, 0), (36, 0), (37, 79), (40, 0), (41, 0), (42, 0), (45, 0), (46, 0), (47, 198), (50, 0), (51, 0), (52, 0), (55, 0), (57, 0), (60, 0), (61, 0), (62, 0), (64, 0), (65, 0), (66, 0), (67, 79), (70, 0), (71, 0), (72, 0), (73, 0), (74, 0), (77, 0), (79, 0), (80, 0), (82, 0), (83, 0), (84, 0), (85, 79), (88, 0), (89, 0), (90, 0), (91, 0), (92, 0), (95, 0), (96, 0), (97, 198), (100, 0), (101, 0), (102, 0), (104, 0), (106, 0), (108, 0), (111, 0), (112, 81), (115, 0), (117, 0), (118, 0), (119, 0), (120, 0), (122, 0), (123, 202), (126, 0), (127, 0), (130, 0), (133, 0), (134, 0), (136, 0), (138, 0), (140, 0), (143, 0), (144, 0), (145, 0), (147, 0), (149, 0), (150, 0), (151, 81), (154, 0), (156, 0), (157, 199), (160, 0), (163, 0), (166, 0), (167, 0)]
def xm_165 : xi_M := (8, "copy", "(IIIII)I", prog_10_method_19_code, some .int, 1, xk_165)
/-- GuineaHoursModel.mean(I)I -/
def xc_166 : List xi_E := [(.aload_n 0, [0], 0, 0), (.iload_n 1, [1], 0, 0), (.invokevirtual 88, [160, 2, 8], 0, 0), (.istore_n 2, [2], 0, 0), (.iload_n 2, [2], 0, 0), (.ifCond .ge 5, [8], 0, 0), (.iload_n 2, [2], 0, 0), (.ireturn, [0], 0, 0), (.lconst 0, [], 0, 0), (.lstore_n 3, [3], 0, 0), (.iconst 0, [], 0, 0), (.istore 5, [5], 0, 0), (.iload 5, [5], 0, 0), (.aload_n 0, [0], 0, 0), (.getfield 17, [8, 5, 2], 0, 0), (.iload_n 1, [1], 0, 0), (.iaload, [], 0, 0), (.if_icmp .ge 20, [28], 0, 0), (.lload_n 3, [3], 0, 0), (.aload_n 0, [0], 0, 0), (.iload_n 1, [1], 0, 0), (.iload 5, [5], 0, 0), (.invokevirtual 91, [161, 3, 8], 0, 0), (.i2l, [], 0, 0), (.ladd, [], 0, 0), (.lstore_n 3, [3], 0, 0), (.iinc 5 1, [5], 1, 0), (.goto (-25), [12], 0, 0), (.aload_n 0, [0], 0, 0), (.getfield 17, [8, 5, 2], 0, 0), (.iload_n 1, [1], 0, 0), (.iaload, [], 0, 0), (.ifCond .ne 11, [37], 0, 0), (.aload_n 0, [0], 0, 0), (.iconst 4, [], 4, 0), (.invokevirtual 77, [157, 2, 8], 0, 0), (.goto 18, [48], 0, 0), (.aload_n 0, [0], 0, 0), (.lload_n 3, [3], 0, 0), (.aload_n 0, [0], 0, 0), (.getfield 17, [8, 5, 2], 0, 0), (.iload_n 1, [1], 0, 0), (.iaload, [], 0, 0), (.i2l, [], 0, 0), (.ldiv, [], 0, 0), (.l2i, [], 0, 0), (.iconst 1, [], 1, 0), (.invokevirtual 95, [162, 3, 8], 0, 0), (.ireturn, [0], 0, 0)]
def xk_166 : List (Nat × Nat) := [(0, 0), (1, 0), (2, 201), (5, 0), (6, 0), (7, 0), (10, 0), (11, 0), (12, 0), (13, 0), (14, 0), (15, 0), (17, 0), (19, 0), (20, 79), (23, 0), (24, 0), (25, 0), (28, 0), (29, 0), (30, 0), (31, 0), (33, 202), (36, 0), (37, 0), (38, 0), (39, 0), (42, 0), (45, 0), (46, 79), (49, 0), (50, 0), (51, 0), (54, 0), (55, 0), (56, 198), (59, 0), (62, 0), (63, 0), (64, 0), (65, 79), (68, 0), (69, 0), (70, 0), (71, 0), (72, 0), (73, 0), (74, 203), (77, 0)]
def xm_166 : xi_M := (8, "mean", "(I)I", prog_10_method_20_code, some .int, 1, xk_166)
/-- GuineaHoursModel.text(II)I -/
def xc_167 : List xi_E := [(.iload_n 1, [1], 0, 0), (.invokestatic 81, [168, 1], 0, 0), (.ifCond .eq 9, [6], 0, 0), (.iload_n 2, [2], 0, 0), (.bipush 80, [], 80, 0), (.if_icmp .le 5, [8], 0, 0), (.iconst (-1), [], (-1), 0), (.ireturn, [0], 0, 0), (.iload_n 2, [2], 0, 0), (.ifCond .ge 9, [14], 0, 0), (.aload_n 0, [0], 0, 0), (.iconst 5, [], 5, 0), (.invokevirtual 77, [157, 2, 8], 0, 0), (.ireturn, [0], 0, 0), (.aload_n 0, [0], 0, 0), (.getfield 26, [8, 8, 2], 0, 0), (.iload_n 1, [1], 0, 0), (.iload_n 2, [2], 0, 0), (.iastore, [], 0, 0), (.iconst 0, [], 0, 0), (.istore_n 3, [3], 0, 0), (.iload_n 3, [3], 0, 0), (.bipush 80, [], 80, 0), (.if_icmp .ge 22, [35], 0, 0), (.aload_n 0, [0], 0, 0), (.getfield 29, [8, 9, 2], 0, 0), (.bipush 80, [], 80, 0), (.iload_n 1, [1], 0, 0), (.imul, [], 0, 0), (.iload_n 3, [3], 0, 0), (.iadd, [], 0, 0), (.bipush 32, [], 32, 0), (.iastore, [], 0, 0), (.iinc 3 1, [3], 1, 0), (.goto (-22), [21], 0, 0), (.iload_n 2, [2], 0, 0), (.ireturn, [0], 0, 0)]
def xk_167 : List (Nat × Nat) := [(0, 0), (1, 210), (4, 0), (7, 0), (8, 0), (10, 0), (13, 0), (14, 0), (15, 0), (16, 0), (19, 0), (20, 0), (21, 198), (24, 0), (25, 0), (26, 82), (29, 0), (30, 0), (31, 0), (32, 0), (33, 0), (34, 0), (35, 0), (37, 0), (40, 0), (41, 83), (44, 0), (46, 0), (47, 0), (48, 0), (49, 0), (50, 0), (52, 0), (53, 0), (56, 0), (59, 0), (60, 0)]
def xm_167 : xi_M := (8, "text", "(II)I", prog_10_method_21_code, some .int, 1, xk_167)
/-- GuineaHoursModel.isText(I)Z -/
def xc_168 : List xi_E := [(.iload_n 0, [0], 0, 0), (.iconst 0, [], 0, 0), (.iconst 3, [], 3, 0), (.invokestatic 69, [156, 3], 0, 0), (.ireturn, [1], 0, 0)]
def xk_168 : List (Nat × Nat) := [(0, 0), (1, 0), (2, 0), (3, 197), (6, 0)]
def xm_168 : xi_M := (8, "isText", "(I)Z", prog_10_method_10_code, some .boolean, 0, xk_168)
/-- GuineaHoursModel.put(III)I -/
def xc_169 : List xi_E := [(.aload_n 0, [0], 0, 0), (.iload_n 1, [1], 0, 0), (.invokevirtual 101, [170, 2, 8], 0, 0), (.istore 4, [4], 0, 0), (.iload 4, [4], 0, 0), (.ifCond .ge 6, [8], 0, 0), (.iload 4, [4], 0, 0), (.ireturn, [0], 0, 0), (.iload_n 2, [2], 0, 0), (.iconst 0, [], 0, 0), (.aload_n 0, [0], 0, 0), (.getfield 26, [8, 8, 2], 0, 0), (.iload_n 1, [1], 0, 0), (.iaload, [], 0, 0), (.iconst 1, [], 1, 0), (.isub, [], 0, 0), (.invokestatic 69, [156, 3], 0, 0), (.ifCond .ne 9, [22], 0, 0), (.aload_n 0, [0], 0, 0), (.iconst 2, [], 2, 0), (.invokevirtual 77, [157, 2, 8], 0, 0), (.ireturn, [0], 0, 0), (.aload_n 0, [0], 0, 0), (.getfield 29, [8, 9, 2], 0, 0), (.bipush 80, [], 80, 0), (.iload_n 1, [1], 0, 0), (.imul, [], 0, 0), (.iload_n 2, [2], 0, 0), (.iadd, [], 0, 0), (.iaload, [], 0, 0), (.istore 5, [5], 0, 0), (.aload_n 0, [0], 0, 0), (.getfield 29, [8, 9, 2], 0, 0), (.bipush 80, [], 80, 0), (.iload_n 1, [1], 0, 0), (.imul, [], 0, 0), (.iload_n 2, [2], 0, 0), (.iadd, [], 0, 0), (.iload_n 3, [3], 0, 0), (.i2b, [], 0, 0), (.iastore, [], 0, 0), (.iload 5, [5], 0, 0), (.sipush 1000, [], 1000, 0), (.iadd, [], 0, 0), (.ireturn, [0], 0, 0)]
def xk_169 : List (Nat × Nat) := [(0, 0), (1, 0), (2, 212), (5, 0), (7, 0), (9, 0), (12, 0), (14, 0), (15, 0), (16, 0), (17, 0), (18, 82), (21, 0), (22, 0), (23, 0), (24, 0), (25, 197), (28, 0), (31, 0), (32, 0), (33, 198), (36, 0), (37, 0), (38, 83), (41, 0), (43, 0), (44, 0), (45, 0), (46, 0), (47, 0), (48, 0), (50, 0), (51, 83), (54, 0), (56, 0), (57, 0), (58, 0), (59, 0), (60, 0), (61, 0), (62, 0), (63, 0), (65, 0), (68, 0), (69, 0)]
def xm_169 : xi_M := (8, "put", "(III)I", prog_10_method_22_code, some .int, 1, xk_169)
/-- GuineaHoursModel.askedText(I)I -/
def xc_170 : List xi_E := [(.iload_n 1, [1], 0, 0), (.invokestatic 81, [168, 1], 0, 0), (.ifCond .ne 7, [5], 0, 0), (.iconst (-1), [], (-1), 0), (.goto 21, [15], 0, 0), (.aload_n 0, [0], 0, 0), (.getfield 26, [8, 8, 2], 0, 0), (.iload_n 1, [1], 0, 0), (.iaload, [], 0, 0), (.ifCond .ge 11, [14], 0, 0), (.aload_n 0, [0], 0, 0), (.iconst 1, [], 1, 0), (.invokevirtual 77, [157, 2, 8], 0, 0), (.goto 4, [15], 0, 0), (.iconst 0, [], 0, 0), (.ireturn, [0], 0, 0)]
def xk_170 : List (Nat × Nat) := [(0, 0), (1, 210), (4, 0), (7, 0), (8, 0), (11, 0), (12, 82), (15, 0), (16, 0), (17, 0), (20, 0), (21, 0), (22, 198), (25, 0), (28, 0), (29, 0)]
def xm_170 : xi_M := (8, "askedText", "(I)I", prog_10_method_12_code, some .int, 1, xk_170)
/-- GuineaHoursModel.fault(I)I -/
def xc_171 : List xi_E := [(.aload_n 0, [0], 0, 0), (.iload_n 1, [1], 0, 0), (.invokevirtual 101, [170, 2, 8], 0, 0), (.istore_n 2, [2], 0, 0), (.iload_n 2, [2], 0, 0), (.ifCond .ge 7, [8], 0, 0), (.iload_n 2, [2], 0, 0), (.goto 8, [11], 0, 0), (.aload_n 0, [0], 0, 0), (.iload_n 1, [1], 0, 0), (.invokevirtual 125, [172, 2, 8], 0, 0), (.ireturn, [0], 0, 0)]
def xk_171 : List (Nat × Nat) := [(0, 0), (1, 0), (2, 212), (5, 0), (6, 0), (7, 0), (10, 0), (11, 0), (14, 0), (15, 0), (16, 214), (19, 0)]
def xm_171 : xi_M := (8, "fault", "(I)I", prog_10_method_29_code, some .int, 1, xk_171)
/-- GuineaHoursModel.goesOn(I)I -/
def xc_172 : List xi_E := [(.aload_n 0, [0], 0, 0), (.iconst 0, [], 0, 0), (.putfield 104, [8, 13, 0], 0, 0), (.aload_n 0, [0], 0, 0), (.iconst 0, [], 0, 0), (.putfield 116, [8, 14, 0], 0, 0), (.aload_n 0, [0], 0, 0), (.iconst 0, [], 0, 0), (.putfield 110, [8, 15, 0], 0, 0), (.aload_n 0, [0], 0, 0), (.getfield 104, [8, 13, 0], 0, 0), (.aload_n 0, [0], 0, 0), (.getfield 26, [8, 8, 2], 0, 0), (.iload_n 1, [1], 0, 0), (.iaload, [], 0, 0), (.if_icmp .ge 57, [43], 0, 0), (.aload_n 0, [0], 0, 0), (.iload_n 1, [1], 0, 0), (.invokevirtual 107, [173, 2, 8], 0, 0), (.bipush 32, [], 32, 0), (.if_icmp .ne 16, [28], 0, 0), (.aload_n 0, [0], 0, 0), (.dup, [], 0, 0), (.getfield 104, [8, 13, 0], 0, 0), (.iconst 1, [], 1, 0), (.iadd, [], 0, 0), (.putfield 104, [8, 13, 0], 0, 0), (.goto (-33), [9], 0, 0), (.aload_n 0, [0], 0, 0), (.getfield 110, [8, 15, 0], 0, 0), (.ifCond .ne 14, [36], 0, 0), (.aload_n 0, [0], 0, 0), (.iload_n 1, [1], 0, 0), (.invokevirtual 119, [174, 2, 8], 0, 0), (.ifCond .ne (-48), [9], 0, 0), (.goto 11, [40], 0, 0), (.aload_n 0, [0], 0, 0), (.iload_n 1, [1], 0, 0), (.invokevirtual 122, [175, 2, 8], 0, 0), (.ifCond .ne (-59), [9], 0, 0), (.aload_n 0, [0], 0, 0), (.getfield 104, [8, 13, 0], 0, 0), (.ireturn, [0], 0, 0), (.aload_n 0, [0], 0, 0), (.getfield 110, [8, 15, 0], 0, 0), (.ifCond .ne 12, [51], 0, 0), (.aload_n 0, [0], 0, 0), (.getfield 26, [8, 8, 2], 0, 0), (.iload_n 1, [1], 0, 0), (.iaload, [], 0, 0), (.goto 5, [52], 0, 0), (.bipush (-9), [], (-9), 0), (.ireturn, [0], 0, 0)]
def xk_172 : List (Nat × Nat) := [(0, 0), (1, 0), (2, 87), (5, 0), (6, 0), (7, 88), (10, 0), (11, 0), (12, 89), (15, 0), (16, 87), (19, 0), (20, 82), (23, 0), (24, 0), (25, 0), (28, 0), (29, 0), (30, 215), (33, 0), (35, 0), (38, 0), (39, 0), (40, 87), (43, 0), (44, 0), (45, 87), (48, 0), (51, 0), (52, 89), (55, 0), (58, 0), (59, 0), (60, 216), (63, 0), (66, 0), (69, 0), (70, 0), (71, 217), (74, 0), (77, 0), (78, 87), (81, 0), (82, 0), (83, 89), (86, 0), (89, 0), (90, 82), (93, 0), (94, 0), (95, 0), (98, 0), (100, 0)]
def xm_172 : xi_M := (8, "goesOn", "(I)I", prog_10_method_28_code, some .int, 1, xk_172)
/-- GuineaHoursModel.here(I)I -/
def xc_173 : List xi_E := [(.aload_n 0, [0], 0, 0), (.getfield 104, [8, 13, 0], 0, 0), (.aload_n 0, [0], 0, 0), (.getfield 26, [8, 8, 2], 0, 0), (.iload_n 1, [1], 0, 0), (.iaload, [], 0, 0), (.if_icmp .ge 20, [17], 0, 0), (.aload_n 0, [0], 0, 0), (.getfield 29, [8, 9, 2], 0, 0), (.bipush 80, [], 80, 0), (.iload_n 1, [1], 0, 0), (.imul, [], 0, 0), (.aload_n 0, [0], 0, 0), (.getfield 104, [8, 13, 0], 0, 0), (.iadd, [], 0, 0), (.iaload, [], 0, 0), (.goto 5, [18], 0, 0), (.bipush (-9), [], (-9), 0), (.ireturn, [0], 0, 0)]
def xk_173 : List (Nat × Nat) := [(0, 0), (1, 87), (4, 0), (5, 82), (8, 0), (9, 0), (10, 0), (13, 0), (14, 83), (17, 0), (19, 0), (20, 0), (21, 0), (22, 87), (25, 0), (26, 0), (27, 0), (30, 0), (32, 0)]
def xm_173 : xi_M := (8, "here", "(I)I", prog_10_method_24_code, some .int, 1, xk_173)
/-- GuineaHoursModel.readsHead(I)Z -/
def xc_174 : List xi_E := [(.aload_n 0, [0], 0, 0), (.iload_n 1, [1], 0, 0), (.invokevirtual 107, [173, 2, 8], 0, 0), (.bipush 104, [], 104, 0), (.if_icmp .eq 5, [7], 0, 0), (.iconst 0, [], 0, 0), (.ireturn, [1], 0, 0), (.aload_n 0, [0], 0, 0), (.dup, [], 0, 0), (.getfield 104, [8, 13, 0], 0, 0), (.iconst 1, [], 1, 0), (.iadd, [], 0, 0), (.putfield 104, [8, 13, 0], 0, 0), (.aload_n 0, [0], 0, 0), (.iload_n 1, [1], 0, 0), (.invokevirtual 107, [173, 2, 8], 0, 0), (.bipush 49, [], 49, 0), (.bipush 53, [], 53, 0), (.invokestatic 69, [156, 3], 0, 0), (.ifCond .ne 5, [22], 0, 0), (.iconst 0, [], 0, 0), (.ireturn, [1], 0, 0), (.aload_n 0, [0], 0, 0), (.aload_n 0, [0], 0, 0), (.iload_n 1, [1], 0, 0), (.invokevirtual 107, [173, 2, 8], 0, 0), (.bipush 48, [], 48, 0), (.isub, [], 0, 0), (.putfield 110, [8, 15, 0], 0, 0), (.aload_n 0, [0], 0, 0), (.dup, [], 0, 0), (.getfield 104, [8, 13, 0], 0, 0), (.iconst 1, [], 1, 0), (.iadd, [], 0, 0), (.putfield 104, [8, 13, 0], 0, 0), (.iconst 1, [], 1, 0), (.ireturn, [1], 0, 0)]
def xk_174 : List (Nat × Nat) := [(0, 0), (1, 0), (2, 215), (5, 0), (7, 0), (10, 0), (11, 0), (12, 0), (13, 0), (14, 87), (17, 0), (18, 0), (19, 87), (22, 0), (23, 0), (24, 215), (27, 0), (29, 0), (31, 197), (34, 0), (37, 0), (38, 0), (39, 0), (40, 0), (41, 0), (42, 215), (45, 0), (47, 0), (48, 89), (51, 0), (52, 0), (53, 87), (56, 0), (57, 0), (58, 87), (61, 0), (62, 0)]
def xm_174 : xi_M := (8, "readsHead", "(I)Z", prog_10_method_26_code, some .boolean, 1, xk_174)
/-- GuineaHoursModel.readsPerson(I)Z -/
def xc_175 : List xi_E := [(.aload_n 0, [0], 0, 0), (.iload_n 1, [1], 0, 0), (.invokevirtual 107, [173, 2, 8], 0, 0), (.invokestatic 113, [176, 1], 0, 0), (.istore_n 2, [2], 0, 0), (.iload_n 2, [2], 0, 0), (.bipush (-9), [], (-9), 0), (.if_icmp .eq 12, [12], 0, 0), (.aload_n 0, [0], 0, 0), (.getfield 116, [8, 14, 0], 0, 0), (.bipush 7, [], 7, 0), (.if_icmp .ne 5, [14], 0, 0), (.iconst 0, [], 0, 0), (.ireturn, [1], 0, 0), (.aload_n 0, [0], 0, 0), (.dup, [], 0, 0), (.getfield 104, [8, 13, 0], 0, 0), (.iconst 1, [], 1, 0), (.iadd, [], 0, 0), (.putfield 104, [8, 13, 0], 0, 0), (.bipush 49, [], 49, 0), (.bipush 7, [], 7, 0), (.aload_n 0, [0], 0, 0), (.getfield 116, [8, 14, 0], 0, 0), (.imul, [], 0, 0), (.iadd, [], 0, 0), (.istore_n 3, [3], 0, 0), (.aload_n 0, [0], 0, 0), (.getfield 32, [8, 12, 2], 0, 0), (.iload_n 3, [3], 0, 0), (.iload_n 2, [2], 0, 0), (.iastore, [], 0, 0), (.aload_n 0, [0], 0, 0), (.iload_n 1, [1], 0, 0), (.invokevirtual 107, [173, 2, 8], 0, 0), (.bipush 48, [], 48, 0), (.bipush 57, [], 57, 0), (.invokestatic 69, [156, 3], 0, 0), (.ifCond .ne 5, [41], 0, 0), (.iconst 0, [], 0, 0), (.ireturn, [1], 0, 0), (.aload_n 0, [0], 0, 0), (.getfield 32, [8, 12, 2], 0, 0), (.iload_n 3, [3], 0, 0), (.iconst 1, [], 1, 0), (.iadd, [], 0, 0), (.aload_n 0, [0], 0, 0), (.iload_n 1, [1], 0, 0), (.invokevirtual 107, [173, 2, 8], 0, 0), (.bipush 48, [], 48, 0), (.isub, [], 0, 0), (.iastore, [], 0, 0), (.aload_n 0, [0], 0, 0), (.dup, [], 0, 0), (.getfield 104, [8, 13, 0], 0, 0), (.iconst 1, [], 1, 0), (.iadd, [], 0, 0), (.putfield 104, [8, 13, 0], 0, 0), (.iconst 0, [], 0, 0), (.istore 4, [4], 0, 0), (.iload 4, [4], 0, 0), (.aload_n 0, [0], 0, 0), (.getfield 110, [8, 15, 0], 0, 0), (.if_icmp .ge 87, [109], 0, 0), (.aload_n 0, [0], 0, 0), (.iload_n 1, [1], 0, 0), (.invokevirtual 107, [173, 2, 8], 0, 0), (.bipush 45, [], 45, 0), (.if_icmp .ne 7, [71], 0, 0), (.iconst 1, [], 1, 0), (.goto 4, [72], 0, 0), (.iconst 0, [], 0, 0), (.istore 5, [5], 0, 0), (.iload 5, [5], 0, 0), (.ifCond .ne 20, [84], 0, 0), (.aload_n 0, [0], 0, 0), (.iload_n 1, [1], 0, 0), (.invokevirtual 107, [173, 2, 8], 0, 0), (.bipush 48, [], 48, 0), (.bipush 53, [], 53, 0), (.invokestatic 69, [156, 3], 0, 0), (.ifCond .ne 5, [84], 0, 0), (.iconst 0, [], 0, 0), (.ireturn, [1], 0, 0), (.aload_n 0, [0], 0, 0), (.getfield 32, [8, 12, 2], 0, 0), (.iload_n 3, [3], 0, 0), (.iconst 2, [], 2, 0), (.iadd, [], 0, 0), (.iload 4, [4], 0, 0), (.iadd, [], 0, 0), (.iload 5, [5], 0, 0), (.ifCond .eq 8, [95], 0, 0), (.bipush (-9), [], (-9), 0), (.goto 11, [100], 0, 0), (.aload_n 0, [0], 0, 0), (.iload_n 1, [1], 0, 0), (.invokevirtual 107, [173, 2, 8], 0, 0), (.bipush 48, [], 48, 0), (.isub, [], 0, 0), (.iastore, [], 0, 0), (.aload_n 0, [0], 0, 0), (.dup, [], 0, 0), (.getfield 104, [8, 13, 0], 0, 0), (.iconst 1, [], 1, 0), (.iadd, [], 0, 0), (.putfield 104, [8, 13, 0], 0, 0), (.iinc 4 1, [4], 1, 0), (.goto (-90), [60], 0, 0), (.aload_n 0, [0], 0, 0), (.dup, [], 0, 0), (.getfield 116, [8, 14, 0], 0, 0), (.iconst 1, [], 1, 0), (.iadd, [], 0, 0), (.putfield 116, [8, 14, 0], 0, 0), (.iconst 1, [], 1, 0), (.ireturn, [1], 0, 0)]
def xk_175 : List (Nat × Nat) := [(0, 0), (1, 0), (2, 215), (5, 218), (8, 0), (9, 0), (10, 0), (12, 0), (15, 0), (16, 88), (19, 0), (21, 0), (24, 0), (25, 0), (26, 0), (27, 0), (28, 87), (31, 0), (32, 0), (33, 87), (36, 0), (38, 0), (40, 0), (41, 88), (44, 0), (45, 0), (46, 0), (47, 0), (48, 86), (51, 0), (52, 0), (53, 0), (54, 0), (55, 0), (56, 215), (59, 0), (61, 0), (63, 197), (66, 0), (69, 0), (70, 0), (71, 0), (72, 86), (75, 0), (76, 0), (77, 0), (78, 0), (79, 0), (80, 215), (83, 0), (85, 0), (86, 0), (87, 0), (88, 0), (89, 87), (92, 0), (93, 0), (94, 87), (97, 0), (98, 0), (100, 0), (102, 0), (103, 89), (106, 0), (109, 0), (110, 0), (111, 215), (114, 0), (116, 0), (119, 0), (120, 0), (123, 0), (124, 0), (126, 0), (128, 0), (131, 0), (132, 0), (133, 215), (136, 0), (138, 0), (140, 197), (143, 0), (146, 0), (147, 0), (148, 0), (149, 86), (152, 0), (153, 0), (154, 0), (155, 0), (157, 0), (158, 0), (160, 0), (163, 0), (165, 0), (168, 0), (169, 0), (170, 215), (173, 0), (175, 0), (176, 0), (177, 0), (178, 0), (179, 87), (182, 0), (183, 0), (184, 87), (187, 0), (190, 0), (193, 0), (194, 0), (195, 88), (198, 0), (199, 0), (200, 88), (203, 0), (204, 0)]
def xm_175 : xi_M := (8, "readsPerson", "(I)Z", prog_10_method_27_code, some .boolean, 1, xk_175)
/-- GuineaHoursModel.kindOf(I)I -/
def xc_176 : List xi_E := [(.iload_n 0, [0], 0, 0), (.bipush 109, [], 109, 0), (.if_icmp .ne 7, [5], 0, 0), (.iconst 0, [], 0, 0), (.goto 55, [31], 0, 0), (.iload_n 0, [0], 0, 0), (.bipush 112, [], 112, 0), (.if_icmp .ne 7, [10], 0, 0), (.iconst 1, [], 1, 0), (.goto 45, [31], 0, 0), (.iload_n 0, [0], 0, 0), (.bipush 115, [], 115, 0), (.if_icmp .ne 7, [15], 0, 0), (.iconst 2, [], 2, 0), (.goto 35, [31], 0, 0), (.iload_n 0, [0], 0, 0), (.bipush 101, [], 101, 0), (.if_icmp .ne 7, [20], 0, 0), (.iconst 3, [], 3, 0), (.goto 25, [31], 0, 0), (.iload_n 0, [0], 0, 0), (.bipush 103, [], 103, 0), (.if_icmp .ne 7, [25], 0, 0), (.iconst 4, [], 4, 0), (.goto 15, [31], 0, 0), (.iload_n 0, [0], 0, 0), (.bipush 116, [], 116, 0), (.if_icmp .ne 7, [30], 0, 0), (.iconst 5, [], 5, 0), (.goto 5, [31], 0, 0), (.bipush (-9), [], (-9), 0), (.ireturn, [0], 0, 0)]
def xk_176 : List (Nat × Nat) := [(0, 0), (1, 0), (3, 0), (6, 0), (7, 0), (10, 0), (11, 0), (13, 0), (16, 0), (17, 0), (20, 0), (21, 0), (23, 0), (26, 0), (27, 0), (30, 0), (31, 0), (33, 0), (36, 0), (37, 0), (40, 0), (41, 0), (43, 0), (46, 0), (47, 0), (50, 0), (51, 0), (53, 0), (56, 0), (57, 0), (60, 0), (62, 0)]
def xm_176 : xi_M := (8, "kindOf", "(I)I", prog_10_method_25_code, some .int, 0, xk_176)
/-- GuineaHoursModel.town(I)I -/
def xc_177 : List xi_E := [(.aload_n 0, [0], 0, 0), (.iload_n 1, [1], 0, 0), (.invokevirtual 101, [170, 2, 8], 0, 0), (.istore_n 2, [2], 0, 0), (.iload_n 2, [2], 0, 0), (.ifCond .ge 5, [8], 0, 0), (.iload_n 2, [2], 0, 0), (.ireturn, [0], 0, 0), (.aload_n 0, [0], 0, 0), (.iload_n 1, [1], 0, 0), (.invokevirtual 125, [172, 2, 8], 0, 0), (.bipush (-9), [], (-9), 0), (.if_icmp .eq 6, [15], 0, 0), (.bipush (-4), [], (-4), 0), (.ireturn, [0], 0, 0), (.aload_n 0, [0], 0, 0), (.aload_n 0, [0], 0, 0), (.getfield 116, [8, 14, 0], 0, 0), (.putfield 128, [8, 10, 0], 0, 0), (.aload_n 0, [0], 0, 0), (.aload_n 0, [0], 0, 0), (.getfield 110, [8, 15, 0], 0, 0), (.putfield 131, [8, 11, 0], 0, 0), (.iconst 0, [], 0, 0), (.istore_n 3, [3], 0, 0), (.iload_n 3, [3], 0, 0), (.bipush 49, [], 49, 0), (.if_icmp .ge 24, [40], 0, 0), (.aload_n 0, [0], 0, 0), (.getfield 32, [8, 12, 2], 0, 0), (.iload_n 3, [3], 0, 0), (.aload_n 0, [0], 0, 0), (.getfield 32, [8, 12, 2], 0, 0), (.bipush 49, [], 49, 0), (.iload_n 3, [3], 0, 0), (.iadd, [], 0, 0), (.iaload, [], 0, 0), (.iastore, [], 0, 0), (.iinc 3 1, [3], 1, 0), (.goto (-24), [25], 0, 0), (.aload_n 0, [0], 0, 0), (.bipush (-9), [], (-9), 0), (.putfield 57, [8, 18, 0], 0, 0), (.aload_n 0, [0], 0, 0), (.iconst 0, [], 0, 0), (.putfield 134, [8, 32, 0], 0, 0), (.iconst 0, [], 0, 0), (.istore_n 3, [3], 0, 0), (.iload_n 3, [3], 0, 0), (.iconst 3, [], 3, 0), (.if_icmp .ge 20, [60], 0, 0), (.aload_n 0, [0], 0, 0), (.getfield 51, [8, 28, 2], 0, 0), (.bipush 10, [], 10, 0), (.iload_n 3, [3], 0, 0), (.imul, [], 0, 0), (.bipush (-9), [], (-9), 0), (.iastore, [], 0, 0), (.iinc 3 1, [3], 1, 0), (.goto (-19), [48], 0, 0), (.aload_n 0, [0], 0, 0), (.getfield 128, [8, 10, 0], 0, 0), (.ireturn, [0], 0, 0)]
def xk_177 : List (Nat × Nat) := [(0, 0), (1, 0), (2, 212), (5, 0), (6, 0), (7, 0), (10, 0), (11, 0), (12, 0), (13, 0), (14, 214), (17, 0), (19, 0), (22, 0), (24, 0), (25, 0), (26, 0), (27, 88), (30, 84), (33, 0), (34, 0), (35, 89), (38, 85), (41, 0), (42, 0), (43, 0), (44, 0), (46, 0), (49, 0), (50, 86), (53, 0), (54, 0), (55, 86), (58, 0), (60, 0), (61, 0), (62, 0), (63, 0), (64, 0), (67, 0), (70, 0), (71, 0), (73, 92), (76, 0), (77, 0), (78, 106), (81, 0), (82, 0), (83, 0), (84, 0), (85, 0), (88, 0), (89, 102), (92, 0), (94, 0), (95, 0), (96, 0), (98, 0), (99, 0), (102, 0), (105, 0), (106, 84), (109, 0)]
def xm_177 : xi_M := (8, "town", "(I)I", prog_10_method_30_code, some .int, 1, xk_177)
/-- GuineaHoursModel.person(II)I -/
def xc_178 : List xi_E := [(.aload_n 0, [0], 0, 0), (.iload_n 1, [1], 0, 0), (.invokevirtual 143, [179, 2, 8], 0, 0), (.ifCond .eq 26, [17], 0, 0), (.iload_n 2, [2], 0, 0), (.iconst 0, [], 0, 0), (.iconst 2, [], 2, 0), (.invokestatic 69, [156, 3], 0, 0), (.ifCond .eq 17, [17], 0, 0), (.aload_n 0, [0], 0, 0), (.aload_n 0, [0], 0, 0), (.iload_n 1, [1], 0, 0), (.iload_n 2, [2], 0, 0), (.invokevirtual 146, [180, 3, 8], 0, 0), (.iconst 1, [], 1, 0), (.invokevirtual 95, [162, 3, 8], 0, 0), (.goto 4, [18], 0, 0), (.iconst (-1), [], (-1), 0), (.ireturn, [0], 0, 0)]
def xk_178 : List (Nat × Nat) := [(0, 0), (1, 0), (2, 221), (5, 0), (8, 0), (9, 0), (10, 0), (11, 197), (14, 0), (17, 0), (18, 0), (19, 0), (20, 0), (21, 222), (24, 0), (25, 203), (28, 0), (31, 0), (32, 0)]
def xm_178 : xi_M := (8, "person", "(II)I", prog_10_method_37_code, some .int, 1, xk_178)
/-- GuineaHoursModel.isOne(I)Z -/
def xc_179 : List xi_E := [(.iload_n 1, [1], 0, 0), (.iconst 0, [], 0, 0), (.aload_n 0, [0], 0, 0), (.getfield 128, [8, 10, 0], 0, 0), (.iconst 1, [], 1, 0), (.isub, [], 0, 0), (.invokestatic 69, [156, 3], 0, 0), (.ireturn, [1], 0, 0)]
def xk_179 : List (Nat × Nat) := [(0, 0), (1, 0), (2, 0), (3, 84), (6, 0), (7, 0), (8, 197), (11, 0)]
def xm_179 : xi_M := (8, "isOne", "(I)Z", prog_10_method_31_code, some .boolean, 1, xk_179)
/-- GuineaHoursModel.personOf(II)I -/
def xc_180 : List xi_E := [(.iload_n 2, [2], 0, 0), (.iconst 2, [], 2, 0), (.if_icmp .ne 11, [7], 0, 0), (.aload_n 0, [0], 0, 0), (.iload_n 1, [1], 0, 0), (.invokevirtual 140, [181, 2, 8], 0, 0), (.goto 9, [11], 0, 0), (.aload_n 0, [0], 0, 0), (.iload_n 1, [1], 0, 0), (.iload_n 2, [2], 0, 0), (.invokevirtual 137, [182, 3, 8], 0, 0), (.ireturn, [0], 0, 0)]
def xk_180 : List (Nat × Nat) := [(0, 0), (1, 0), (2, 0), (5, 0), (6, 0), (7, 223), (10, 0), (13, 0), (14, 0), (15, 0), (16, 224), (19, 0)]
def xm_180 : xi_M := (8, "personOf", "(II)I", prog_10_method_36_code, some .int, 1, xk_180)
/-- GuineaHoursModel.mostOf(I)I -/
def xc_181 : List xi_E := [(.aload_n 0, [0], 0, 0), (.getfield 35, [8, 16, 0], 0, 0), (.aload_n 0, [0], 0, 0), (.iload_n 1, [1], 0, 0), (.iconst 0, [], 0, 0), (.invokevirtual 137, [182, 3, 8], 0, 0), (.iconst 3, [], 3, 0), (.if_icmp .ne 7, [10], 0, 0), (.iconst 1, [], 1, 0), (.goto 18, [19], 0, 0), (.aload_n 0, [0], 0, 0), (.iload_n 1, [1], 0, 0), (.iconst 0, [], 0, 0), (.invokevirtual 137, [182, 3, 8], 0, 0), (.iconst 5, [], 5, 0), (.if_icmp .ne 7, [18], 0, 0), (.iconst 2, [], 2, 0), (.goto 4, [19], 0, 0), (.iconst 0, [], 0, 0), (.iadd, [], 0, 0), (.ireturn, [0], 0, 0)]
def xk_181 : List (Nat × Nat) := [(0, 0), (1, 90), (4, 0), (5, 0), (6, 0), (7, 224), (10, 0), (11, 0), (14, 0), (15, 0), (18, 0), (19, 0), (20, 0), (21, 224), (24, 0), (25, 0), (28, 0), (29, 0), (32, 0), (33, 0), (34, 0)]
def xm_181 : xi_M := (8, "mostOf", "(I)I", prog_10_method_35_code, some .int, 1, xk_181)
/-- GuineaHoursModel.of(II)I -/
def xc_182 : List xi_E := [(.aload_n 0, [0], 0, 0), (.getfield 32, [8, 12, 2], 0, 0), (.bipush 7, [], 7, 0), (.iload_n 1, [1], 0, 0), (.imul, [], 0, 0), (.iload_n 2, [2], 0, 0), (.iadd, [], 0, 0), (.iaload, [], 0, 0), (.ireturn, [0], 0, 0)]
def xk_182 : List (Nat × Nat) := [(0, 0), (1, 86), (4, 0), (6, 0), (7, 0), (8, 0), (9, 0), (10, 0), (11, 0)]
def xm_182 : xi_M := (8, "of", "(II)I", prog_10_method_23_code, some .int, 1, xk_182)
/-- GuineaHoursModel.place(II)I -/
def xc_183 : List xi_E := [(.aload_n 0, [0], 0, 0), (.iload_n 1, [1], 0, 0), (.invokevirtual 143, [179, 2, 8], 0, 0), (.ifCond .eq 25, [16], 0, 0), (.aload_n 0, [0], 0, 0), (.iload_n 2, [2], 0, 0), (.invokevirtual 149, [184, 2, 8], 0, 0), (.ifCond .eq 17, [16], 0, 0), (.aload_n 0, [0], 0, 0), (.aload_n 0, [0], 0, 0), (.iload_n 1, [1], 0, 0), (.iload_n 2, [2], 0, 0), (.invokevirtual 152, [185, 3, 8], 0, 0), (.iconst 1, [], 1, 0), (.invokevirtual 95, [162, 3, 8], 0, 0), (.goto 4, [17], 0, 0), (.iconst (-1), [], (-1), 0), (.ireturn, [0], 0, 0)]
def xk_183 : List (Nat × Nat) := [(0, 0), (1, 0), (2, 221), (5, 0), (8, 0), (9, 0), (10, 226), (13, 0), (16, 0), (17, 0), (18, 0), (19, 0), (20, 227), (23, 0), (24, 203), (27, 0), (30, 0), (31, 0)]
def xm_183 : xi_M := (8, "place", "(II)I", prog_10_method_39_code, some .int, 1, xk_183)
/-- GuineaHoursModel.isHour(I)Z -/
def xc_184 : List xi_E := [(.iload_n 1, [1], 0, 0), (.iconst 0, [], 0, 0), (.aload_n 0, [0], 0, 0), (.getfield 131, [8, 11, 0], 0, 0), (.iconst 1, [], 1, 0), (.isub, [], 0, 0), (.invokestatic 69, [156, 3], 0, 0), (.ireturn, [1], 0, 0)]
def xk_184 : List (Nat × Nat) := [(0, 0), (1, 0), (2, 0), (3, 85), (6, 0), (7, 0), (8, 197), (11, 0)]
def xm_184 : xi_M := (8, "isHour", "(I)Z", prog_10_method_32_code, some .boolean, 1, xk_184)
/-- GuineaHoursModel.placeOf(II)I -/
def xc_185 : List xi_E := [(.aload_n 0, [0], 0, 0), (.iload_n 1, [1], 0, 0), (.iconst 2, [], 2, 0), (.iload_n 2, [2], 0, 0), (.iadd, [], 0, 0), (.invokevirtual 137, [182, 3, 8], 0, 0), (.ireturn, [0], 0, 0)]
def xk_185 : List (Nat × Nat) := [(0, 0), (1, 0), (2, 0), (3, 0), (4, 0), (5, 224), (8, 0)]
def xm_185 : xi_M := (8, "placeOf", "(II)I", prog_10_method_38_code, some .int, 1, xk_185)
/-- GuineaHoursModel.mark(II)I -/
def xc_186 : List xi_E := [(.aload_n 0, [0], 0, 0), (.iload_n 1, [1], 0, 0), (.invokevirtual 143, [179, 2, 8], 0, 0), (.ifCond .eq 12, [9], 0, 0), (.iload_n 2, [2], 0, 0), (.iconst 1, [], 1, 0), (.iconst 5, [], 5, 0), (.invokestatic 69, [156, 3], 0, 0), (.ifCond .ne 5, [11], 0, 0), (.iconst (-1), [], (-1), 0), (.ireturn, [0], 0, 0), (.aload_n 0, [0], 0, 0), (.iload_n 1, [1], 0, 0), (.iload_n 2, [2], 0, 0), (.invokevirtual 155, [187, 3, 8], 0, 0), (.ifCond .ne 9, [20], 0, 0), (.aload_n 0, [0], 0, 0), (.iconst 3, [], 3, 0), (.invokevirtual 77, [157, 2, 8], 0, 0), (.ireturn, [0], 0, 0), (.iconst 0, [], 0, 0), (.istore_n 3, [3], 0, 0), (.iconst 0, [], 0, 0), (.istore 4, [4], 0, 0), (.iload 4, [4], 0, 0), (.aload_n 0, [0], 0, 0), (.getfield 131, [8, 11, 0], 0, 0), (.if_icmp .ge 33, [45], 0, 0), (.iload_n 3, [3], 0, 0), (.iload_n 2, [2], 0, 0), (.iconst 2, [], 2, 0), (.if_icmp .ne 18, [40], 0, 0), (.aload_n 0, [0], 0, 0), (.iload_n 1, [1], 0, 0), (.iload 4, [4], 0, 0), (.invokevirtual 159, [188, 3, 8], 0, 0), (.iconst 1, [], 1, 0), (.if_icmp .ne 7, [40], 0, 0), (.iconst 1, [], 1, 0), (.goto 4, [41], 0, 0), (.iconst 0, [], 0, 0), (.iadd, [], 0, 0), (.istore_n 3, [3], 0, 0), (.iinc 4 1, [4], 1, 0), (.goto (-36), [24], 0, 0), (.iconst 0, [], 0, 0), (.istore 4, [4], 0, 0), (.iload 4, [4], 0, 0), (.aload_n 0, [0], 0, 0), (.getfield 128, [8, 10, 0], 0, 0), (.if_icmp .ge 33, [68], 0, 0), (.iload_n 3, [3], 0, 0), (.iload_n 2, [2], 0, 0), (.iconst 5, [], 5, 0), (.if_icmp .ne 18, [63], 0, 0), (.aload_n 0, [0], 0, 0), (.iload 4, [4], 0, 0), (.iconst 0, [], 0, 0), (.invokevirtual 137, [182, 3, 8], 0, 0), (.iconst 4, [], 4, 0), (.if_icmp .ne 7, [63], 0, 0), (.iconst 1, [], 1, 0), (.goto 4, [64], 0, 0), (.iconst 0, [], 0, 0), (.iadd, [], 0, 0), (.istore_n 3, [3], 0, 0), (.iinc 4 1, [4], 1, 0), (.goto (-36), [47], 0, 0), (.iload_n 2, [2], 0, 0), (.tableswitch 61 1 4 #[31, 61, 33, 39], [89, 70, 89, 72, 76], 0, 0), (.iload_n 1, [1], 0, 0), (.ireturn, [0], 0, 0), (.aload_n 0, [0], 0, 0), (.iload_n 1, [1], 0, 0), (.invokevirtual 140, [181, 2, 8], 0, 0), (.ireturn, [0], 0, 0), (.aload_n 0, [0], 0, 0), (.getfield 128, [8, 10, 0], 0, 0), (.iconst 1, [], 1, 0), (.if_icmp .ne 8, [82], 0, 0), (.bipush (-9), [], (-9), 0), (.goto 11, [88], 0, 0), (.iload_n 1, [1], 0, 0), (.iconst 1, [], 1, 0), (.iadd, [], 0, 0), (.aload_n 0, [0], 0, 0), (.getfield 128, [8, 10, 0], 0, 0), (.irem, [], 0, 0), (.ireturn, [0], 0, 0), (.iload_n 3, [3], 0, 0), (.ireturn, [0], 0, 0)]
def xk_186 : List (Nat × Nat) := [(0, 0), (1, 0), (2, 221), (5, 0), (8, 0), (9, 0), (10, 0), (11, 197), (14, 0), (17, 0), (18, 0), (19, 0), (20, 0), (21, 0), (22, 229), (25, 0), (28, 0), (29, 0), (30, 198), (33, 0), (34, 0), (35, 0), (36, 0), (37, 0), (39, 0), (41, 0), (42, 85), (45, 0), (48, 0), (49, 0), (50, 0), (51, 0), (54, 0), (55, 0), (56, 0), (58, 230), (61, 0), (62, 0), (65, 0), (66, 0), (69, 0), (70, 0), (71, 0), (72, 0), (75, 0), (78, 0), (79, 0), (81, 0), (83, 0), (84, 84), (87, 0), (90, 0), (91, 0), (92, 0), (93, 0), (96, 0), (97, 0), (99, 0), (100, 224), (103, 0), (104, 0), (107, 0), (108, 0), (111, 0), (112, 0), (113, 0), (114, 0), (117, 0), (120, 0), (121, 0), (152, 0), (153, 0), (154, 0), (155, 0), (156, 223), (159, 0), (160, 0), (161, 84), (164, 0), (165, 0), (168, 0), (170, 0), (173, 0), (174, 0), (175, 0), (176, 0), (177, 84), (180, 0), (181, 0), (182, 0), (183, 0)]
def xm_186 : xi_M := (8, "mark", "(II)I", prog_10_method_41_code, some .int, 1, xk_186)
/-- GuineaHoursModel.isA(II)Z -/
def xc_187 : List xi_E := [(.aload_n 0, [0], 0, 0), (.iload_n 1, [1], 0, 0), (.iconst 0, [], 0, 0), (.invokevirtual 137, [182, 3, 8], 0, 0), (.iload_n 2, [2], 0, 0), (.if_icmp .eq 18, [15], 0, 0), (.iload_n 2, [2], 0, 0), (.iconst 3, [], 3, 0), (.if_icmp .ne 17, [17], 0, 0), (.aload_n 0, [0], 0, 0), (.iload_n 1, [1], 0, 0), (.iconst 0, [], 0, 0), (.invokevirtual 137, [182, 3, 8], 0, 0), (.iconst 5, [], 5, 0), (.if_icmp .ne 7, [17], 0, 0), (.iconst 1, [], 1, 0), (.goto 4, [18], 0, 0), (.iconst 0, [], 0, 0), (.ireturn, [1], 0, 0)]
def xk_187 : List (Nat × Nat) := [(0, 0), (1, 0), (2, 0), (3, 224), (6, 0), (7, 0), (10, 0), (11, 0), (12, 0), (15, 0), (16, 0), (17, 0), (18, 224), (21, 0), (22, 0), (25, 0), (26, 0), (29, 0), (30, 0)]
def xm_187 : xi_M := (8, "isA", "(II)Z", prog_10_method_34_code, some .boolean, 1, xk_187)
/-- GuineaHoursModel.others(II)I -/
def xc_188 : List xi_E := [(.iconst 0, [], 0, 0), (.istore_n 3, [3], 0, 0), (.iconst 0, [], 0, 0), (.istore 4, [4], 0, 0), (.iload 4, [4], 0, 0), (.aload_n 0, [0], 0, 0), (.getfield 128, [8, 10, 0], 0, 0), (.if_icmp .ge 50, [34], 0, 0), (.iload_n 3, [3], 0, 0), (.iload 4, [4], 0, 0), (.iload_n 1, [1], 0, 0), (.if_icmp .eq 34, [29], 0, 0), (.aload_n 0, [0], 0, 0), (.iload_n 1, [1], 0, 0), (.iload_n 2, [2], 0, 0), (.invokevirtual 152, [185, 3, 8], 0, 0), (.bipush (-9), [], (-9), 0), (.if_icmp .eq 23, [29], 0, 0), (.aload_n 0, [0], 0, 0), (.iload 4, [4], 0, 0), (.iload_n 2, [2], 0, 0), (.invokevirtual 152, [185, 3, 8], 0, 0), (.aload_n 0, [0], 0, 0), (.iload_n 1, [1], 0, 0), (.iload_n 2, [2], 0, 0), (.invokevirtual 152, [185, 3, 8], 0, 0), (.if_icmp .ne 7, [29], 0, 0), (.iconst 1, [], 1, 0), (.goto 4, [30], 0, 0), (.iconst 0, [], 0, 0), (.iadd, [], 0, 0), (.istore_n 3, [3], 0, 0), (.iinc 4 1, [4], 1, 0), (.goto (-53), [4], 0, 0), (.iload_n 3, [3], 0, 0), (.ireturn, [0], 0, 0)]
def xk_188 : List (Nat × Nat) := [(0, 0), (1, 0), (2, 0), (3, 0), (5, 0), (7, 0), (8, 84), (11, 0), (14, 0), (15, 0), (17, 0), (18, 0), (21, 0), (22, 0), (23, 0), (24, 227), (27, 0), (29, 0), (32, 0), (33, 0), (35, 0), (36, 227), (39, 0), (40, 0), (41, 0), (42, 227), (45, 0), (48, 0), (49, 0), (52, 0), (53, 0), (54, 0), (55, 0), (58, 0), (61, 0), (62, 0)]
def xm_188 : xi_M := (8, "others", "(II)I", prog_10_method_40_code, some .int, 1, xk_188)
/-- GuineaHoursModel.times(I)I -/
def xc_189 : List xi_E := [(.iload_n 1, [1], 0, 0), (.iconst 1, [], 1, 0), (.iconst 5, [], 5, 0), (.invokestatic 69, [156, 3], 0, 0), (.ifCond .ne 5, [7], 0, 0), (.iconst (-1), [], (-1), 0), (.ireturn, [0], 0, 0), (.aload_n 0, [0], 0, 0), (.getfield 35, [8, 16, 0], 0, 0), (.istore_n 2, [2], 0, 0), (.aload_n 0, [0], 0, 0), (.iload_n 1, [1], 0, 0), (.putfield 35, [8, 16, 0], 0, 0), (.iload_n 2, [2], 0, 0), (.ireturn, [0], 0, 0)]
def xk_189 : List (Nat × Nat) := [(0, 0), (1, 0), (2, 0), (3, 197), (6, 0), (9, 0), (10, 0), (11, 0), (12, 90), (15, 0), (16, 0), (17, 0), (18, 90), (21, 0), (22, 0)]
def xm_189 : xi_M := (8, "times", "(I)I", prog_10_method_42_code, some .int, 1, xk_189)
/-- GuineaHoursModel.back(I)I -/
def xc_190 : List xi_E := [(.iload_n 1, [1], 0, 0), (.iconst 0, [], 0, 0), (.iconst 1, [], 1, 0), (.invokestatic 69, [156, 3], 0, 0), (.ifCond .ne 5, [7], 0, 0), (.iconst (-1), [], (-1), 0), (.ireturn, [0], 0, 0), (.aload_n 0, [0], 0, 0), (.getfield 162, [8, 17, 0], 0, 0), (.istore_n 2, [2], 0, 0), (.aload_n 0, [0], 0, 0), (.iload_n 1, [1], 0, 0), (.putfield 162, [8, 17, 0], 0, 0), (.iload_n 2, [2], 0, 0), (.ireturn, [0], 0, 0)]
def xk_190 : List (Nat × Nat) := [(0, 0), (1, 0), (2, 0), (3, 197), (6, 0), (9, 0), (10, 0), (11, 0), (12, 91), (15, 0), (16, 0), (17, 0), (18, 91), (21, 0), (22, 0)]
def xm_190 : xi_M := (8, "back", "(I)I", prog_10_method_43_code, some .int, 1, xk_190)
/-- GuineaHoursModel.may(II)I -/
def xc_191 : List xi_E := [(.aload_n 0, [0], 0, 0), (.iload_n 1, [1], 0, 0), (.invokevirtual 143, [179, 2, 8], 0, 0), (.ifCond .eq 20, [13], 0, 0), (.aload_n 0, [0], 0, 0), (.iload_n 2, [2], 0, 0), (.invokevirtual 149, [184, 2, 8], 0, 0), (.ifCond .eq 12, [13], 0, 0), (.aload_n 0, [0], 0, 0), (.iload_n 1, [1], 0, 0), (.iload_n 2, [2], 0, 0), (.invokevirtual 168, [192, 3, 8], 0, 0), (.goto 4, [14], 0, 0), (.iconst (-1), [], (-1), 0), (.ireturn, [0], 0, 0)]
def xk_191 : List (Nat × Nat) := [(0, 0), (1, 0), (2, 221), (5, 0), (8, 0), (9, 0), (10, 226), (13, 0), (16, 0), (17, 0), (18, 0), (19, 234), (22, 0), (25, 0), (26, 0)]
def xm_191 : xi_M := (8, "may", "(II)I", prog_10_method_46_code, some .int, 1, xk_191)
/-- GuineaHoursModel.mays(II)I -/
def xc_192 : List xi_E := [(.iconst 0, [], 0, 0), (.istore_n 3, [3], 0, 0), (.iconst 0, [], 0, 0), (.istore 4, [4], 0, 0), (.iload 4, [4], 0, 0), (.aload_n 0, [0], 0, 0), (.getfield 128, [8, 10, 0], 0, 0), (.if_icmp .ge 31, [24], 0, 0), (.iload_n 3, [3], 0, 0), (.aload_n 0, [0], 0, 0), (.iload_n 1, [1], 0, 0), (.iload 4, [4], 0, 0), (.iload_n 2, [2], 0, 0), (.invokevirtual 165, [193, 4, 8], 0, 0), (.ifCond .eq 10, [19], 0, 0), (.iconst 1, [], 1, 0), (.iload 4, [4], 0, 0), (.ishl, [], 0, 0), (.goto 4, [20], 0, 0), (.iconst 0, [], 0, 0), (.ior, [], 0, 0), (.istore_n 3, [3], 0, 0), (.iinc 4 1, [4], 1, 0), (.goto (-34), [4], 0, 0), (.iload_n 3, [3], 0, 0), (.ireturn, [0], 0, 0)]
def xk_192 : List (Nat × Nat) := [(0, 0), (1, 0), (2, 0), (3, 0), (5, 0), (7, 0), (8, 84), (11, 0), (14, 0), (15, 0), (16, 0), (17, 0), (19, 0), (20, 235), (23, 0), (26, 0), (27, 0), (29, 0), (30, 0), (33, 0), (34, 0), (35, 0), (36, 0), (39, 0), (42, 0), (43, 0)]
def xm_192 : xi_M := (8, "mays", "(II)I", prog_10_method_45_code, some .int, 1, xk_192)
/-- GuineaHoursModel.mayGive(III)Z -/
def xc_193 : List xi_E := [(.iload_n 1, [1], 0, 0), (.iload_n 2, [2], 0, 0), (.if_icmp .eq 33, [20], 0, 0), (.aload_n 0, [0], 0, 0), (.iload_n 1, [1], 0, 0), (.iload_n 3, [3], 0, 0), (.invokevirtual 152, [185, 3, 8], 0, 0), (.bipush (-9), [], (-9), 0), (.if_icmp .eq 22, [20], 0, 0), (.aload_n 0, [0], 0, 0), (.iload_n 1, [1], 0, 0), (.iload_n 3, [3], 0, 0), (.invokevirtual 152, [185, 3, 8], 0, 0), (.aload_n 0, [0], 0, 0), (.iload_n 2, [2], 0, 0), (.iload_n 3, [3], 0, 0), (.invokevirtual 152, [185, 3, 8], 0, 0), (.if_icmp .ne 7, [20], 0, 0), (.iconst 1, [], 1, 0), (.goto 4, [21], 0, 0), (.iconst 0, [], 0, 0), (.istore 4, [4], 0, 0), (.aload_n 0, [0], 0, 0), (.iload_n 1, [1], 0, 0), (.iconst 0, [], 0, 0), (.invokevirtual 137, [182, 3, 8], 0, 0), (.iconst 4, [], 4, 0), (.if_icmp .ne 15, [36], 0, 0), (.iload_n 2, [2], 0, 0), (.iload_n 1, [1], 0, 0), (.iconst 1, [], 1, 0), (.iadd, [], 0, 0), (.aload_n 0, [0], 0, 0), (.getfield 128, [8, 10, 0], 0, 0), (.irem, [], 0, 0), (.if_icmp .ne 7, [38], 0, 0), (.iconst 1, [], 1, 0), (.goto 4, [39], 0, 0), (.iconst 0, [], 0, 0), (.istore 5, [5], 0, 0), (.aload_n 0, [0], 0, 0), (.iload_n 2, [2], 0, 0), (.iconst 0, [], 0, 0), (.invokevirtual 137, [182, 3, 8], 0, 0), (.istore 6, [6], 0, 0), (.iload 6, [6], 0, 0), (.iconst 1, [], 1, 0), (.if_icmp .ne 16, [55], 0, 0), (.iload_n 1, [1], 0, 0), (.iload_n 2, [2], 0, 0), (.if_icmp .ge 7, [53], 0, 0), (.iconst 1, [], 1, 0), (.goto 52, [80], 0, 0), (.iconst 0, [], 0, 0), (.goto 48, [80], 0, 0), (.iload 6, [6], 0, 0), (.iconst 2, [], 2, 0), (.if_icmp .ne 21, [68], 0, 0), (.aload_n 0, [0], 0, 0), (.iload_n 2, [2], 0, 0), (.iload_n 3, [3], 0, 0), (.invokevirtual 159, [188, 3, 8], 0, 0), (.iconst 1, [], 1, 0), (.if_icmp .ne 7, [66], 0, 0), (.iconst 1, [], 1, 0), (.goto 28, [80], 0, 0), (.iconst 0, [], 0, 0), (.goto 24, [80], 0, 0), (.iload 6, [6], 0, 0), (.iconst 5, [], 5, 0), (.if_icmp .ne 13, [77], 0, 0), (.aload_n 0, [0], 0, 0), (.iload_n 1, [1], 0, 0), (.iconst 0, [], 0, 0), (.invokevirtual 137, [182, 3, 8], 0, 0), (.iconst 4, [], 4, 0), (.if_icmp .eq 7, [79], 0, 0), (.iconst 1, [], 1, 0), (.goto 4, [80], 0, 0), (.iconst 0, [], 0, 0), (.istore 7, [7], 0, 0), (.iload 4, [4], 0, 0), (.ifCond .eq 17, [89], 0, 0), (.iload 5, [5], 0, 0), (.ifCond .eq 12, [89], 0, 0), (.iload 7, [7], 0, 0), (.ifCond .eq 7, [89], 0, 0), (.iconst 1, [], 1, 0), (.goto 4, [90], 0, 0), (.iconst 0, [], 0, 0), (.ireturn, [1], 0, 0)]
def xk_193 : List (Nat × Nat) := [(0, 0), (1, 0), (2, 0), (5, 0), (6, 0), (7, 0), (8, 227), (11, 0), (13, 0), (16, 0), (17, 0), (18, 0), (19, 227), (22, 0), (23, 0), (24, 0), (25, 227), (28, 0), (31, 0), (32, 0), (35, 0), (36, 0), (38, 0), (39, 0), (40, 0), (41, 224), (44, 0), (45, 0), (48, 0), (49, 0), (50, 0), (51, 0), (52, 0), (53, 84), (56, 0), (57, 0), (60, 0), (61, 0), (64, 0), (65, 0), (67, 0), (68, 0), (69, 0), (70, 224), (73, 0), (75, 0), (77, 0), (78, 0), (81, 0), (82, 0), (83, 0), (86, 0), (87, 0), (90, 0), (91, 0), (94, 0), (96, 0), (97, 0), (100, 0), (101, 0), (102, 0), (103, 230), (106, 0), (107, 0), (110, 0), (111, 0), (114, 0), (115, 0), (118, 0), (120, 0), (121, 0), (124, 0), (125, 0), (126, 0), (127, 224), (130, 0), (131, 0), (134, 0), (135, 0), (138, 0), (139, 0), (141, 0), (143, 0), (146, 0), (148, 0), (151, 0), (153, 0), (156, 0), (157, 0), (160, 0), (161, 0)]
def xm_193 : xi_M := (8, "mayGive", "(III)Z", prog_10_method_44_code, some .boolean, 1, xk_193)
/-- GuineaHoursModel.begin(I)I -/
def xc_194 : List xi_E := [(.aload_n 0, [0], 0, 0), (.iload_n 1, [1], 0, 0), (.invokevirtual 143, [179, 2, 8], 0, 0), (.ifCond .ne 5, [6], 0, 0), (.iconst (-1), [], (-1), 0), (.ireturn, [0], 0, 0), (.aload_n 0, [0], 0, 0), (.iconst 0, [], 0, 0), (.putfield 57, [8, 18, 0], 0, 0), (.aload_n 0, [0], 0, 0), (.getfield 39, [8, 19, 2], 0, 0), (.iconst 0, [], 0, 0), (.iload_n 1, [1], 0, 0), (.iastore, [], 0, 0), (.aload_n 0, [0], 0, 0), (.iload_n 1, [1], 0, 0), (.iconst 0, [], 0, 0), (.invokevirtual 168, [192, 3, 8], 0, 0), (.invokestatic 174, [195, 1], 0, 0), (.ireturn, [0], 0, 0)]
def xk_194 : List (Nat × Nat) := [(0, 0), (1, 0), (2, 221), (5, 0), (8, 0), (9, 0), (10, 0), (11, 0), (12, 92), (15, 0), (16, 93), (19, 0), (20, 0), (21, 0), (22, 0), (23, 0), (24, 0), (25, 234), (28, 237), (31, 0)]
def xm_194 : xi_M := (8, "begin", "(I)I", prog_10_method_49_code, some .int, 1, xk_194)
/-- GuineaHoursModel.sizeOf(I)I -/
def xc_195 : List xi_E := [(.iconst 0, [], 0, 0), (.istore_n 1, [1], 0, 0), (.iconst 0, [], 0, 0), (.istore_n 2, [2], 0, 0), (.iload_n 2, [2], 0, 0), (.bipush 8, [], 8, 0), (.if_icmp .ge 17, [17], 0, 0), (.iload_n 1, [1], 0, 0), (.iload_n 0, [0], 0, 0), (.iload_n 2, [2], 0, 0), (.ishr, [], 0, 0), (.iconst 1, [], 1, 0), (.iand, [], 0, 0), (.iadd, [], 0, 0), (.istore_n 1, [1], 0, 0), (.iinc 2 1, [2], 1, 0), (.goto (-17), [4], 0, 0), (.iload_n 1, [1], 0, 0), (.ireturn, [0], 0, 0)]
def xk_195 : List (Nat × Nat) := [(0, 0), (1, 0), (2, 0), (3, 0), (4, 0), (5, 0), (7, 0), (10, 0), (11, 0), (12, 0), (13, 0), (14, 0), (15, 0), (16, 0), (17, 0), (18, 0), (21, 0), (24, 0), (25, 0)]
def xm_195 : xi_M := (8, "sizeOf", "(I)I", prog_10_method_8_code, some .int, 0, xk_195)
/-- GuineaHoursModel.give(I)I -/
def xc_196 : List xi_E := [(.aload_n 0, [0], 0, 0), (.iload_n 1, [1], 0, 0), (.invokevirtual 143, [179, 2, 8], 0, 0), (.ifCond .ne 5, [6], 0, 0), (.iconst (-1), [], (-1), 0), (.ireturn, [0], 0, 0), (.aload_n 0, [0], 0, 0), (.getfield 57, [8, 18, 0], 0, 0), (.bipush (-9), [], (-9), 0), (.if_icmp .eq 26, [21], 0, 0), (.aload_n 0, [0], 0, 0), (.getfield 57, [8, 18, 0], 0, 0), (.aload_n 0, [0], 0, 0), (.getfield 131, [8, 11, 0], 0, 0), (.if_icmp .eq 15, [21], 0, 0), (.aload_n 0, [0], 0, 0), (.aload_n 0, [0], 0, 0), (.getfield 57, [8, 18, 0], 0, 0), (.iload_n 1, [1], 0, 0), (.invokevirtual 177, [197, 3, 8], 0, 0), (.ifCond .eq 6, [23], 0, 0), (.bipush (-4), [], (-4), 0), (.ireturn, [0], 0, 0), (.aload_n 0, [0], 0, 0), (.dup, [], 0, 0), (.getfield 57, [8, 18, 0], 0, 0), (.iconst 1, [], 1, 0), (.iadd, [], 0, 0), (.putfield 57, [8, 18, 0], 0, 0), (.aload_n 0, [0], 0, 0), (.getfield 39, [8, 19, 2], 0, 0), (.aload_n 0, [0], 0, 0), (.getfield 57, [8, 18, 0], 0, 0), (.iload_n 1, [1], 0, 0), (.iastore, [], 0, 0), (.aload_n 0, [0], 0, 0), (.getfield 57, [8, 18, 0], 0, 0), (.ireturn, [0], 0, 0)]
def xk_196 : List (Nat × Nat) := [(0, 0), (1, 0), (2, 221), (5, 0), (8, 0), (9, 0), (10, 0), (11, 92), (14, 0), (16, 0), (19, 0), (20, 92), (23, 0), (24, 85), (27, 0), (30, 0), (31, 0), (32, 92), (35, 0), (36, 239), (39, 0), (42, 0), (44, 0), (45, 0), (46, 0), (47, 92), (50, 0), (51, 0), (52, 92), (55, 0), (56, 93), (59, 0), (60, 92), (63, 0), (64, 0), (65, 0), (66, 92), (69, 0)]
def xm_196 : xi_M := (8, "give", "(I)I", prog_10_method_50_code, some .int, 1, xk_196)
/-- GuineaHoursModel.against(II)I -/
def xc_197 : List xi_E := [(.aload_n 0, [0], 0, 0), (.aload_n 0, [0], 0, 0), (.getfield 39, [8, 19, 2], 0, 0), (.iload_n 1, [1], 0, 0), (.iaload, [], 0, 0), (.iload_n 2, [2], 0, 0), (.iload_n 1, [1], 0, 0), (.invokevirtual 165, [193, 4, 8], 0, 0), (.ifCond .ne 5, [11], 0, 0), (.iconst 1, [], 1, 0), (.ireturn, [0], 0, 0), (.aload_n 0, [0], 0, 0), (.getfield 162, [8, 17, 0], 0, 0), (.iconst 1, [], 1, 0), (.if_icmp .ne 21, [27], 0, 0), (.iload_n 1, [1], 0, 0), (.ifCond .le 17, [27], 0, 0), (.aload_n 0, [0], 0, 0), (.getfield 39, [8, 19, 2], 0, 0), (.iload_n 1, [1], 0, 0), (.iconst 1, [], 1, 0), (.isub, [], 0, 0), (.iaload, [], 0, 0), (.iload_n 2, [2], 0, 0), (.if_icmp .ne 5, [27], 0, 0), (.iconst 2, [], 2, 0), (.ireturn, [0], 0, 0), (.aload_n 0, [0], 0, 0), (.iload_n 2, [2], 0, 0), (.iload_n 1, [1], 0, 0), (.invokevirtual 171, [198, 3, 8], 0, 0), (.aload_n 0, [0], 0, 0), (.iload_n 2, [2], 0, 0), (.invokevirtual 140, [181, 2, 8], 0, 0), (.if_icmp .lt 7, [37], 0, 0), (.iconst 3, [], 3, 0), (.goto 4, [38], 0, 0), (.iconst 0, [], 0, 0), (.ireturn, [0], 0, 0)]
def xk_197 : List (Nat × Nat) := [(0, 0), (1, 0), (2, 93), (5, 0), (6, 0), (7, 0), (8, 0), (9, 235), (12, 0), (15, 0), (16, 0), (17, 0), (18, 91), (21, 0), (22, 0), (25, 0), (26, 0), (29, 0), (30, 93), (33, 0), (34, 0), (35, 0), (36, 0), (37, 0), (38, 0), (41, 0), (42, 0), (43, 0), (44, 0), (45, 0), (46, 240), (49, 0), (50, 0), (51, 223), (54, 0), (57, 0), (58, 0), (61, 0), (62, 0)]
def xm_197 : xi_M := (8, "against", "(II)I", prog_10_method_48_code, some .int, 1, xk_197)
/-- GuineaHoursModel.oftenIn(II)I -/
def xc_198 : List xi_E := [(.iconst 0, [], 0, 0), (.istore_n 3, [3], 0, 0), (.iconst 0, [], 0, 0), (.istore 4, [4], 0, 0), (.iload 4, [4], 0, 0), (.iload_n 2, [2], 0, 0), (.if_icmp .gt 28, [21], 0, 0), (.iload_n 3, [3], 0, 0), (.aload_n 0, [0], 0, 0), (.getfield 39, [8, 19, 2], 0, 0), (.iload 4, [4], 0, 0), (.iaload, [], 0, 0), (.iload_n 1, [1], 0, 0), (.if_icmp .ne 7, [16], 0, 0), (.iconst 1, [], 1, 0), (.goto 4, [17], 0, 0), (.iconst 0, [], 0, 0), (.iadd, [], 0, 0), (.istore_n 3, [3], 0, 0), (.iinc 4 1, [4], 1, 0), (.goto (-28), [4], 0, 0), (.iload_n 3, [3], 0, 0), (.ireturn, [0], 0, 0)]
def xk_198 : List (Nat × Nat) := [(0, 0), (1, 0), (2, 0), (3, 0), (5, 0), (7, 0), (8, 0), (11, 0), (12, 0), (13, 93), (16, 0), (18, 0), (19, 0), (20, 0), (23, 0), (24, 0), (27, 0), (28, 0), (29, 0), (30, 0), (33, 0), (36, 0), (37, 0)]
def xm_198 : xi_M := (8, "oftenIn", "(II)I", prog_10_method_47_code, some .int, 1, xk_198)
/-- GuineaHoursModel.undo()I -/
def xc_199 : List xi_E := [(.aload_n 0, [0], 0, 0), (.getfield 57, [8, 18, 0], 0, 0), (.iconst 1, [], 1, 0), (.if_icmp .ge 6, [6], 0, 0), (.bipush (-4), [], (-4), 0), (.ireturn, [0], 0, 0), (.aload_n 0, [0], 0, 0), (.dup, [], 0, 0), (.getfield 57, [8, 18, 0], 0, 0), (.iconst 1, [], 1, 0), (.isub, [], 0, 0), (.putfield 57, [8, 18, 0], 0, 0), (.aload_n 0, [0], 0, 0), (.getfield 57, [8, 18, 0], 0, 0), (.ireturn, [0], 0, 0)]
def xk_199 : List (Nat × Nat) := [(0, 0), (1, 92), (4, 0), (5, 0), (8, 0), (10, 0), (11, 0), (12, 0), (13, 92), (16, 0), (17, 0), (18, 92), (21, 0), (22, 92), (25, 0)]
def xm_199 : xi_M := (8, "undo", "()I", prog_10_method_51_code, some .int, 1, xk_199)
/-- GuineaHoursModel.now()I -/
def xc_200 : List xi_E := [(.aload_n 0, [0], 0, 0), (.getfield 57, [8, 18, 0], 0, 0), (.bipush (-9), [], (-9), 0), (.if_icmp .ne 8, [6], 0, 0), (.bipush (-4), [], (-4), 0), (.goto 20, [15], 0, 0), (.aload_n 0, [0], 0, 0), (.aload_n 0, [0], 0, 0), (.getfield 57, [8, 18, 0], 0, 0), (.aload_n 0, [0], 0, 0), (.getfield 39, [8, 19, 2], 0, 0), (.aload_n 0, [0], 0, 0), (.getfield 57, [8, 18, 0], 0, 0), (.iaload, [], 0, 0), (.invokevirtual 95, [162, 3, 8], 0, 0), (.ireturn, [0], 0, 0)]
def xk_200 : List (Nat × Nat) := [(0, 0), (1, 92), (4, 0), (6, 0), (9, 0), (11, 0), (14, 0), (15, 0), (16, 92), (19, 0), (20, 93), (23, 0), (24, 92), (27, 0), (28, 203), (31, 0)]
def xm_200 : xi_M := (8, "now", "()I", prog_10_method_52_code, some .int, 1, xk_200)
/-- GuineaHoursModel.often(I)I -/
def xc_201 : List xi_E := [(.aload_n 0, [0], 0, 0), (.iload_n 1, [1], 0, 0), (.invokevirtual 143, [179, 2, 8], 0, 0), (.ifCond .ne 5, [6], 0, 0), (.iconst (-1), [], (-1), 0), (.ireturn, [0], 0, 0), (.aload_n 0, [0], 0, 0), (.getfield 57, [8, 18, 0], 0, 0), (.bipush (-9), [], (-9), 0), (.if_icmp .ne 8, [12], 0, 0), (.bipush (-4), [], (-4), 0), (.goto 12, [17], 0, 0), (.aload_n 0, [0], 0, 0), (.iload_n 1, [1], 0, 0), (.aload_n 0, [0], 0, 0), (.getfield 57, [8, 18, 0], 0, 0), (.invokevirtual 171, [198, 3, 8], 0, 0), (.ireturn, [0], 0, 0)]
def xk_201 : List (Nat × Nat) := [(0, 0), (1, 0), (2, 221), (5, 0), (8, 0), (9, 0), (10, 0), (11, 92), (14, 0), (16, 0), (19, 0), (21, 0), (24, 0), (25, 0), (26, 0), (27, 92), (30, 240), (33, 0)]
def xm_201 : xi_M := (8, "often", "(I)I", prog_10_method_53_code, some .int, 1, xk_201)
/-- GuineaHoursModel.can()I -/
def xc_202 : List xi_E := [(.aload_n 0, [0], 0, 0), (.getfield 57, [8, 18, 0], 0, 0), (.bipush (-9), [], (-9), 0), (.if_icmp .ne 8, [6], 0, 0), (.bipush (-4), [], (-4), 0), (.goto 7, [8], 0, 0), (.aload_n 0, [0], 0, 0), (.invokevirtual 180, [203, 1, 8], 0, 0), (.ireturn, [0], 0, 0)]
def xk_202 : List (Nat × Nat) := [(0, 0), (1, 92), (4, 0), (6, 0), (9, 0), (11, 0), (14, 0), (15, 245), (18, 0)]
def xm_202 : xi_M := (8, "can", "()I", prog_10_method_55_code, some .int, 1, xk_202)
/-- GuineaHoursModel.canNow()I -/
def xc_203 : List xi_E := [(.iconst 0, [], 0, 0), (.istore_n 1, [1], 0, 0), (.iconst 0, [], 0, 0), (.istore_n 2, [2], 0, 0), (.iload_n 2, [2], 0, 0), (.aload_n 0, [0], 0, 0), (.getfield 128, [8, 10, 0], 0, 0), (.if_icmp .ge 42, [29], 0, 0), (.aload_n 0, [0], 0, 0), (.getfield 57, [8, 18, 0], 0, 0), (.aload_n 0, [0], 0, 0), (.getfield 131, [8, 11, 0], 0, 0), (.if_icmp .ge 31, [29], 0, 0), (.iload_n 1, [1], 0, 0), (.aload_n 0, [0], 0, 0), (.aload_n 0, [0], 0, 0), (.getfield 57, [8, 18, 0], 0, 0), (.iload_n 2, [2], 0, 0), (.invokevirtual 177, [197, 3, 8], 0, 0), (.ifCond .ne 9, [24], 0, 0), (.iconst 1, [], 1, 0), (.iload_n 2, [2], 0, 0), (.ishl, [], 0, 0), (.goto 4, [25], 0, 0), (.iconst 0, [], 0, 0), (.ior, [], 0, 0), (.istore_n 1, [1], 0, 0), (.iinc 2 1, [2], 1, 0), (.goto (-44), [4], 0, 0), (.iload_n 1, [1], 0, 0), (.ireturn, [0], 0, 0)]
def xk_203 : List (Nat × Nat) := [(0, 0), (1, 0), (2, 0), (3, 0), (4, 0), (5, 0), (6, 84), (9, 0), (12, 0), (13, 92), (16, 0), (17, 85), (20, 0), (23, 0), (24, 0), (25, 0), (26, 92), (29, 0), (30, 239), (33, 0), (36, 0), (37, 0), (38, 0), (39, 0), (42, 0), (43, 0), (44, 0), (45, 0), (48, 0), (51, 0), (52, 0)]
def xm_203 : xi_M := (8, "canNow", "()I", prog_10_method_54_code, some .int, 1, xk_203)
/-- GuineaHoursModel.ends()I -/
def xc_204 : List xi_E := [(.aload_n 0, [0], 0, 0), (.getfield 57, [8, 18, 0], 0, 0), (.bipush (-9), [], (-9), 0), (.if_icmp .ne 6, [6], 0, 0), (.bipush (-4), [], (-4), 0), (.ireturn, [0], 0, 0), (.aload_n 0, [0], 0, 0), (.invokevirtual 209, [205, 1, 8], 0, 0), (.aload_n 0, [0], 0, 0), (.bipush (-9), [], (-9), 0), (.invokevirtual 212, [206, 2, 8], 0, 0), (.aload_n 0, [0], 0, 0), (.aload_n 0, [0], 0, 0), (.getfield 57, [8, 18, 0], 0, 0), (.iconst 0, [], 0, 0), (.invokevirtual 190, [207, 3, 8], 0, 0), (.aload_n 0, [0], 0, 0), (.invokevirtual 216, [210, 1, 8], 0, 0), (.aload_n 0, [0], 0, 0), (.aload_n 0, [0], 0, 0), (.getfield 194, [8, 22, 0], 0, 0), (.aload_n 0, [0], 0, 0), (.getfield 200, [8, 21, 0], 0, 0), (.invokevirtual 95, [162, 3, 8], 0, 0), (.ireturn, [0], 0, 0)]
def xk_204 : List (Nat × Nat) := [(0, 0), (1, 92), (4, 0), (6, 0), (9, 0), (11, 0), (12, 0), (13, 247), (16, 0), (17, 0), (19, 248), (22, 0), (23, 0), (24, 92), (27, 0), (28, 249), (31, 0), (32, 252), (35, 0), (36, 0), (37, 96), (40, 0), (41, 95), (44, 203), (47, 0)]
def xm_204 : xi_M := (8, "ends", "()I", prog_10_method_61_code, some .int, 1, xk_204)
/-- GuineaHoursModel.putAside()V -/
def xc_205 : List xi_E := [(.iconst 0, [], 0, 0), (.istore_n 1, [1], 0, 0), (.iload_n 1, [1], 0, 0), (.bipush 6, [], 6, 0), (.if_icmp .ge 21, [15], 0, 0), (.aload_n 0, [0], 0, 0), (.getfield 42, [8, 20, 2], 0, 0), (.iload_n 1, [1], 0, 0), (.aload_n 0, [0], 0, 0), (.getfield 39, [8, 19, 2], 0, 0), (.iload_n 1, [1], 0, 0), (.iaload, [], 0, 0), (.iastore, [], 0, 0), (.iinc 1 1, [1], 1, 0), (.goto (-21), [2], 0, 0), (.return_, [], 0, 0)]
def xk_205 : List (Nat × Nat) := [(0, 0), (1, 0), (2, 0), (3, 0), (5, 0), (8, 0), (9, 94), (12, 0), (13, 0), (14, 93), (17, 0), (18, 0), (19, 0), (20, 0), (23, 0), (26, 0)]
def xm_205 : xi_M := (8, "putAside", "()V", prog_10_method_56_code, none, 1, xk_205)
/-- GuineaHoursModel.wipeRows(I)V -/
def xc_206 : List xi_E := [(.aload_n 0, [0], 0, 0), (.iload_n 1, [1], 0, 0), (.putfield 197, [8, 23, 0], 0, 0), (.aload_n 0, [0], 0, 0), (.iconst 0, [], 0, 0), (.putfield 200, [8, 21, 0], 0, 0), (.aload_n 0, [0], 0, 0), (.iconst 0, [], 0, 0), (.putfield 194, [8, 22, 0], 0, 0), (.aload_n 0, [0], 0, 0), (.iconst 0, [], 0, 0), (.putfield 206, [8, 27, 0], 0, 0), (.aload_n 0, [0], 0, 0), (.iconst 1, [], 1, 0), (.aload_n 0, [0], 0, 0), (.getfield 128, [8, 10, 0], 0, 0), (.ishl, [], 0, 0), (.iconst 1, [], 1, 0), (.isub, [], 0, 0), (.putfield 203, [8, 24, 0], 0, 0), (.iconst 0, [], 0, 0), (.istore_n 2, [2], 0, 0), (.iload_n 2, [2], 0, 0), (.bipush 42, [], 42, 0), (.if_icmp .ge 16, [32], 0, 0), (.aload_n 0, [0], 0, 0), (.getfield 48, [8, 26, 2], 0, 0), (.iload_n 2, [2], 0, 0), (.iconst 0, [], 0, 0), (.iastore, [], 0, 0), (.iinc 2 1, [2], 1, 0), (.goto (-16), [22], 0, 0), (.return_, [], 0, 0)]
def xk_206 : List (Nat × Nat) := [(0, 0), (1, 0), (2, 97), (5, 0), (6, 0), (7, 95), (10, 0), (11, 0), (12, 96), (15, 0), (16, 0), (17, 101), (20, 0), (21, 0), (22, 0), (23, 84), (26, 0), (27, 0), (28, 0), (29, 98), (32, 0), (33, 0), (34, 0), (35, 0), (37, 0), (40, 0), (41, 100), (44, 0), (45, 0), (46, 0), (47, 0), (50, 0), (53, 0)]
def xm_206 : xi_M := (8, "wipeRows", "(I)V", prog_10_method_60_code, none, 1, xk_206)
/-- GuineaHoursModel.rowsOn(IZ)V -/
def xc_207 : List xi_E := [(.iload_n 2, [2], 0, 0), (.ifCond .eq 12, [7], 0, 0), (.aload_n 0, [0], 0, 0), (.iload_n 1, [1], 0, 0), (.invokevirtual 184, [208, 2, 8], 0, 0), (.ifCond .ne 4, [7], 0, 0), (.return_, [], 0, 0), (.iload_n 1, [1], 0, 0), (.aload_n 0, [0], 0, 0), (.getfield 131, [8, 11, 0], 0, 0), (.if_icmp .ne 8, [14], 0, 0), (.aload_n 0, [0], 0, 0), (.invokevirtual 187, [209, 1, 8], 0, 0), (.return_, [], 0, 0), (.iconst 0, [], 0, 0), (.istore_n 3, [3], 0, 0), (.iload_n 3, [3], 0, 0), (.aload_n 0, [0], 0, 0), (.getfield 128, [8, 10, 0], 0, 0), (.if_icmp .ge 35, [40], 0, 0), (.aload_n 0, [0], 0, 0), (.iload_n 1, [1], 0, 0), (.iload_n 3, [3], 0, 0), (.invokevirtual 177, [197, 3, 8], 0, 0), (.ifCond .ne 20, [38], 0, 0), (.aload_n 0, [0], 0, 0), (.getfield 39, [8, 19, 2], 0, 0), (.iload_n 1, [1], 0, 0), (.iconst 1, [], 1, 0), (.iadd, [], 0, 0), (.iload_n 3, [3], 0, 0), (.iastore, [], 0, 0), (.aload_n 0, [0], 0, 0), (.iload_n 1, [1], 0, 0), (.iconst 1, [], 1, 0), (.iadd, [], 0, 0), (.iload_n 2, [2], 0, 0), (.invokevirtual 190, [207, 3, 8], 0, 0), (.iinc 3 1, [3], 1, 0), (.goto (-37), [16], 0, 0), (.return_, [], 0, 0)]
def xk_207 : List (Nat × Nat) := [(0, 0), (1, 0), (4, 0), (5, 0), (6, 250), (9, 0), (12, 0), (13, 0), (14, 0), (15, 85), (18, 0), (21, 0), (22, 251), (25, 0), (26, 0), (27, 0), (28, 0), (29, 0), (30, 84), (33, 0), (36, 0), (37, 0), (38, 0), (39, 239), (42, 0), (45, 0), (46, 93), (49, 0), (50, 0), (51, 0), (52, 0), (53, 0), (54, 0), (55, 0), (56, 0), (57, 0), (58, 0), (59, 249), (62, 0), (65, 0), (68, 0)]
def xm_207 : xi_M := (8, "rowsOn", "(IZ)V", prog_10_method_58_code, none, 1, xk_207)
/-- GuineaHoursModel.fitsSight(I)Z -/
def xc_208 : List xi_E := [(.iconst 0, [], 0, 0), (.istore_n 2, [2], 0, 0), (.iload_n 2, [2], 0, 0), (.aload_n 0, [0], 0, 0), (.getfield 134, [8, 32, 0], 0, 0), (.if_icmp .ge 71, [50], 0, 0), (.aload_n 0, [0], 0, 0), (.getfield 39, [8, 19, 2], 0, 0), (.iload_n 1, [1], 0, 0), (.iaload, [], 0, 0), (.aload_n 0, [0], 0, 0), (.getfield 54, [8, 31, 2], 0, 0), (.iconst 3, [], 3, 0), (.iload_n 2, [2], 0, 0), (.imul, [], 0, 0), (.iconst 1, [], 1, 0), (.iadd, [], 0, 0), (.iaload, [], 0, 0), (.if_icmp .ne 7, [21], 0, 0), (.iconst 1, [], 1, 0), (.goto 4, [22], 0, 0), (.iconst 0, [], 0, 0), (.istore_n 3, [3], 0, 0), (.aload_n 0, [0], 0, 0), (.getfield 54, [8, 31, 2], 0, 0), (.iconst 3, [], 3, 0), (.iload_n 2, [2], 0, 0), (.imul, [], 0, 0), (.iaload, [], 0, 0), (.iload_n 1, [1], 0, 0), (.if_icmp .ne 28, [48], 0, 0), (.iload_n 3, [3], 0, 0), (.aload_n 0, [0], 0, 0), (.getfield 54, [8, 31, 2], 0, 0), (.iconst 3, [], 3, 0), (.iload_n 2, [2], 0, 0), (.imul, [], 0, 0), (.iconst 2, [], 2, 0), (.iadd, [], 0, 0), (.iaload, [], 0, 0), (.iconst 1, [], 1, 0), (.if_icmp .ne 7, [44], 0, 0), (.iconst 1, [], 1, 0), (.goto 4, [45], 0, 0), (.iconst 0, [], 0, 0), (.if_icmp .eq 5, [48], 0, 0), (.iconst 0, [], 0, 0), (.ireturn, [1], 0, 0), (.iinc 2 1, [2], 1, 0), (.goto (-73), [2], 0, 0), (.iconst 1, [], 1, 0), (.ireturn, [1], 0, 0)]
def xk_208 : List (Nat × Nat) := [(0, 0), (1, 0), (2, 0), (3, 0), (4, 106), (7, 0), (10, 0), (11, 93), (14, 0), (15, 0), (16, 0), (17, 105), (20, 0), (21, 0), (22, 0), (23, 0), (24, 0), (25, 0), (26, 0), (29, 0), (30, 0), (33, 0), (34, 0), (35, 0), (36, 105), (39, 0), (40, 0), (41, 0), (42, 0), (43, 0), (44, 0), (47, 0), (48, 0), (49, 105), (52, 0), (53, 0), (54, 0), (55, 0), (56, 0), (57, 0), (58, 0), (59, 0), (62, 0), (63, 0), (66, 0), (67, 0), (70, 0), (71, 0), (72, 0), (75, 0), (78, 0), (79, 0)]
def xm_208 : xi_M := (8, "fitsSight", "(I)Z", prog_10_method_82_code, some .boolean, 1, xk_208)
/-- GuineaHoursModel.meetRow()V -/
def xc_209 : List xi_E := [(.aload_n 0, [0], 0, 0), (.getfield 39, [8, 19, 2], 0, 0), (.aload_n 0, [0], 0, 0), (.getfield 131, [8, 11, 0], 0, 0), (.iaload, [], 0, 0), (.istore_n 1, [1], 0, 0), (.aload_n 0, [0], 0, 0), (.dup, [], 0, 0), (.getfield 194, [8, 22, 0], 0, 0), (.iconst 1, [], 1, 0), (.iload_n 1, [1], 0, 0), (.ishl, [], 0, 0), (.ior, [], 0, 0), (.putfield 194, [8, 22, 0], 0, 0), (.aload_n 0, [0], 0, 0), (.getfield 197, [8, 23, 0], 0, 0), (.bipush (-9), [], (-9), 0), (.if_icmp .eq 12, [23], 0, 0), (.iload_n 1, [1], 0, 0), (.aload_n 0, [0], 0, 0), (.getfield 197, [8, 23, 0], 0, 0), (.if_icmp .eq 4, [23], 0, 0), (.return_, [], 0, 0), (.iconst 0, [], 0, 0), (.istore_n 2, [2], 0, 0), (.iconst 0, [], 0, 0), (.istore_n 3, [3], 0, 0), (.iload_n 3, [3], 0, 0), (.aload_n 0, [0], 0, 0), (.getfield 131, [8, 11, 0], 0, 0), (.if_icmp .gt 68, [73], 0, 0), (.iload_n 2, [2], 0, 0), (.iconst 1, [], 1, 0), (.aload_n 0, [0], 0, 0), (.getfield 39, [8, 19, 2], 0, 0), (.iload_n 3, [3], 0, 0), (.iaload, [], 0, 0), (.ishl, [], 0, 0), (.ior, [], 0, 0), (.istore_n 2, [2], 0, 0), (.aload_n 0, [0], 0, 0), (.getfield 48, [8, 26, 2], 0, 0), (.bipush 7, [], 7, 0), (.iload_n 3, [3], 0, 0), (.imul, [], 0, 0), (.aload_n 0, [0], 0, 0), (.getfield 39, [8, 19, 2], 0, 0), (.iload_n 3, [3], 0, 0), (.iaload, [], 0, 0), (.iadd, [], 0, 0), (.dup2, [], 0, 0), (.iaload, [], 0, 0), (.iconst 1, [], 1, 0), (.iadd, [], 0, 0), (.iastore, [], 0, 0), (.aload_n 0, [0], 0, 0), (.getfield 45, [8, 25, 2], 0, 0), (.iload_n 3, [3], 0, 0), (.aload_n 0, [0], 0, 0), (.getfield 200, [8, 21, 0], 0, 0), (.ifCond .ne 12, [66], 0, 0), (.aload_n 0, [0], 0, 0), (.getfield 39, [8, 19, 2], 0, 0), (.iload_n 3, [3], 0, 0), (.iaload, [], 0, 0), (.goto 9, [70], 0, 0), (.aload_n 0, [0], 0, 0), (.getfield 45, [8, 25, 2], 0, 0), (.iload_n 3, [3], 0, 0), (.iaload, [], 0, 0), (.iastore, [], 0, 0), (.iinc 3 1, [3], 1, 0), (.goto (-70), [27], 0, 0), (.aload_n 0, [0], 0, 0), (.dup, [], 0, 0), (.getfield 200, [8, 21, 0], 0, 0), (.iconst 1, [], 1, 0), (.iadd, [], 0, 0), (.putfield 200, [8, 21, 0], 0, 0), (.aload_n 0, [0], 0, 0), (.dup, [], 0, 0), (.getfield 203, [8, 24, 0], 0, 0), (.iload_n 2, [2], 0, 0), (.iand, [], 0, 0), (.putfield 203, [8, 24, 0], 0, 0), (.aload_n 0, [0], 0, 0), (.dup, [], 0, 0), (.getfield 206, [8, 27, 0], 0, 0), (.iconst 1, [], 1, 0), (.aload_n 0, [0], 0, 0), (.getfield 39, [8, 19, 2], 0, 0), (.iconst 0, [], 0, 0), (.iaload, [], 0, 0), (.ishl, [], 0, 0), (.ior, [], 0, 0), (.putfield 206, [8, 27, 0], 0, 0), (.return_, [], 0, 0)]
def xk_209 : List (Nat × Nat) := [(0, 0), (1, 93), (4, 0), (5, 85), (8, 0), (9, 0), (10, 0), (11, 0), (12, 96), (15, 0), (16, 0), (17, 0), (18, 0), (19, 96), (22, 0), (23, 97), (26, 0), (28, 0), (31, 0), (32, 0), (33, 97), (36, 0), (39, 0), (40, 0), (41, 0), (42, 0), (43, 0), (44, 0), (45, 0), (46, 85), (49, 0), (52, 0), (53, 0), (54, 0), (55, 93), (58, 0), (59, 0), (60, 0), (61, 0), (62, 0), (63, 0), (64, 100), (67, 0), (69, 0), (70, 0), (71, 0), (72, 93), (75, 0), (76, 0), (77, 0), (78, 0), (79, 0), (80, 0), (81, 0), (82, 0), (83, 0), (84, 99), (87, 0), (88, 0), (89, 95), (92, 0), (95, 0), (96, 93), (99, 0), (100, 0), (101, 0), (104, 0), (105, 99), (108, 0), (109, 0), (110, 0), (111, 0), (114, 0), (117, 0), (118, 0), (119, 95), (122, 0), (123, 0), (124, 95), (127, 0), (128, 0), (129, 98), (132, 0), (133, 0), (134, 98), (137, 0), (138, 0), (139, 101), (142, 0), (143, 0), (144, 93), (147, 0), (148, 0), (149, 0), (150, 0), (151, 101), (154, 0)]
def xm_209 : xi_M := (8, "meetRow", "()V", prog_10_method_59_code, none, 1, xk_209)
/-- GuineaHoursModel.comeBack()V -/
def xc_210 : List xi_E := [(.iconst 0, [], 0, 0), (.istore_n 1, [1], 0, 0), (.iload_n 1, [1], 0, 0), (.bipush 6, [], 6, 0), (.if_icmp .ge 21, [15], 0, 0), (.aload_n 0, [0], 0, 0), (.getfield 39, [8, 19, 2], 0, 0), (.iload_n 1, [1], 0, 0), (.aload_n 0, [0], 0, 0), (.getfield 42, [8, 20, 2], 0, 0), (.iload_n 1, [1], 0, 0), (.iaload, [], 0, 0), (.iastore, [], 0, 0), (.iinc 1 1, [1], 1, 0), (.goto (-21), [2], 0, 0), (.return_, [], 0, 0)]
def xk_210 : List (Nat × Nat) := [(0, 0), (1, 0), (2, 0), (3, 0), (5, 0), (8, 0), (9, 93), (12, 0), (13, 0), (14, 94), (17, 0), (18, 0), (19, 0), (20, 0), (23, 0), (26, 0)]
def xm_210 : xi_M := (8, "comeBack", "()V", prog_10_method_57_code, none, 1, xk_210)
/-- GuineaHoursModel.keep(I)I -/
def xc_211 : List xi_E := [(.iload_n 1, [1], 0, 0), (.iconst 0, [], 0, 0), (.iconst 2, [], 2, 0), (.invokestatic 69, [156, 3], 0, 0), (.ifCond .ne 5, [7], 0, 0), (.iconst (-1), [], (-1), 0), (.ireturn, [0], 0, 0), (.aload_n 0, [0], 0, 0), (.getfield 57, [8, 18, 0], 0, 0), (.bipush (-9), [], (-9), 0), (.if_icmp .ne 6, [13], 0, 0), (.bipush (-4), [], (-4), 0), (.ireturn, [0], 0, 0), (.bipush 10, [], 10, 0), (.iload_n 1, [1], 0, 0), (.imul, [], 0, 0), (.istore_n 2, [2], 0, 0), (.aload_n 0, [0], 0, 0), (.getfield 51, [8, 28, 2], 0, 0), (.iload_n 2, [2], 0, 0), (.aload_n 0, [0], 0, 0), (.getfield 57, [8, 18, 0], 0, 0), (.iastore, [], 0, 0), (.aload_n 0, [0], 0, 0), (.getfield 51, [8, 28, 2], 0, 0), (.iload_n 2, [2], 0, 0), (.iconst 1, [], 1, 0), (.iadd, [], 0, 0), (.aload_n 0, [0], 0, 0), (.getfield 35, [8, 16, 0], 0, 0), (.iastore, [], 0, 0), (.aload_n 0, [0], 0, 0), (.getfield 51, [8, 28, 2], 0, 0), (.iload_n 2, [2], 0, 0), (.iconst 2, [], 2, 0), (.iadd, [], 0, 0), (.aload_n 0, [0], 0, 0), (.getfield 162, [8, 17, 0], 0, 0), (.iastore, [], 0, 0), (.iconst 0, [], 0, 0), (.istore_n 3, [3], 0, 0), (.iload_n 3, [3], 0, 0), (.bipush 6, [], 6, 0), (.if_icmp .ge 25, [58], 0, 0), (.aload_n 0, [0], 0, 0), (.getfield 51, [8, 28, 2], 0, 0), (.iload_n 2, [2], 0, 0), (.iconst 3, [], 3, 0), (.iadd, [], 0, 0), (.iload_n 3, [3], 0, 0), (.iadd, [], 0, 0), (.aload_n 0, [0], 0, 0), (.getfield 39, [8, 19, 2], 0, 0), (.iload_n 3, [3], 0, 0), (.iaload, [], 0, 0), (.iastore, [], 0, 0), (.iinc 3 1, [3], 1, 0), (.goto (-25), [41], 0, 0), (.aload_n 0, [0], 0, 0), (.getfield 57, [8, 18, 0], 0, 0), (.ireturn, [0], 0, 0)]
def xk_211 : List (Nat × Nat) := [(0, 0), (1, 0), (2, 0), (3, 197), (6, 0), (9, 0), (10, 0), (11, 0), (12, 92), (15, 0), (17, 0), (20, 0), (22, 0), (23, 0), (25, 0), (26, 0), (27, 0), (28, 0), (29, 102), (32, 0), (33, 0), (34, 92), (37, 0), (38, 0), (39, 102), (42, 0), (43, 0), (44, 0), (45, 0), (46, 90), (49, 0), (50, 0), (51, 102), (54, 0), (55, 0), (56, 0), (57, 0), (58, 91), (61, 0), (62, 0), (63, 0), (64, 0), (65, 0), (67, 0), (70, 0), (71, 102), (74, 0), (75, 0), (76, 0), (77, 0), (78, 0), (79, 0), (80, 93), (83, 0), (84, 0), (85, 0), (86, 0), (89, 0), (92, 0), (93, 92), (96, 0)]
def xm_211 : xi_M := (8, "keep", "(I)I", prog_10_method_62_code, some .int, 1, xk_211)
/-- GuineaHoursModel.on(I)I -/
def xc_212 : List xi_E := [(.iload_n 1, [1], 0, 0), (.iconst 0, [], 0, 0), (.iconst 2, [], 2, 0), (.invokestatic 69, [156, 3], 0, 0), (.ifCond .ne 5, [7], 0, 0), (.iconst (-1), [], (-1), 0), (.ireturn, [0], 0, 0), (.bipush 10, [], 10, 0), (.iload_n 1, [1], 0, 0), (.imul, [], 0, 0), (.istore_n 2, [2], 0, 0), (.aload_n 0, [0], 0, 0), (.getfield 51, [8, 28, 2], 0, 0), (.iload_n 2, [2], 0, 0), (.iaload, [], 0, 0), (.bipush (-9), [], (-9), 0), (.if_icmp .ne 9, [21], 0, 0), (.aload_n 0, [0], 0, 0), (.iconst 1, [], 1, 0), (.invokevirtual 77, [157, 2, 8], 0, 0), (.ireturn, [0], 0, 0), (.aload_n 0, [0], 0, 0), (.aload_n 0, [0], 0, 0), (.getfield 51, [8, 28, 2], 0, 0), (.iload_n 2, [2], 0, 0), (.iaload, [], 0, 0), (.putfield 57, [8, 18, 0], 0, 0), (.aload_n 0, [0], 0, 0), (.aload_n 0, [0], 0, 0), (.getfield 51, [8, 28, 2], 0, 0), (.iload_n 2, [2], 0, 0), (.iconst 1, [], 1, 0), (.iadd, [], 0, 0), (.iaload, [], 0, 0), (.putfield 35, [8, 16, 0], 0, 0), (.aload_n 0, [0], 0, 0), (.aload_n 0, [0], 0, 0), (.getfield 51, [8, 28, 2], 0, 0), (.iload_n 2, [2], 0, 0), (.iconst 2, [], 2, 0), (.iadd, [], 0, 0), (.iaload, [], 0, 0), (.putfield 162, [8, 17, 0], 0, 0), (.iconst 0, [], 0, 0), (.istore_n 3, [3], 0, 0), (.iload_n 3, [3], 0, 0), (.bipush 6, [], 6, 0), (.if_icmp .ge 25, [62], 0, 0), (.aload_n 0, [0], 0, 0), (.getfield 39, [8, 19, 2], 0, 0), (.iload_n 3, [3], 0, 0), (.aload_n 0, [0], 0, 0), (.getfield 51, [8, 28, 2], 0, 0), (.iload_n 2, [2], 0, 0), (.iconst 3, [], 3, 0), (.iadd, [], 0, 0), (.iload_n 3, [3], 0, 0), (.iadd, [], 0, 0), (.iaload, [], 0, 0), (.iastore, [], 0, 0), (.iinc 3 1, [3], 1, 0), (.goto (-25), [45], 0, 0), (.aload_n 0, [0], 0, 0), (.getfield 57, [8, 18, 0], 0, 0), (.ireturn, [0], 0, 0)]
def xk_212 : List (Nat × Nat) := [(0, 0), (1, 0), (2, 0), (3, 197), (6, 0), (9, 0), (10, 0), (11, 0), (13, 0), (14, 0), (15, 0), (16, 0), (17, 102), (20, 0), (21, 0), (22, 0), (24, 0), (27, 0), (28, 0), (29, 198), (32, 0), (33, 0), (34, 0), (35, 102), (38, 0), (39, 0), (40, 92), (43, 0), (44, 0), (45, 102), (48, 0), (49, 0), (50, 0), (51, 0), (52, 90), (55, 0), (56, 0), (57, 102), (60, 0), (61, 0), (62, 0), (63, 0), (64, 91), (67, 0), (68, 0), (69, 0), (70, 0), (72, 0), (75, 0), (76, 93), (79, 0), (80, 0), (81, 102), (84, 0), (85, 0), (86, 0), (87, 0), (88, 0), (89, 0), (90, 0), (91, 0), (94, 0), (97, 0), (98, 92), (101, 0)]
def xm_212 : xi_M := (8, "on", "(I)I", prog_10_method_63_code, some .int, 1, xk_212)
/-- GuineaHoursModel.judge(I)I -/
def xc_213 : List xi_E := [(.iload_n 1, [1], 0, 0), (.invokestatic 73, [155, 1], 0, 0), (.ifCond .ne 5, [5], 0, 0), (.iconst (-1), [], (-1), 0), (.ireturn, [0], 0, 0), (.aload_n 0, [0], 0, 0), (.getfield 131, [8, 11, 0], 0, 0), (.ifCond .ne 6, [10], 0, 0), (.bipush (-4), [], (-4), 0), (.ireturn, [0], 0, 0), (.aload_n 0, [0], 0, 0), (.iload_n 1, [1], 0, 0), (.invokevirtual 88, [160, 2, 8], 0, 0), (.istore_n 2, [2], 0, 0), (.iload_n 2, [2], 0, 0), (.ifCond .ge 5, [18], 0, 0), (.iload_n 2, [2], 0, 0), (.ireturn, [0], 0, 0), (.aload_n 0, [0], 0, 0), (.getfield 17, [8, 5, 2], 0, 0), (.iload_n 1, [1], 0, 0), (.iaload, [], 0, 0), (.aload_n 0, [0], 0, 0), (.getfield 131, [8, 11, 0], 0, 0), (.iconst 1, [], 1, 0), (.iadd, [], 0, 0), (.if_icmp .eq 9, [31], 0, 0), (.aload_n 0, [0], 0, 0), (.iconst 5, [], 5, 0), (.invokevirtual 77, [157, 2, 8], 0, 0), (.ireturn, [0], 0, 0), (.iconst 0, [], 0, 0), (.istore_n 3, [3], 0, 0), (.iload_n 3, [3], 0, 0), (.aload_n 0, [0], 0, 0), (.getfield 131, [8, 11, 0], 0, 0), (.if_icmp .gt 28, [50], 0, 0), (.aload_n 0, [0], 0, 0), (.aload_n 0, [0], 0, 0), (.iload_n 1, [1], 0, 0), (.iload_n 3, [3], 0, 0), (.invokevirtual 91, [161, 3, 8], 0, 0), (.invokevirtual 143, [179, 2, 8], 0, 0), (.ifCond .ne 9, [48], 0, 0), (.aload_n 0, [0], 0, 0), (.iconst 3, [], 3, 0), (.invokevirtual 77, [157, 2, 8], 0, 0), (.ireturn, [0], 0, 0), (.iinc 3 1, [3], 1, 0), (.goto (-30), [33], 0, 0), (.aload_n 0, [0], 0, 0), (.invokevirtual 209, [205, 1, 8], 0, 0), (.aload_n 0, [0], 0, 0), (.getfield 39, [8, 19, 2], 0, 0), (.iconst 0, [], 0, 0), (.aload_n 0, [0], 0, 0), (.iload_n 1, [1], 0, 0), (.iconst 0, [], 0, 0), (.invokevirtual 91, [161, 3, 8], 0, 0), (.iastore, [], 0, 0), (.iconst 0, [], 0, 0), (.istore_n 3, [3], 0, 0), (.iconst 0, [], 0, 0), (.istore 4, [4], 0, 0), (.iload_n 3, [3], 0, 0), (.aload_n 0, [0], 0, 0), (.getfield 131, [8, 11, 0], 0, 0), (.if_icmp .ge 55, [101], 0, 0), (.iload 4, [4], 0, 0), (.ifCond .ne 50, [101], 0, 0), (.aload_n 0, [0], 0, 0), (.iload_n 3, [3], 0, 0), (.aload_n 0, [0], 0, 0), (.iload_n 1, [1], 0, 0), (.iload_n 3, [3], 0, 0), (.iconst 1, [], 1, 0), (.iadd, [], 0, 0), (.invokevirtual 91, [161, 3, 8], 0, 0), (.invokevirtual 177, [197, 3, 8], 0, 0), (.istore 4, [4], 0, 0), (.aload_n 0, [0], 0, 0), (.getfield 39, [8, 19, 2], 0, 0), (.iload_n 3, [3], 0, 0), (.iconst 1, [], 1, 0), (.iadd, [], 0, 0), (.aload_n 0, [0], 0, 0), (.iload_n 1, [1], 0, 0), (.iload_n 3, [3], 0, 0), (.iconst 1, [], 1, 0), (.iadd, [], 0, 0), (.invokevirtual 91, [161, 3, 8], 0, 0), (.iastore, [], 0, 0), (.iload_n 3, [3], 0, 0), (.iload 4, [4], 0, 0), (.ifCond .ne 7, [97], 0, 0), (.iconst 1, [], 1, 0), (.goto 4, [98], 0, 0), (.iconst 0, [], 0, 0), (.iadd, [], 0, 0), (.istore_n 3, [3], 0, 0), (.goto (-57), [64], 0, 0), (.aload_n 0, [0], 0, 0), (.invokevirtual 216, [210, 1, 8], 0, 0), (.aload_n 0, [0], 0, 0), (.iload 4, [4], 0, 0), (.iload_n 3, [3], 0, 0), (.invokevirtual 95, [162, 3, 8], 0, 0), (.ireturn, [0], 0, 0)]
def xk_213 : List (Nat × Nat) := [(0, 0), (1, 196), (4, 0), (7, 0), (8, 0), (9, 0), (10, 85), (13, 0), (16, 0), (18, 0), (19, 0), (20, 0), (21, 201), (24, 0), (25, 0), (26, 0), (29, 0), (30, 0), (31, 0), (32, 79), (35, 0), (36, 0), (37, 0), (38, 85), (41, 0), (42, 0), (43, 0), (46, 0), (47, 0), (48, 198), (51, 0), (52, 0), (53, 0), (54, 0), (55, 0), (56, 85), (59, 0), (62, 0), (63, 0), (64, 0), (65, 0), (66, 202), (69, 221), (72, 0), (75, 0), (76, 0), (77, 198), (80, 0), (81, 0), (84, 0), (87, 0), (88, 247), (91, 0), (92, 93), (95, 0), (96, 0), (97, 0), (98, 0), (99, 202), (102, 0), (103, 0), (104, 0), (105, 0), (106, 0), (108, 0), (109, 0), (110, 85), (113, 0), (116, 0), (118, 0), (121, 0), (122, 0), (123, 0), (124, 0), (125, 0), (126, 0), (127, 0), (128, 202), (131, 239), (134, 0), (136, 0), (137, 93), (140, 0), (141, 0), (142, 0), (143, 0), (144, 0), (145, 0), (146, 0), (147, 0), (148, 202), (151, 0), (152, 0), (153, 0), (155, 0), (158, 0), (159, 0), (162, 0), (163, 0), (164, 0), (165, 0), (168, 0), (169, 252), (172, 0), (173, 0), (175, 0), (176, 203), (179, 0)]
def xm_213 : xi_M := (8, "judge", "(I)I", prog_10_method_64_code, some .int, 1, xk_213)
/-- GuineaHoursModel.ways(II)I -/
def xc_214 : List xi_E := [(.aload_n 0, [0], 0, 0), (.iload_n 1, [1], 0, 0), (.iload_n 2, [2], 0, 0), (.invokevirtual 219, [215, 3, 8], 0, 0), (.ifCond .ne 5, [7], 0, 0), (.iconst (-1), [], (-1), 0), (.ireturn, [0], 0, 0), (.aload_n 0, [0], 0, 0), (.iload_n 1, [1], 0, 0), (.iload_n 2, [2], 0, 0), (.invokevirtual 222, [216, 3, 8], 0, 0), (.aload_n 0, [0], 0, 0), (.getfield 200, [8, 21, 0], 0, 0), (.ireturn, [0], 0, 0)]
def xk_214 : List (Nat × Nat) := [(0, 0), (1, 0), (2, 0), (3, 257), (6, 0), (9, 0), (10, 0), (11, 0), (12, 0), (13, 0), (14, 258), (17, 0), (18, 95), (21, 0)]
def xm_214 : xi_M := (8, "ways", "(II)I", prog_10_method_67_code, some .int, 1, xk_214)
/-- GuineaHoursModel.areTwo(II)Z -/
def xc_215 : List xi_E := [(.aload_n 0, [0], 0, 0), (.iload_n 1, [1], 0, 0), (.invokevirtual 143, [179, 2, 8], 0, 0), (.ifCond .eq 15, [10], 0, 0), (.aload_n 0, [0], 0, 0), (.iload_n 2, [2], 0, 0), (.invokevirtual 143, [179, 2, 8], 0, 0), (.ifCond .eq 7, [10], 0, 0), (.iconst 1, [], 1, 0), (.goto 4, [11], 0, 0), (.iconst 0, [], 0, 0), (.ireturn, [1], 0, 0)]
def xk_215 : List (Nat × Nat) := [(0, 0), (1, 0), (2, 221), (5, 0), (8, 0), (9, 0), (10, 221), (13, 0), (16, 0), (17, 0), (20, 0), (21, 0)]
def xm_215 : xi_M := (8, "areTwo", "(II)Z", prog_10_method_65_code, some .boolean, 1, xk_215)
/-- GuineaHoursModel.setRows(II)V -/
def xc_216 : List xi_E := [(.aload_n 0, [0], 0, 0), (.invokevirtual 209, [205, 1, 8], 0, 0), (.aload_n 0, [0], 0, 0), (.iload_n 2, [2], 0, 0), (.invokevirtual 212, [206, 2, 8], 0, 0), (.aload_n 0, [0], 0, 0), (.getfield 39, [8, 19, 2], 0, 0), (.iconst 0, [], 0, 0), (.iload_n 1, [1], 0, 0), (.iastore, [], 0, 0), (.aload_n 0, [0], 0, 0), (.iconst 0, [], 0, 0), (.iconst 0, [], 0, 0), (.invokevirtual 190, [207, 3, 8], 0, 0), (.aload_n 0, [0], 0, 0), (.invokevirtual 216, [210, 1, 8], 0, 0), (.return_, [], 0, 0)]
def xk_216 : List (Nat × Nat) := [(0, 0), (1, 247), (4, 0), (5, 0), (6, 248), (9, 0), (10, 93), (13, 0), (14, 0), (15, 0), (16, 0), (17, 0), (18, 0), (19, 249), (22, 0), (23, 252), (26, 0)]
def xm_216 : xi_M := (8, "setRows", "(II)V", prog_10_method_66_code, none, 1, xk_216)
/-- GuineaHoursModel.way(III)I -/
def xc_217 : List xi_E := [(.aload_n 0, [0], 0, 0), (.iload_n 1, [1], 0, 0), (.iload_n 2, [2], 0, 0), (.invokevirtual 219, [215, 3, 8], 0, 0), (.ifCond .eq 10, [8], 0, 0), (.iload_n 3, [3], 0, 0), (.invokestatic 73, [155, 1], 0, 0), (.ifCond .ne 5, [10], 0, 0), (.iconst (-1), [], (-1), 0), (.ireturn, [0], 0, 0), (.aload_n 0, [0], 0, 0), (.iload_n 1, [1], 0, 0), (.iload_n 2, [2], 0, 0), (.invokevirtual 222, [216, 3, 8], 0, 0), (.aload_n 0, [0], 0, 0), (.getfield 200, [8, 21, 0], 0, 0), (.ifCond .ne 6, [19], 0, 0), (.bipush (-9), [], (-9), 0), (.ireturn, [0], 0, 0), (.aload_n 0, [0], 0, 0), (.iload_n 3, [3], 0, 0), (.aload_n 0, [0], 0, 0), (.getfield 131, [8, 11, 0], 0, 0), (.iconst 1, [], 1, 0), (.iadd, [], 0, 0), (.invokevirtual 226, [154, 3, 8], 0, 0), (.pop, [], 0, 0), (.iconst 0, [], 0, 0), (.istore 4, [4], 0, 0), (.iload 4, [4], 0, 0), (.aload_n 0, [0], 0, 0), (.getfield 131, [8, 11, 0], 0, 0), (.if_icmp .gt 23, [43], 0, 0), (.aload_n 0, [0], 0, 0), (.iload_n 3, [3], 0, 0), (.iload 4, [4], 0, 0), (.aload_n 0, [0], 0, 0), (.getfield 45, [8, 25, 2], 0, 0), (.iload 4, [4], 0, 0), (.iaload, [], 0, 0), (.invokevirtual 84, [158, 4, 8], 0, 0), (.iinc 4 1, [4], 1, 0), (.goto (-26), [29], 0, 0), (.iconst 1, [], 1, 0), (.ireturn, [0], 0, 0)]
def xk_217 : List (Nat × Nat) := [(0, 0), (1, 0), (2, 0), (3, 257), (6, 0), (9, 0), (10, 196), (13, 0), (16, 0), (17, 0), (18, 0), (19, 0), (20, 0), (21, 258), (24, 0), (25, 95), (28, 0), (31, 0), (33, 0), (34, 0), (35, 0), (36, 0), (37, 85), (40, 0), (41, 0), (42, 260), (45, 0), (46, 0), (47, 0), (49, 0), (51, 0), (52, 85), (55, 0), (58, 0), (59, 0), (60, 0), (62, 0), (63, 99), (66, 0), (68, 0), (69, 199), (72, 0), (75, 0), (78, 0), (79, 0)]
def xm_217 : xi_M := (8, "way", "(III)I", prog_10_method_68_code, some .int, 1, xk_217)
/-- GuineaHoursModel.bars(II)I -/
def xc_218 : List xi_E := [(.aload_n 0, [0], 0, 0), (.iload_n 1, [1], 0, 0), (.iload_n 2, [2], 0, 0), (.invokevirtual 219, [215, 3, 8], 0, 0), (.ifCond .ne 5, [7], 0, 0), (.iconst (-1), [], (-1), 0), (.ireturn, [0], 0, 0), (.aload_n 0, [0], 0, 0), (.iload_n 1, [1], 0, 0), (.iload_n 2, [2], 0, 0), (.invokevirtual 222, [216, 3, 8], 0, 0), (.aload_n 0, [0], 0, 0), (.getfield 203, [8, 24, 0], 0, 0), (.iconst 1, [], 1, 0), (.iload_n 1, [1], 0, 0), (.ishl, [], 0, 0), (.iconst 1, [], 1, 0), (.iload_n 2, [2], 0, 0), (.ishl, [], 0, 0), (.ior, [], 0, 0), (.iconst (-1), [], (-1), 0), (.ixor, [], 0, 0), (.iand, [], 0, 0), (.ireturn, [0], 0, 0)]
def xk_218 : List (Nat × Nat) := [(0, 0), (1, 0), (2, 0), (3, 257), (6, 0), (9, 0), (10, 0), (11, 0), (12, 0), (13, 0), (14, 258), (17, 0), (18, 98), (21, 0), (22, 0), (23, 0), (24, 0), (25, 0), (26, 0), (27, 0), (28, 0), (29, 0), (30, 0), (31, 0)]
def xm_218 : xi_M := (8, "bars", "(II)I", prog_10_method_69_code, some .int, 1, xk_218)
/-- GuineaHoursModel.least(II)I -/
def xc_219 : List xi_E := [(.aload_n 0, [0], 0, 0), (.iload_n 1, [1], 0, 0), (.iload_n 2, [2], 0, 0), (.invokevirtual 219, [215, 3, 8], 0, 0), (.ifCond .ne 5, [7], 0, 0), (.iconst (-1), [], (-1), 0), (.ireturn, [0], 0, 0), (.aload_n 0, [0], 0, 0), (.getfield 35, [8, 16, 0], 0, 0), (.istore_n 3, [3], 0, 0), (.bipush (-9), [], (-9), 0), (.istore 4, [4], 0, 0), (.iconst 5, [], 5, 0), (.istore 5, [5], 0, 0), (.iload 5, [5], 0, 0), (.iconst 1, [], 1, 0), (.if_icmp .lt 37, [33], 0, 0), (.aload_n 0, [0], 0, 0), (.iload 5, [5], 0, 0), (.putfield 35, [8, 16, 0], 0, 0), (.aload_n 0, [0], 0, 0), (.iload_n 1, [1], 0, 0), (.iload_n 2, [2], 0, 0), (.invokevirtual 222, [216, 3, 8], 0, 0), (.aload_n 0, [0], 0, 0), (.getfield 200, [8, 21, 0], 0, 0), (.ifCond .le 8, [29], 0, 0), (.iload 5, [5], 0, 0), (.goto 5, [30], 0, 0), (.iload 4, [4], 0, 0), (.istore 4, [4], 0, 0), (.iinc 5 (-1), [5], (-1), 0), (.goto (-37), [14], 0, 0), (.aload_n 0, [0], 0, 0), (.iload_n 3, [3], 0, 0), (.putfield 35, [8, 16, 0], 0, 0), (.iload 4, [4], 0, 0), (.ireturn, [0], 0, 0)]
def xk_219 : List (Nat × Nat) := [(0, 0), (1, 0), (2, 0), (3, 257), (6, 0), (9, 0), (10, 0), (11, 0), (12, 90), (15, 0), (16, 0), (18, 0), (20, 0), (21, 0), (23, 0), (25, 0), (26, 0), (29, 0), (30, 0), (32, 90), (35, 0), (36, 0), (37, 0), (38, 258), (41, 0), (42, 95), (45, 0), (48, 0), (50, 0), (53, 0), (55, 0), (57, 0), (60, 0), (63, 0), (64, 0), (65, 90), (68, 0), (70, 0)]
def xm_219 : xi_M := (8, "least", "(II)I", prog_10_method_70_code, some .int, 1, xk_219)
/-- GuineaHoursModel.worth(II)I -/
def xc_220 : List xi_E := [(.aload_n 0, [0], 0, 0), (.iload_n 1, [1], 0, 0), (.invokevirtual 143, [179, 2, 8], 0, 0), (.ifCond .eq 11, [8], 0, 0), (.aload_n 0, [0], 0, 0), (.iload_n 2, [2], 0, 0), (.invokevirtual 235, [221, 2, 8], 0, 0), (.ifCond .ne 5, [10], 0, 0), (.iconst (-1), [], (-1), 0), (.ireturn, [0], 0, 0), (.aload_n 0, [0], 0, 0), (.iload_n 1, [1], 0, 0), (.iload_n 2, [2], 0, 0), (.invokevirtual 232, [222, 3, 8], 0, 0), (.istore_n 3, [3], 0, 0), (.aload_n 0, [0], 0, 0), (.aload_n 0, [0], 0, 0), (.getfield 229, [8, 29, 0], 0, 0), (.iload_n 3, [3], 0, 0), (.invokevirtual 95, [162, 3, 8], 0, 0), (.ireturn, [0], 0, 0)]
def xk_220 : List (Nat × Nat) := [(0, 0), (1, 0), (2, 221), (5, 0), (8, 0), (9, 0), (10, 264), (13, 0), (16, 0), (17, 0), (18, 0), (19, 0), (20, 0), (21, 265), (24, 0), (25, 0), (26, 0), (27, 103), (30, 0), (31, 203), (34, 0)]
def xm_220 : xi_M := (8, "worth", "(II)I", prog_10_method_72_code, some .int, 1, xk_220)
/-- GuineaHoursModel.isTime(I)Z -/
def xc_221 : List xi_E := [(.iload_n 1, [1], 0, 0), (.iconst 0, [], 0, 0), (.aload_n 0, [0], 0, 0), (.getfield 131, [8, 11, 0], 0, 0), (.invokestatic 69, [156, 3], 0, 0), (.ireturn, [1], 0, 0)]
def xk_221 : List (Nat × Nat) := [(0, 0), (1, 0), (2, 0), (3, 85), (6, 197), (9, 0)]
def xm_221 : xi_M := (8, "isTime", "(I)Z", prog_10_method_33_code, some .boolean, 1, xk_221)
/-- GuineaHoursModel.worthOf(II)I -/
def xc_222 : List xi_E := [(.aload_n 0, [0], 0, 0), (.bipush (-9), [], (-9), 0), (.putfield 229, [8, 29, 0], 0, 0), (.iload_n 2, [2], 0, 0), (.aload_n 0, [0], 0, 0), (.getfield 131, [8, 11, 0], 0, 0), (.if_icmp .ne 6, [9], 0, 0), (.bipush 9, [], 9, 0), (.ireturn, [0], 0, 0), (.bipush (-9), [], (-9), 0), (.istore_n 3, [3], 0, 0), (.iconst 0, [], 0, 0), (.istore 4, [4], 0, 0), (.iconst 0, [], 0, 0), (.istore 5, [5], 0, 0), (.iload 5, [5], 0, 0), (.aload_n 0, [0], 0, 0), (.getfield 128, [8, 10, 0], 0, 0), (.if_icmp .ge 98, [67], 0, 0), (.aload_n 0, [0], 0, 0), (.iload_n 1, [1], 0, 0), (.iload 5, [5], 0, 0), (.iload_n 2, [2], 0, 0), (.invokevirtual 165, [193, 4, 8], 0, 0), (.ifCond .eq 81, [65], 0, 0), (.aload_n 0, [0], 0, 0), (.iload 5, [5], 0, 0), (.iload_n 2, [2], 0, 0), (.iconst 1, [], 1, 0), (.iadd, [], 0, 0), (.invokevirtual 232, [222, 3, 8], 0, 0), (.aload_n 0, [0], 0, 0), (.iload 5, [5], 0, 0), (.iconst 1, [], 1, 0), (.invokevirtual 137, [182, 3, 8], 0, 0), (.isub, [], 0, 0), (.istore 6, [6], 0, 0), (.iload 6, [6], 0, 0), (.ifCond .ge 7, [41], 0, 0), (.iconst 0, [], 0, 0), (.goto 5, [42], 0, 0), (.iload 6, [6], 0, 0), (.istore 6, [6], 0, 0), (.iload_n 3, [3], 0, 0), (.bipush (-9), [], (-9), 0), (.if_icmp .eq 10, [49], 0, 0), (.iload 6, [6], 0, 0), (.iload 4, [4], 0, 0), (.if_icmp .le 7, [51], 0, 0), (.iconst 1, [], 1, 0), (.goto 4, [52], 0, 0), (.iconst 0, [], 0, 0), (.istore 7, [7], 0, 0), (.iload 7, [7], 0, 0), (.ifCond .eq 8, [57], 0, 0), (.iload 5, [5], 0, 0), (.goto 4, [58], 0, 0), (.iload_n 3, [3], 0, 0), (.istore_n 3, [3], 0, 0), (.iload 7, [7], 0, 0), (.ifCond .eq 8, [63], 0, 0), (.iload 6, [6], 0, 0), (.goto 5, [64], 0, 0), (.iload 4, [4], 0, 0), (.istore 4, [4], 0, 0), (.iinc 5 1, [5], 1, 0), (.goto (-101), [15], 0, 0), (.aload_n 0, [0], 0, 0), (.iload_n 3, [3], 0, 0), (.putfield 229, [8, 29, 0], 0, 0), (.iload 4, [4], 0, 0), (.ireturn, [0], 0, 0)]
def xk_222 : List (Nat × Nat) := [(0, 0), (1, 0), (3, 103), (6, 0), (7, 0), (8, 85), (11, 0), (14, 0), (16, 0), (17, 0), (19, 0), (20, 0), (21, 0), (23, 0), (24, 0), (26, 0), (28, 0), (29, 84), (32, 0), (35, 0), (36, 0), (37, 0), (39, 0), (40, 235), (43, 0), (46, 0), (47, 0), (49, 0), (50, 0), (51, 0), (52, 265), (55, 0), (56, 0), (58, 0), (59, 224), (62, 0), (63, 0), (65, 0), (67, 0), (70, 0), (71, 0), (74, 0), (76, 0), (78, 0), (79, 0), (81, 0), (84, 0), (86, 0), (88, 0), (91, 0), (92, 0), (95, 0), (96, 0), (98, 0), (100, 0), (103, 0), (105, 0), (108, 0), (109, 0), (110, 0), (112, 0), (115, 0), (117, 0), (120, 0), (122, 0), (124, 0), (127, 0), (130, 0), (131, 0), (132, 103), (135, 0), (137, 0)]
def xm_222 : xi_M := (8, "worthOf", "(II)I", prog_10_method_71_code, some .int, 1, xk_222)
/-- GuineaHoursModel.best(I)I -/
def xc_223 : List xi_E := [(.aload_n 0, [0], 0, 0), (.iload_n 1, [1], 0, 0), (.invokevirtual 235, [221, 2, 8], 0, 0), (.ifCond .ne 5, [6], 0, 0), (.iconst (-1), [], (-1), 0), (.ireturn, [0], 0, 0), (.aload_n 0, [0], 0, 0), (.getfield 128, [8, 10, 0], 0, 0), (.ifCond .ne 6, [11], 0, 0), (.bipush (-4), [], (-4), 0), (.ireturn, [0], 0, 0), (.iconst 0, [], 0, 0), (.istore_n 2, [2], 0, 0), (.iconst (-1), [], (-1), 0), (.istore_n 3, [3], 0, 0), (.iconst 0, [], 0, 0), (.istore 4, [4], 0, 0), (.iload 4, [4], 0, 0), (.aload_n 0, [0], 0, 0), (.getfield 128, [8, 10, 0], 0, 0), (.if_icmp .ge 44, [42], 0, 0), (.aload_n 0, [0], 0, 0), (.iload 4, [4], 0, 0), (.iload_n 1, [1], 0, 0), (.invokevirtual 232, [222, 3, 8], 0, 0), (.istore 5, [5], 0, 0), (.iload 5, [5], 0, 0), (.iload_n 3, [3], 0, 0), (.if_icmp .le 8, [31], 0, 0), (.iload 4, [4], 0, 0), (.goto 4, [32], 0, 0), (.iload_n 2, [2], 0, 0), (.istore_n 2, [2], 0, 0), (.iload 5, [5], 0, 0), (.iload_n 3, [3], 0, 0), (.if_icmp .le 8, [38], 0, 0), (.iload 5, [5], 0, 0), (.goto 4, [39], 0, 0), (.iload_n 3, [3], 0, 0), (.istore_n 3, [3], 0, 0), (.iinc 4 1, [4], 1, 0), (.goto (-47), [17], 0, 0), (.aload_n 0, [0], 0, 0), (.iload_n 3, [3], 0, 0), (.iload_n 2, [2], 0, 0), (.invokevirtual 95, [162, 3, 8], 0, 0), (.ireturn, [0], 0, 0)]
def xk_223 : List (Nat × Nat) := [(0, 0), (1, 0), (2, 264), (5, 0), (8, 0), (9, 0), (10, 0), (11, 84), (14, 0), (17, 0), (19, 0), (20, 0), (21, 0), (22, 0), (23, 0), (24, 0), (25, 0), (27, 0), (29, 0), (30, 84), (33, 0), (36, 0), (37, 0), (39, 0), (40, 265), (43, 0), (45, 0), (47, 0), (48, 0), (51, 0), (53, 0), (56, 0), (57, 0), (58, 0), (60, 0), (61, 0), (64, 0), (66, 0), (69, 0), (70, 0), (71, 0), (74, 0), (77, 0), (78, 0), (79, 0), (80, 203), (83, 0)]
def xm_223 : xi_M := (8, "best", "(I)I", prog_10_method_73_code, some .int, 1, xk_223)
/-- GuineaHoursModel.keeps(II)I -/
def xc_224 : List xi_E := [(.aload_n 0, [0], 0, 0), (.iload_n 1, [1], 0, 0), (.invokevirtual 248, [225, 2, 8], 0, 0), (.ifCond .eq 11, [8], 0, 0), (.aload_n 0, [0], 0, 0), (.iload_n 2, [2], 0, 0), (.invokevirtual 235, [221, 2, 8], 0, 0), (.ifCond .ne 5, [10], 0, 0), (.iconst (-1), [], (-1), 0), (.ireturn, [0], 0, 0), (.iload_n 1, [1], 0, 0), (.ifCond .ne 6, [14], 0, 0), (.bipush (-9), [], (-9), 0), (.ireturn, [0], 0, 0), (.aload_n 0, [0], 0, 0), (.iload_n 1, [1], 0, 0), (.iload_n 2, [2], 0, 0), (.invokevirtual 251, [226, 3, 8], 0, 0), (.istore_n 3, [3], 0, 0), (.aload_n 0, [0], 0, 0), (.aload_n 0, [0], 0, 0), (.getfield 245, [8, 30, 0], 0, 0), (.iload_n 3, [3], 0, 0), (.invokevirtual 95, [162, 3, 8], 0, 0), (.ireturn, [0], 0, 0)]
def xk_224 : List (Nat × Nat) := [(0, 0), (1, 0), (2, 268), (5, 0), (8, 0), (9, 0), (10, 264), (13, 0), (16, 0), (17, 0), (18, 0), (19, 0), (22, 0), (24, 0), (25, 0), (26, 0), (27, 0), (28, 269), (31, 0), (32, 0), (33, 0), (34, 104), (37, 0), (38, 203), (41, 0)]
def xm_224 : xi_M := (8, "keeps", "(II)I", prog_10_method_77_code, some .int, 1, xk_224)
/-- GuineaHoursModel.isSet(I)Z -/
def xc_225 : List xi_E := [(.iload_n 1, [1], 0, 0), (.iconst 0, [], 0, 0), (.iconst 1, [], 1, 0), (.aload_n 0, [0], 0, 0), (.getfield 128, [8, 10, 0], 0, 0), (.ishl, [], 0, 0), (.iconst 1, [], 1, 0), (.isub, [], 0, 0), (.invokestatic 69, [156, 3], 0, 0), (.ireturn, [1], 0, 0)]
def xk_225 : List (Nat × Nat) := [(0, 0), (1, 0), (2, 0), (3, 0), (4, 84), (7, 0), (8, 0), (9, 0), (10, 197), (13, 0)]
def xm_225 : xi_M := (8, "isSet", "(I)Z", prog_10_method_76_code, some .boolean, 1, xk_225)
/-- GuineaHoursModel.keepsOf(II)I -/
def xc_226 : List xi_E := [(.iconst (-1), [], (-1), 0), (.istore_n 3, [3], 0, 0), (.aload_n 0, [0], 0, 0), (.iconst 0, [], 0, 0), (.putfield 245, [8, 30, 0], 0, 0), (.iconst 0, [], 0, 0), (.istore 4, [4], 0, 0), (.iload 4, [4], 0, 0), (.aload_n 0, [0], 0, 0), (.getfield 128, [8, 10, 0], 0, 0), (.if_icmp .ge 82, [52], 0, 0), (.iload_n 1, [1], 0, 0), (.iload 4, [4], 0, 0), (.invokestatic 238, [227, 2], 0, 0), (.ifCond .eq 67, [50], 0, 0), (.aload_n 0, [0], 0, 0), (.iload_n 1, [1], 0, 0), (.iload 4, [4], 0, 0), (.iload_n 2, [2], 0, 0), (.invokevirtual 241, [228, 4, 8], 0, 0), (.istore 5, [5], 0, 0), (.aload_n 0, [0], 0, 0), (.iload 5, [5], 0, 0), (.iload_n 3, [3], 0, 0), (.if_icmp .le 7, [27], 0, 0), (.iconst 0, [], 0, 0), (.goto 7, [29], 0, 0), (.aload_n 0, [0], 0, 0), (.getfield 245, [8, 30, 0], 0, 0), (.putfield 245, [8, 30, 0], 0, 0), (.iload 5, [5], 0, 0), (.iload_n 3, [3], 0, 0), (.if_icmp .le 8, [35], 0, 0), (.iload 5, [5], 0, 0), (.goto 4, [36], 0, 0), (.iload_n 3, [3], 0, 0), (.istore_n 3, [3], 0, 0), (.aload_n 0, [0], 0, 0), (.dup, [], 0, 0), (.getfield 245, [8, 30, 0], 0, 0), (.iload 5, [5], 0, 0), (.iload_n 3, [3], 0, 0), (.if_icmp .ne 10, [47], 0, 0), (.iconst 1, [], 1, 0), (.iload 4, [4], 0, 0), (.ishl, [], 0, 0), (.goto 4, [48], 0, 0), (.iconst 0, [], 0, 0), (.ior, [], 0, 0), (.putfield 245, [8, 30, 0], 0, 0), (.iinc 4 1, [4], 1, 0), (.goto (-85), [7], 0, 0), (.iload_n 3, [3], 0, 0), (.ireturn, [0], 0, 0)]
def xk_226 : List (Nat × Nat) := [(0, 0), (1, 0), (2, 0), (3, 0), (4, 104), (7, 0), (8, 0), (10, 0), (12, 0), (13, 84), (16, 0), (19, 0), (20, 0), (22, 270), (25, 0), (28, 0), (29, 0), (30, 0), (32, 0), (33, 271), (36, 0), (38, 0), (39, 0), (41, 0), (42, 0), (45, 0), (46, 0), (49, 0), (50, 104), (53, 104), (56, 0), (58, 0), (59, 0), (62, 0), (64, 0), (67, 0), (68, 0), (69, 0), (70, 0), (71, 104), (74, 0), (76, 0), (77, 0), (80, 0), (81, 0), (83, 0), (84, 0), (87, 0), (88, 0), (89, 104), (92, 0), (95, 0), (98, 0), (99, 0)]
def xm_226 : xi_M := (8, "keepsOf", "(II)I", prog_10_method_75_code, some .int, 1, xk_226)
/-- GuineaHoursModel.has(II)Z -/
def xc_227 : List xi_E := [(.iload_n 0, [0], 0, 0), (.iload_n 1, [1], 0, 0), (.ishr, [], 0, 0), (.iconst 1, [], 1, 0), (.iand, [], 0, 0), (.iconst 1, [], 1, 0), (.if_icmp .ne 7, [9], 0, 0), (.iconst 1, [], 1, 0), (.goto 4, [10], 0, 0), (.iconst 0, [], 0, 0), (.ireturn, [1], 0, 0)]
def xk_227 : List (Nat × Nat) := [(0, 0), (1, 0), (2, 0), (3, 0), (4, 0), (5, 0), (6, 0), (9, 0), (10, 0), (13, 0), (14, 0)]
def xm_227 : xi_M := (8, "has", "(II)Z", prog_10_method_7_code, some .boolean, 0, xk_227)
/-- GuineaHoursModel.longOf(III)I -/
def xc_228 : List xi_E := [(.iconst 0, [], 0, 0), (.istore 4, [4], 0, 0), (.iconst 0, [], 0, 0), (.istore 5, [5], 0, 0), (.iload 5, [5], 0, 0), (.aload_n 0, [0], 0, 0), (.getfield 128, [8, 10, 0], 0, 0), (.if_icmp .ge 67, [41], 0, 0), (.iload_n 3, [3], 0, 0), (.aload_n 0, [0], 0, 0), (.getfield 131, [8, 11, 0], 0, 0), (.if_icmp .ge 59, [41], 0, 0), (.iload_n 1, [1], 0, 0), (.iload 5, [5], 0, 0), (.invokestatic 238, [227, 2], 0, 0), (.ifCond .eq 44, [39], 0, 0), (.aload_n 0, [0], 0, 0), (.iload_n 2, [2], 0, 0), (.iload 5, [5], 0, 0), (.iload_n 3, [3], 0, 0), (.invokevirtual 165, [193, 4, 8], 0, 0), (.ifCond .eq 33, [39], 0, 0), (.iconst 1, [], 1, 0), (.aload_n 0, [0], 0, 0), (.iload_n 1, [1], 0, 0), (.iload 5, [5], 0, 0), (.iload_n 3, [3], 0, 0), (.iconst 1, [], 1, 0), (.iadd, [], 0, 0), (.invokevirtual 241, [228, 4, 8], 0, 0), (.iadd, [], 0, 0), (.istore 6, [6], 0, 0), (.iload 6, [6], 0, 0), (.iload 4, [4], 0, 0), (.if_icmp .le 8, [37], 0, 0), (.iload 6, [6], 0, 0), (.goto 5, [38], 0, 0), (.iload 4, [4], 0, 0), (.istore 4, [4], 0, 0), (.iinc 5 1, [5], 1, 0), (.goto (-70), [4], 0, 0), (.iload 4, [4], 0, 0), (.ireturn, [0], 0, 0)]
def xk_228 : List (Nat × Nat) := [(0, 0), (1, 0), (3, 0), (4, 0), (6, 0), (8, 0), (9, 84), (12, 0), (15, 0), (16, 0), (17, 85), (20, 0), (23, 0), (24, 0), (26, 270), (29, 0), (32, 0), (33, 0), (34, 0), (36, 0), (37, 235), (40, 0), (43, 0), (44, 0), (45, 0), (46, 0), (48, 0), (49, 0), (50, 0), (51, 271), (54, 0), (55, 0), (57, 0), (59, 0), (61, 0), (64, 0), (66, 0), (69, 0), (71, 0), (73, 0), (76, 0), (79, 0), (81, 0)]
def xm_228 : xi_M := (8, "longOf", "(III)I", prog_10_method_74_code, some .int, 1, xk_228)
/-- GuineaHoursModel.fewest(I)I -/
def xc_229 : List xi_E := [(.aload_n 0, [0], 0, 0), (.iload_n 1, [1], 0, 0), (.invokevirtual 235, [221, 2, 8], 0, 0), (.ifCond .ne 5, [6], 0, 0), (.iconst (-1), [], (-1), 0), (.ireturn, [0], 0, 0), (.bipush (-9), [], (-9), 0), (.istore_n 2, [2], 0, 0), (.iconst 1, [], 1, 0), (.istore_n 3, [3], 0, 0), (.iload_n 3, [3], 0, 0), (.iconst 1, [], 1, 0), (.aload_n 0, [0], 0, 0), (.getfield 128, [8, 10, 0], 0, 0), (.ishl, [], 0, 0), (.if_icmp .ge 43, [37], 0, 0), (.iload_n 2, [2], 0, 0), (.bipush (-9), [], (-9), 0), (.if_icmp .eq 14, [24], 0, 0), (.iload_n 3, [3], 0, 0), (.invokestatic 174, [195, 1], 0, 0), (.iload_n 2, [2], 0, 0), (.invokestatic 174, [195, 1], 0, 0), (.if_icmp .ge 20, [35], 0, 0), (.aload_n 0, [0], 0, 0), (.iload_n 3, [3], 0, 0), (.iload_n 1, [1], 0, 0), (.invokevirtual 251, [226, 3, 8], 0, 0), (.aload_n 0, [0], 0, 0), (.getfield 131, [8, 11, 0], 0, 0), (.iload_n 1, [1], 0, 0), (.isub, [], 0, 0), (.if_icmp .ne 5, [35], 0, 0), (.iload_n 3, [3], 0, 0), (.istore_n 2, [2], 0, 0), (.iinc 3 1, [3], 1, 0), (.goto (-47), [10], 0, 0), (.iload_n 2, [2], 0, 0), (.bipush (-9), [], (-9), 0), (.if_icmp .ne 8, [42], 0, 0), (.bipush (-9), [], (-9), 0), (.goto 12, [47], 0, 0), (.aload_n 0, [0], 0, 0), (.iload_n 2, [2], 0, 0), (.iload_n 2, [2], 0, 0), (.invokestatic 174, [195, 1], 0, 0), (.invokevirtual 95, [162, 3, 8], 0, 0), (.ireturn, [0], 0, 0)]
def xk_229 : List (Nat × Nat) := [(0, 0), (1, 0), (2, 264), (5, 0), (8, 0), (9, 0), (10, 0), (12, 0), (13, 0), (14, 0), (15, 0), (16, 0), (17, 0), (18, 84), (21, 0), (22, 0), (25, 0), (26, 0), (28, 0), (31, 0), (32, 237), (35, 0), (36, 237), (39, 0), (42, 0), (43, 0), (44, 0), (45, 269), (48, 0), (49, 85), (52, 0), (53, 0), (54, 0), (57, 0), (58, 0), (59, 0), (62, 0), (65, 0), (66, 0), (68, 0), (71, 0), (73, 0), (76, 0), (77, 0), (78, 0), (79, 237), (82, 203), (85, 0)]
def xm_229 : xi_M := (8, "fewest", "(I)I", prog_10_method_78_code, some .int, 1, xk_229)
/-- GuineaHoursModel.leaves(II)I -/
def xc_230 : List xi_E := [(.iload_n 1, [1], 0, 0), (.invokestatic 73, [155, 1], 0, 0), (.ifCond .eq 11, [7], 0, 0), (.aload_n 0, [0], 0, 0), (.iload_n 2, [2], 0, 0), (.invokevirtual 235, [221, 2, 8], 0, 0), (.ifCond .ne 5, [9], 0, 0), (.iconst (-1), [], (-1), 0), (.ireturn, [0], 0, 0), (.aload_n 0, [0], 0, 0), (.getfield 128, [8, 10, 0], 0, 0), (.ifCond .ne 6, [14], 0, 0), (.bipush (-4), [], (-4), 0), (.ireturn, [0], 0, 0), (.aload_n 0, [0], 0, 0), (.iload_n 1, [1], 0, 0), (.invokevirtual 88, [160, 2, 8], 0, 0), (.istore_n 3, [3], 0, 0), (.iload_n 3, [3], 0, 0), (.ifCond .ge 5, [22], 0, 0), (.iload_n 3, [3], 0, 0), (.ireturn, [0], 0, 0), (.aload_n 0, [0], 0, 0), (.getfield 17, [8, 5, 2], 0, 0), (.iload_n 1, [1], 0, 0), (.iaload, [], 0, 0), (.aload_n 0, [0], 0, 0), (.getfield 128, [8, 10, 0], 0, 0), (.if_icmp .eq 9, [33], 0, 0), (.aload_n 0, [0], 0, 0), (.iconst 5, [], 5, 0), (.invokevirtual 77, [157, 2, 8], 0, 0), (.ireturn, [0], 0, 0), (.iconst 0, [], 0, 0), (.istore 4, [4], 0, 0), (.iconst 0, [], 0, 0), (.istore 5, [5], 0, 0), (.iload 5, [5], 0, 0), (.aload_n 0, [0], 0, 0), (.getfield 128, [8, 10, 0], 0, 0), (.if_icmp .ge 43, [62], 0, 0), (.aload_n 0, [0], 0, 0), (.iload_n 1, [1], 0, 0), (.iload 5, [5], 0, 0), (.invokevirtual 91, [161, 3, 8], 0, 0), (.iconst 0, [], 0, 0), (.bipush 9, [], 9, 0), (.invokestatic 69, [156, 3], 0, 0), (.ifCond .ne 9, [53], 0, 0), (.aload_n 0, [0], 0, 0), (.iconst 3, [], 3, 0), (.invokevirtual 77, [157, 2, 8], 0, 0), (.ireturn, [0], 0, 0), (.iload 4, [4], 0, 0), (.aload_n 0, [0], 0, 0), (.iload_n 1, [1], 0, 0), (.iload 5, [5], 0, 0), (.invokevirtual 91, [161, 3, 8], 0, 0), (.iadd, [], 0, 0), (.istore 4, [4], 0, 0), (.iinc 5 1, [5], 1, 0), (.goto (-46), [37], 0, 0), (.iload 4, [4], 0, 0), (.bipush 9, [], 9, 0), (.if_icmp .eq 9, [69], 0, 0), (.aload_n 0, [0], 0, 0), (.iconst 3, [], 3, 0), (.invokevirtual 77, [157, 2, 8], 0, 0), (.ireturn, [0], 0, 0), (.iconst 1, [], 1, 0), (.istore 5, [5], 0, 0), (.iload 5, [5], 0, 0), (.iconst 1, [], 1, 0), (.aload_n 0, [0], 0, 0), (.getfield 128, [8, 10, 0], 0, 0), (.ishl, [], 0, 0), (.if_icmp .ge 82, [116], 0, 0), (.iconst 0, [], 0, 0), (.istore 6, [6], 0, 0), (.iconst 0, [], 0, 0), (.istore 7, [7], 0, 0), (.iload 7, [7], 0, 0), (.aload_n 0, [0], 0, 0), (.getfield 128, [8, 10, 0], 0, 0), (.if_icmp .ge 35, [100], 0, 0), (.iload 6, [6], 0, 0), (.iload 5, [5], 0, 0), (.iload 7, [7], 0, 0), (.invokestatic 238, [227, 2], 0, 0), (.ifCond .eq 13, [95], 0, 0), (.aload_n 0, [0], 0, 0), (.iload_n 1, [1], 0, 0), (.iload 7, [7], 0, 0), (.invokevirtual 91, [161, 3, 8], 0, 0), (.goto 4, [96], 0, 0), (.iconst 0, [], 0, 0), (.iadd, [], 0, 0), (.istore 6, [6], 0, 0), (.iinc 7 1, [7], 1, 0), (.goto (-38), [81], 0, 0), (.iload 6, [6], 0, 0), (.bipush 9, [], 9, 0), (.if_icmp .ge 22, [114], 0, 0), (.aload_n 0, [0], 0, 0), (.iload 5, [5], 0, 0), (.iload_n 2, [2], 0, 0), (.invokevirtual 251, [226, 3, 8], 0, 0), (.aload_n 0, [0], 0, 0), (.getfield 131, [8, 11, 0], 0, 0), (.iload_n 2, [2], 0, 0), (.isub, [], 0, 0), (.if_icmp .ne 6, [114], 0, 0), (.iload 5, [5], 0, 0), (.ireturn, [0], 0, 0), (.iinc 5 1, [5], 1, 0), (.goto (-87), [71], 0, 0), (.iconst 0, [], 0, 0), (.ireturn, [0], 0, 0)]
def xk_230 : List (Nat × Nat) := [(0, 0), (1, 196), (4, 0), (7, 0), (8, 0), (9, 264), (12, 0), (15, 0), (16, 0), (17, 0), (18, 84), (21, 0), (24, 0), (26, 0), (27, 0), (28, 0), (29, 201), (32, 0), (33, 0), (34, 0), (37, 0), (38, 0), (39, 0), (40, 79), (43, 0), (44, 0), (45, 0), (46, 84), (49, 0), (52, 0), (53, 0), (54, 198), (57, 0), (58, 0), (59, 0), (61, 0), (62, 0), (64, 0), (66, 0), (67, 84), (70, 0), (73, 0), (74, 0), (75, 0), (77, 202), (80, 0), (81, 0), (83, 197), (86, 0), (89, 0), (90, 0), (91, 198), (94, 0), (95, 0), (97, 0), (98, 0), (99, 0), (101, 202), (104, 0), (105, 0), (107, 0), (110, 0), (113, 0), (115, 0), (117, 0), (120, 0), (121, 0), (122, 198), (125, 0), (126, 0), (127, 0), (129, 0), (131, 0), (132, 0), (133, 84), (136, 0), (137, 0), (140, 0), (141, 0), (143, 0), (144, 0), (146, 0), (148, 0), (149, 84), (152, 0), (155, 0), (157, 0), (159, 0), (161, 270), (164, 0), (167, 0), (168, 0), (169, 0), (171, 202), (174, 0), (177, 0), (178, 0), (179, 0), (181, 0), (184, 0), (187, 0), (189, 0), (191, 0), (194, 0), (195, 0), (197, 0), (198, 269), (201, 0), (202, 85), (205, 0), (206, 0), (207, 0), (210, 0), (212, 0), (213, 0), (216, 0), (219, 0), (220, 0)]
def xm_230 : xi_M := (8, "leaves", "(II)I", prog_10_method_79_code, some .int, 1, xk_230)
/-- GuineaHoursModel.sight(III)I -/
def xc_231 : List xi_E := [(.aload_n 0, [0], 0, 0), (.iload_n 1, [1], 0, 0), (.invokevirtual 235, [221, 2, 8], 0, 0), (.ifCond .eq 20, [13], 0, 0), (.aload_n 0, [0], 0, 0), (.iload_n 2, [2], 0, 0), (.invokevirtual 143, [179, 2, 8], 0, 0), (.ifCond .eq 12, [13], 0, 0), (.iload_n 3, [3], 0, 0), (.iconst 0, [], 0, 0), (.iconst 1, [], 1, 0), (.invokestatic 69, [156, 3], 0, 0), (.ifCond .ne 5, [15], 0, 0), (.iconst (-1), [], (-1), 0), (.ireturn, [0], 0, 0), (.aload_n 0, [0], 0, 0), (.getfield 134, [8, 32, 0], 0, 0), (.bipush 8, [], 8, 0), (.if_icmp .ne 6, [21], 0, 0), (.bipush (-2), [], (-2), 0), (.ireturn, [0], 0, 0), (.aload_n 0, [0], 0, 0), (.getfield 54, [8, 31, 2], 0, 0), (.iconst 3, [], 3, 0), (.aload_n 0, [0], 0, 0), (.getfield 134, [8, 32, 0], 0, 0), (.imul, [], 0, 0), (.iload_n 1, [1], 0, 0), (.iastore, [], 0, 0), (.aload_n 0, [0], 0, 0), (.getfield 54, [8, 31, 2], 0, 0), (.iconst 3, [], 3, 0), (.aload_n 0, [0], 0, 0), (.getfield 134, [8, 32, 0], 0, 0), (.imul, [], 0, 0), (.iconst 1, [], 1, 0), (.iadd, [], 0, 0), (.iload_n 2, [2], 0, 0), (.iastore, [], 0, 0), (.aload_n 0, [0], 0, 0), (.getfield 54, [8, 31, 2], 0, 0), (.iconst 3, [], 3, 0), (.aload_n 0, [0], 0, 0), (.getfield 134, [8, 32, 0], 0, 0), (.imul, [], 0, 0), (.iconst 2, [], 2, 0), (.iadd, [], 0, 0), (.iload_n 3, [3], 0, 0), (.iastore, [], 0, 0), (.aload_n 0, [0], 0, 0), (.dup, [], 0, 0), (.getfield 134, [8, 32, 0], 0, 0), (.iconst 1, [], 1, 0), (.iadd, [], 0, 0), (.putfield 134, [8, 32, 0], 0, 0), (.aload_n 0, [0], 0, 0), (.getfield 134, [8, 32, 0], 0, 0), (.iconst 1, [], 1, 0), (.isub, [], 0, 0), (.ireturn, [0], 0, 0)]
def xk_231 : List (Nat × Nat) := [(0, 0), (1, 0), (2, 264), (5, 0), (8, 0), (9, 0), (10, 221), (13, 0), (16, 0), (17, 0), (18, 0), (19, 197), (22, 0), (25, 0), (26, 0), (27, 0), (28, 106), (31, 0), (33, 0), (36, 0), (38, 0), (39, 0), (40, 105), (43, 0), (44, 0), (45, 106), (48, 0), (49, 0), (50, 0), (51, 0), (52, 105), (55, 0), (56, 0), (57, 106), (60, 0), (61, 0), (62, 0), (63, 0), (64, 0), (65, 0), (66, 105), (69, 0), (70, 0), (71, 106), (74, 0), (75, 0), (76, 0), (77, 0), (78, 0), (79, 0), (80, 0), (81, 106), (84, 0), (85, 0), (86, 106), (89, 0), (90, 106), (93, 0), (94, 0), (95, 0)]
def xm_231 : xi_M := (8, "sight", "(III)I", prog_10_method_80_code, some .int, 1, xk_231)
/-- GuineaHoursModel.forget(I)I -/
def xc_232 : List xi_E := [(.iload_n 1, [1], 0, 0), (.iconst 0, [], 0, 0), (.aload_n 0, [0], 0, 0), (.getfield 134, [8, 32, 0], 0, 0), (.invokestatic 69, [156, 3], 0, 0), (.ifCond .ne 5, [8], 0, 0), (.iconst (-1), [], (-1), 0), (.ireturn, [0], 0, 0), (.aload_n 0, [0], 0, 0), (.getfield 134, [8, 32, 0], 0, 0), (.iload_n 1, [1], 0, 0), (.isub, [], 0, 0), (.istore_n 2, [2], 0, 0), (.aload_n 0, [0], 0, 0), (.iload_n 1, [1], 0, 0), (.putfield 134, [8, 32, 0], 0, 0), (.iload_n 2, [2], 0, 0), (.ireturn, [0], 0, 0)]
def xk_232 : List (Nat × Nat) := [(0, 0), (1, 0), (2, 0), (3, 106), (6, 197), (9, 0), (12, 0), (13, 0), (14, 0), (15, 106), (18, 0), (19, 0), (20, 0), (21, 0), (22, 0), (23, 106), (26, 0), (27, 0)]
def xm_232 : xi_M := (8, "forget", "(I)I", prog_10_method_81_code, some .int, 1, xk_232)
/-- GuineaHoursModel.fits()I -/
def xc_233 : List xi_E := [(.aload_n 0, [0], 0, 0), (.getfield 131, [8, 11, 0], 0, 0), (.ifCond .ne 6, [5], 0, 0), (.bipush (-4), [], (-4), 0), (.ireturn, [0], 0, 0), (.aload_n 0, [0], 0, 0), (.invokevirtual 254, [234, 1, 8], 0, 0), (.aload_n 0, [0], 0, 0), (.aload_n 0, [0], 0, 0), (.getfield 206, [8, 27, 0], 0, 0), (.aload_n 0, [0], 0, 0), (.getfield 200, [8, 21, 0], 0, 0), (.invokevirtual 95, [162, 3, 8], 0, 0), (.ireturn, [0], 0, 0)]
def xk_233 : List (Nat × Nat) := [(0, 0), (1, 85), (4, 0), (7, 0), (9, 0), (10, 0), (11, 277), (14, 0), (15, 0), (16, 101), (19, 0), (20, 95), (23, 203), (26, 0)]
def xm_233 : xi_M := (8, "fits", "()I", prog_10_method_84_code, some .int, 1, xk_233)
/-- GuineaHoursModel.setFits()V -/
def xc_234 : List xi_E := [(.aload_n 0, [0], 0, 0), (.invokevirtual 209, [205, 1, 8], 0, 0), (.aload_n 0, [0], 0, 0), (.bipush (-9), [], (-9), 0), (.invokevirtual 212, [206, 2, 8], 0, 0), (.iconst 0, [], 0, 0), (.istore_n 1, [1], 0, 0), (.iload_n 1, [1], 0, 0), (.aload_n 0, [0], 0, 0), (.getfield 128, [8, 10, 0], 0, 0), (.if_icmp .ge 22, [22], 0, 0), (.aload_n 0, [0], 0, 0), (.getfield 39, [8, 19, 2], 0, 0), (.iconst 0, [], 0, 0), (.iload_n 1, [1], 0, 0), (.iastore, [], 0, 0), (.aload_n 0, [0], 0, 0), (.iconst 0, [], 0, 0), (.iconst 1, [], 1, 0), (.invokevirtual 190, [207, 3, 8], 0, 0), (.iinc 1 1, [1], 1, 0), (.goto (-24), [7], 0, 0), (.aload_n 0, [0], 0, 0), (.invokevirtual 216, [210, 1, 8], 0, 0), (.return_, [], 0, 0)]
def xk_234 : List (Nat × Nat) := [(0, 0), (1, 247), (4, 0), (5, 0), (7, 248), (10, 0), (11, 0), (12, 0), (13, 0), (14, 84), (17, 0), (20, 0), (21, 93), (24, 0), (25, 0), (26, 0), (27, 0), (28, 0), (29, 0), (30, 249), (33, 0), (36, 0), (39, 0), (40, 252), (43, 0)]
def xm_234 : xi_M := (8, "setFits", "()V", prog_10_method_83_code, none, 1, xk_234)
/-- GuineaHoursModel.where(I)I -/
def xc_235 : List xi_E := [(.aload_n 0, [0], 0, 0), (.iload_n 1, [1], 0, 0), (.invokevirtual 257, [236, 2, 8], 0, 0), (.istore_n 2, [2], 0, 0), (.iload_n 2, [2], 0, 0), (.ifCond .ge 5, [8], 0, 0), (.iload_n 2, [2], 0, 0), (.ireturn, [0], 0, 0), (.iconst 0, [], 0, 0), (.istore_n 3, [3], 0, 0), (.bipush (-9), [], (-9), 0), (.istore 4, [4], 0, 0), (.iconst 0, [], 0, 0), (.istore 5, [5], 0, 0), (.iload 5, [5], 0, 0), (.aload_n 0, [0], 0, 0), (.getfield 128, [8, 10, 0], 0, 0), (.if_icmp .ge 63, [52], 0, 0), (.iload_n 3, [3], 0, 0), (.aload_n 0, [0], 0, 0), (.getfield 48, [8, 26, 2], 0, 0), (.bipush 7, [], 7, 0), (.iload_n 1, [1], 0, 0), (.imul, [], 0, 0), (.iload 5, [5], 0, 0), (.iadd, [], 0, 0), (.iaload, [], 0, 0), (.ifCond .le 10, [32], 0, 0), (.iconst 1, [], 1, 0), (.iload 5, [5], 0, 0), (.ishl, [], 0, 0), (.goto 4, [33], 0, 0), (.iconst 0, [], 0, 0), (.ior, [], 0, 0), (.istore_n 3, [3], 0, 0), (.aload_n 0, [0], 0, 0), (.getfield 48, [8, 26, 2], 0, 0), (.bipush 7, [], 7, 0), (.iload_n 1, [1], 0, 0), (.imul, [], 0, 0), (.iload 5, [5], 0, 0), (.iadd, [], 0, 0), (.iaload, [], 0, 0), (.aload_n 0, [0], 0, 0), (.getfield 200, [8, 21, 0], 0, 0), (.if_icmp .ne 8, [48], 0, 0), (.iload 5, [5], 0, 0), (.goto 5, [49], 0, 0), (.iload 4, [4], 0, 0), (.istore 4, [4], 0, 0), (.iinc 5 1, [5], 1, 0), (.goto (-66), [14], 0, 0), (.aload_n 0, [0], 0, 0), (.iload 4, [4], 0, 0), (.iload_n 3, [3], 0, 0), (.invokevirtual 95, [162, 3, 8], 0, 0), (.ireturn, [0], 0, 0)]
def xk_235 : List (Nat × Nat) := [(0, 0), (1, 0), (2, 279), (5, 0), (6, 0), (7, 0), (10, 0), (11, 0), (12, 0), (13, 0), (14, 0), (16, 0), (18, 0), (19, 0), (21, 0), (23, 0), (24, 84), (27, 0), (30, 0), (31, 0), (32, 100), (35, 0), (37, 0), (38, 0), (39, 0), (41, 0), (42, 0), (43, 0), (46, 0), (47, 0), (49, 0), (50, 0), (53, 0), (54, 0), (55, 0), (56, 0), (57, 100), (60, 0), (62, 0), (63, 0), (64, 0), (66, 0), (67, 0), (68, 0), (69, 95), (72, 0), (75, 0), (77, 0), (80, 0), (82, 0), (84, 0), (87, 0), (90, 0), (91, 0), (93, 0), (94, 203), (97, 0)]
def xm_235 : xi_M := (8, "where", "(I)I", prog_10_method_86_code, some .int, 1, xk_235)
/-- GuineaHoursModel.askedFits(I)I -/
def xc_236 : List xi_E := [(.aload_n 0, [0], 0, 0), (.iload_n 1, [1], 0, 0), (.invokevirtual 235, [221, 2, 8], 0, 0), (.ifCond .ne 5, [6], 0, 0), (.iconst (-1), [], (-1), 0), (.ireturn, [0], 0, 0), (.aload_n 0, [0], 0, 0), (.getfield 131, [8, 11, 0], 0, 0), (.ifCond .ne 6, [11], 0, 0), (.bipush (-4), [], (-4), 0), (.ireturn, [0], 0, 0), (.aload_n 0, [0], 0, 0), (.invokevirtual 254, [234, 1, 8], 0, 0), (.aload_n 0, [0], 0, 0), (.getfield 200, [8, 21, 0], 0, 0), (.ifCond .ne 11, [20], 0, 0), (.aload_n 0, [0], 0, 0), (.iconst 4, [], 4, 0), (.invokevirtual 77, [157, 2, 8], 0, 0), (.goto 4, [21], 0, 0), (.iconst 0, [], 0, 0), (.ireturn, [0], 0, 0)]
def xk_236 : List (Nat × Nat) := [(0, 0), (1, 0), (2, 264), (5, 0), (8, 0), (9, 0), (10, 0), (11, 85), (14, 0), (17, 0), (19, 0), (20, 0), (21, 277), (24, 0), (25, 95), (28, 0), (31, 0), (32, 0), (33, 198), (36, 0), (39, 0), (40, 0)]
def xm_236 : xi_M := (8, "askedFits", "(I)I", prog_10_method_85_code, some .int, 1, xk_236)
/-- GuineaHoursModel.ask(I)I -/
def xc_237 : List xi_E := [(.aload_n 0, [0], 0, 0), (.iload_n 1, [1], 0, 0), (.invokevirtual 257, [236, 2, 8], 0, 0), (.istore_n 2, [2], 0, 0), (.iload_n 2, [2], 0, 0), (.ifCond .ge 5, [8], 0, 0), (.iload_n 2, [2], 0, 0), (.ireturn, [0], 0, 0), (.iconst 0, [], 0, 0), (.istore_n 3, [3], 0, 0), (.aload_n 0, [0], 0, 0), (.getfield 200, [8, 21, 0], 0, 0), (.iconst 1, [], 1, 0), (.iadd, [], 0, 0), (.istore 4, [4], 0, 0), (.iconst 0, [], 0, 0), (.istore 5, [5], 0, 0), (.iload 5, [5], 0, 0), (.aload_n 0, [0], 0, 0), (.getfield 128, [8, 10, 0], 0, 0), (.if_icmp .ge 79, [59], 0, 0), (.aload_n 0, [0], 0, 0), (.getfield 48, [8, 26, 2], 0, 0), (.bipush 7, [], 7, 0), (.iload_n 1, [1], 0, 0), (.imul, [], 0, 0), (.iload 5, [5], 0, 0), (.iadd, [], 0, 0), (.iaload, [], 0, 0), (.istore 6, [6], 0, 0), (.iload 6, [6], 0, 0), (.aload_n 0, [0], 0, 0), (.getfield 200, [8, 21, 0], 0, 0), (.iload 6, [6], 0, 0), (.isub, [], 0, 0), (.if_icmp .le 8, [38], 0, 0), (.iload 6, [6], 0, 0), (.goto 10, [42], 0, 0), (.aload_n 0, [0], 0, 0), (.getfield 200, [8, 21, 0], 0, 0), (.iload 6, [6], 0, 0), (.isub, [], 0, 0), (.istore 7, [7], 0, 0), (.iload 7, [7], 0, 0), (.iload 4, [4], 0, 0), (.if_icmp .ge 8, [48], 0, 0), (.iload 5, [5], 0, 0), (.goto 4, [49], 0, 0), (.iload_n 3, [3], 0, 0), (.istore_n 3, [3], 0, 0), (.iload 7, [7], 0, 0), (.iload 4, [4], 0, 0), (.if_icmp .ge 8, [55], 0, 0), (.iload 7, [7], 0, 0), (.goto 5, [56], 0, 0), (.iload 4, [4], 0, 0), (.istore 4, [4], 0, 0), (.iinc 5 1, [5], 1, 0), (.goto (-82), [17], 0, 0), (.aload_n 0, [0], 0, 0), (.iload 4, [4], 0, 0), (.iload_n 3, [3], 0, 0), (.invokevirtual 95, [162, 3, 8], 0, 0), (.ireturn, [0], 0, 0)]
def xk_237 : List (Nat × Nat) := [(0, 0), (1, 0), (2, 279), (5, 0), (6, 0), (7, 0), (10, 0), (11, 0), (12, 0), (13, 0), (14, 0), (15, 95), (18, 0), (19, 0), (20, 0), (22, 0), (23, 0), (25, 0), (27, 0), (28, 84), (31, 0), (34, 0), (35, 100), (38, 0), (40, 0), (41, 0), (42, 0), (44, 0), (45, 0), (46, 0), (48, 0), (50, 0), (51, 95), (54, 0), (56, 0), (57, 0), (60, 0), (62, 0), (65, 0), (66, 95), (69, 0), (71, 0), (72, 0), (74, 0), (76, 0), (78, 0), (81, 0), (83, 0), (86, 0), (87, 0), (88, 0), (90, 0), (92, 0), (95, 0), (97, 0), (100, 0), (102, 0), (104, 0), (107, 0), (110, 0), (111, 0), (113, 0), (114, 203), (117, 0)]
def xm_237 : xi_M := (8, "ask", "(I)I", prog_10_method_87_code, some .int, 1, xk_237)
/-- GuineaHoursModel.odds(III)I -/
def xc_238 : List xi_E := [(.aload_n 0, [0], 0, 0), (.iload_n 1, [1], 0, 0), (.iload_n 3, [3], 0, 0), (.invokevirtual 219, [215, 3, 8], 0, 0), (.ifCond .eq 11, [9], 0, 0), (.aload_n 0, [0], 0, 0), (.iload_n 2, [2], 0, 0), (.invokevirtual 235, [221, 2, 8], 0, 0), (.ifCond .ne 5, [11], 0, 0), (.iconst (-1), [], (-1), 0), (.ireturn, [0], 0, 0), (.aload_n 0, [0], 0, 0), (.aload_n 0, [0], 0, 0), (.iload_n 1, [1], 0, 0), (.iload_n 2, [2], 0, 0), (.iload_n 3, [3], 0, 0), (.invokevirtual 260, [239, 4, 8], 0, 0), (.aload_n 0, [0], 0, 0), (.iload_n 2, [2], 0, 0), (.invokevirtual 266, [240, 2, 8], 0, 0), (.iconst 1, [], 1, 0), (.invokevirtual 270, [241, 4, 8], 0, 0), (.ireturn, [0], 0, 0)]
def xk_238 : List (Nat × Nat) := [(0, 0), (1, 0), (2, 0), (3, 257), (6, 0), (9, 0), (10, 0), (11, 264), (14, 0), (17, 0), (18, 0), (19, 0), (20, 0), (21, 0), (22, 0), (23, 0), (24, 282), (27, 0), (28, 0), (29, 283), (32, 0), (33, 284), (36, 0)]
def xm_238 : xi_M := (8, "odds", "(III)I", prog_10_method_90_code, some .int, 1, xk_238)
/-- GuineaHoursModel.chanceOf(III)J -/
def xc_239 : List xi_E := [(.iload_n 2, [2], 0, 0), (.aload_n 0, [0], 0, 0), (.getfield 131, [8, 11, 0], 0, 0), (.if_icmp .ne 14, [11], 0, 0), (.iload_n 1, [1], 0, 0), (.iload_n 3, [3], 0, 0), (.if_icmp .ne 7, [9], 0, 0), (.lconst 1, [], 0, 1), (.goto 4, [10], 0, 0), (.lconst 0, [], 0, 0), (.lreturn, [], 0, 0), (.aload_n 0, [0], 0, 0), (.iload_n 1, [1], 0, 0), (.iload_n 2, [2], 0, 0), (.invokevirtual 168, [192, 3, 8], 0, 0), (.istore 4, [4], 0, 0), (.lconst 0, [], 0, 0), (.lstore 5, [5], 0, 0), (.iconst 0, [], 0, 0), (.istore 7, [7], 0, 0), (.iload 7, [7], 0, 0), (.aload_n 0, [0], 0, 0), (.getfield 128, [8, 10, 0], 0, 0), (.if_icmp .ge 48, [48], 0, 0), (.lload 5, [5], 0, 0), (.iload 4, [4], 0, 0), (.iload 7, [7], 0, 0), (.invokestatic 238, [227, 2], 0, 0), (.ifCond .eq 26, [43], 0, 0), (.bipush 60, [], 60, 0), (.iload 4, [4], 0, 0), (.invokestatic 174, [195, 1], 0, 0), (.idiv, [], 0, 0), (.i2l, [], 0, 0), (.aload_n 0, [0], 0, 0), (.iload 7, [7], 0, 0), (.iload_n 2, [2], 0, 0), (.iconst 1, [], 1, 0), (.iadd, [], 0, 0), (.iload_n 3, [3], 0, 0), (.invokevirtual 260, [239, 4, 8], 0, 0), (.lmul, [], 0, 0), (.goto 4, [44], 0, 0), (.lconst 0, [], 0, 0), (.ladd, [], 0, 0), (.lstore 5, [5], 0, 0), (.iinc 7 1, [7], 1, 0), (.goto (-51), [20], 0, 0), (.lload 5, [5], 0, 0), (.lreturn, [], 0, 0)]
def xk_239 : List (Nat × Nat) := [(0, 0), (1, 0), (2, 85), (5, 0), (8, 0), (9, 0), (10, 0), (13, 0), (14, 0), (17, 0), (18, 0), (19, 0), (20, 0), (21, 0), (22, 234), (25, 0), (27, 0), (28, 0), (30, 0), (31, 0), (33, 0), (35, 0), (36, 84), (39, 0), (42, 0), (44, 0), (46, 0), (48, 270), (51, 0), (54, 0), (56, 0), (58, 237), (61, 0), (62, 0), (63, 0), (64, 0), (66, 0), (67, 0), (68, 0), (69, 0), (70, 282), (73, 0), (74, 0), (77, 0), (78, 0), (79, 0), (81, 0), (84, 0), (87, 0), (89, 0)]
def xm_239 : xi_M := (8, "chanceOf", "(III)J", prog_10_method_88_code, some .long, 1, xk_239)
/-- GuineaHoursModel.wholeFrom(I)J -/
def xc_240 : List xi_E := [(.lconst 1, [], 0, 1), (.lstore_n 2, [2], 0, 0), (.iload_n 1, [1], 0, 0), (.istore 4, [4], 0, 0), (.iload 4, [4], 0, 0), (.aload_n 0, [0], 0, 0), (.getfield 131, [8, 11, 0], 0, 0), (.if_icmp .ge 15, [14], 0, 0), (.lload_n 2, [2], 0, 0), (.ldc2_w 264, [], 0, 60), (.lmul, [], 0, 0), (.lstore_n 2, [2], 0, 0), (.iinc 4 1, [4], 1, 0), (.goto (-18), [4], 0, 0), (.lload_n 2, [2], 0, 0), (.lreturn, [], 0, 0)]
def xk_240 : List (Nat × Nat) := [(0, 0), (1, 0), (2, 0), (3, 0), (5, 0), (7, 0), (8, 85), (11, 0), (14, 0), (15, 5), (18, 0), (19, 0), (20, 0), (23, 0), (26, 0), (27, 0)]
def xm_240 : xi_M := (8, "wholeFrom", "(I)J", prog_10_method_89_code, some .long, 1, xk_240)
/-- GuineaHoursModel.part(JJI)I -/
def xc_241 : List xi_E := [(.lload_n 1, [1], 0, 0), (.lstore 6, [6], 0, 0), (.lload_n 3, [3], 0, 0), (.lstore 8, [8], 0, 0), (.lload 8, [8], 0, 0), (.lconst 0, [], 0, 0), (.lcmp, [], 0, 0), (.ifCond .eq 21, [17], 0, 0), (.lload 6, [6], 0, 0), (.lload 8, [8], 0, 0), (.lrem, [], 0, 0), (.lstore 10, [10], 0, 0), (.lload 8, [8], 0, 0), (.lstore 6, [6], 0, 0), (.lload 10, [10], 0, 0), (.lstore 8, [8], 0, 0), (.goto (-22), [4], 0, 0), (.aload_n 0, [0], 0, 0), (.lload_n 1, [1], 0, 0), (.lload 6, [6], 0, 0), (.ldiv, [], 0, 0), (.putfield 66, [8, 3, 1], 0, 0), (.aload_n 0, [0], 0, 0), (.lload_n 3, [3], 0, 0), (.lload 6, [6], 0, 0), (.ldiv, [], 0, 0), (.putfield 13, [8, 4, 1], 0, 0), (.iload 5, [5], 0, 0), (.ireturn, [0], 0, 0)]
def xk_241 : List (Nat × Nat) := [(0, 0), (1, 0), (3, 0), (4, 0), (6, 0), (8, 0), (9, 0), (10, 0), (13, 0), (15, 0), (17, 0), (18, 0), (20, 0), (22, 0), (24, 0), (26, 0), (28, 0), (31, 0), (32, 0), (33, 0), (35, 0), (36, 77), (39, 0), (40, 0), (41, 0), (43, 0), (44, 78), (47, 0), (49, 0)]
def xm_241 : xi_M := (8, "part", "(JJI)I", prog_10_method_6_code, some .int, 1, xk_241)
/-- GuineaHoursModel.lost(II)I -/
def xc_242 : List xi_E := [(.aload_n 0, [0], 0, 0), (.iload_n 1, [1], 0, 0), (.invokevirtual 143, [179, 2, 8], 0, 0), (.ifCond .eq 11, [8], 0, 0), (.aload_n 0, [0], 0, 0), (.iload_n 2, [2], 0, 0), (.invokevirtual 235, [221, 2, 8], 0, 0), (.ifCond .ne 5, [10], 0, 0), (.iconst (-1), [], (-1), 0), (.ireturn, [0], 0, 0), (.aload_n 0, [0], 0, 0), (.iload_n 2, [2], 0, 0), (.invokevirtual 266, [240, 2, 8], 0, 0), (.lstore_n 3, [3], 0, 0), (.iconst 0, [], 0, 0), (.istore 5, [5], 0, 0), (.iload 5, [5], 0, 0), (.aload_n 0, [0], 0, 0), (.getfield 128, [8, 10, 0], 0, 0), (.if_icmp .ge 20, [30], 0, 0), (.lload_n 3, [3], 0, 0), (.aload_n 0, [0], 0, 0), (.iload_n 1, [1], 0, 0), (.iload_n 2, [2], 0, 0), (.iload 5, [5], 0, 0), (.invokevirtual 260, [239, 4, 8], 0, 0), (.lsub, [], 0, 0), (.lstore_n 3, [3], 0, 0), (.iinc 5 1, [5], 1, 0), (.goto (-23), [16], 0, 0), (.aload_n 0, [0], 0, 0), (.lload_n 3, [3], 0, 0), (.aload_n 0, [0], 0, 0), (.iload_n 2, [2], 0, 0), (.invokevirtual 266, [240, 2, 8], 0, 0), (.iconst 1, [], 1, 0), (.invokevirtual 270, [241, 4, 8], 0, 0), (.ireturn, [0], 0, 0)]
def xk_242 : List (Nat × Nat) := [(0, 0), (1, 0), (2, 221), (5, 0), (8, 0), (9, 0), (10, 264), (13, 0), (16, 0), (17, 0), (18, 0), (19, 0), (20, 283), (23, 0), (24, 0), (25, 0), (27, 0), (29, 0), (30, 84), (33, 0), (36, 0), (37, 0), (38, 0), (39, 0), (40, 0), (42, 282), (45, 0), (46, 0), (47, 0), (50, 0), (53, 0), (54, 0), (55, 0), (56, 0), (57, 283), (60, 0), (61, 284), (64, 0)]
def xm_242 : xi_M := (8, "lost", "(II)I", prog_10_method_91_code, some .int, 1, xk_242)
/-- GuineaHoursModel.send(III)I -/
def xc_243 : List xi_E := [(.aload_n 0, [0], 0, 0), (.iload_n 1, [1], 0, 0), (.iload_n 3, [3], 0, 0), (.invokevirtual 219, [215, 3, 8], 0, 0), (.ifCond .eq 11, [9], 0, 0), (.aload_n 0, [0], 0, 0), (.iload_n 2, [2], 0, 0), (.invokevirtual 149, [184, 2, 8], 0, 0), (.ifCond .ne 5, [11], 0, 0), (.iconst (-1), [], (-1), 0), (.ireturn, [0], 0, 0), (.bipush (-9), [], (-9), 0), (.istore 4, [4], 0, 0), (.ldc2_w 274, [], 0, (-1)), (.lstore 5, [5], 0, 0), (.iconst 0, [], 0, 0), (.istore 7, [7], 0, 0), (.iload 7, [7], 0, 0), (.aload_n 0, [0], 0, 0), (.getfield 128, [8, 10, 0], 0, 0), (.if_icmp .ge 66, [53], 0, 0), (.aload_n 0, [0], 0, 0), (.iload_n 1, [1], 0, 0), (.iload 7, [7], 0, 0), (.iload_n 2, [2], 0, 0), (.invokevirtual 165, [193, 4, 8], 0, 0), (.ifCond .eq 49, [51], 0, 0), (.aload_n 0, [0], 0, 0), (.iload 7, [7], 0, 0), (.iload_n 2, [2], 0, 0), (.iconst 1, [], 1, 0), (.iadd, [], 0, 0), (.iload_n 3, [3], 0, 0), (.invokevirtual 260, [239, 4, 8], 0, 0), (.lstore 8, [8], 0, 0), (.lload 8, [8], 0, 0), (.lload 5, [5], 0, 0), (.lcmp, [], 0, 0), (.ifCond .le 8, [41], 0, 0), (.iload 7, [7], 0, 0), (.goto 5, [42], 0, 0), (.iload 4, [4], 0, 0), (.istore 4, [4], 0, 0), (.lload 8, [8], 0, 0), (.lload 5, [5], 0, 0), (.lcmp, [], 0, 0), (.ifCond .le 8, [49], 0, 0), (.lload 8, [8], 0, 0), (.goto 5, [50], 0, 0), (.lload 5, [5], 0, 0), (.lstore 5, [5], 0, 0), (.iinc 7 1, [7], 1, 0), (.goto (-69), [17], 0, 0), (.iload 4, [4], 0, 0), (.bipush (-9), [], (-9), 0), (.if_icmp .ne 8, [58], 0, 0), (.bipush (-9), [], (-9), 0), (.goto 18, [67], 0, 0), (.aload_n 0, [0], 0, 0), (.lload 5, [5], 0, 0), (.aload_n 0, [0], 0, 0), (.iload_n 2, [2], 0, 0), (.iconst 1, [], 1, 0), (.iadd, [], 0, 0), (.invokevirtual 266, [240, 2, 8], 0, 0), (.iload 4, [4], 0, 0), (.invokevirtual 270, [241, 4, 8], 0, 0), (.ireturn, [0], 0, 0)]
def xk_243 : List (Nat × Nat) := [(0, 0), (1, 0), (2, 0), (3, 257), (6, 0), (9, 0), (10, 0), (11, 226), (14, 0), (17, 0), (18, 0), (19, 0), (21, 0), (23, 6), (26, 0), (28, 0), (29, 0), (31, 0), (33, 0), (34, 84), (37, 0), (40, 0), (41, 0), (42, 0), (44, 0), (45, 235), (48, 0), (51, 0), (52, 0), (54, 0), (55, 0), (56, 0), (57, 0), (58, 282), (61, 0), (63, 0), (65, 0), (67, 0), (68, 0), (71, 0), (73, 0), (76, 0), (78, 0), (80, 0), (82, 0), (84, 0), (85, 0), (88, 0), (90, 0), (93, 0), (95, 0), (97, 0), (100, 0), (103, 0), (105, 0), (107, 0), (110, 0), (112, 0), (115, 0), (116, 0), (118, 0), (119, 0), (120, 0), (121, 0), (122, 283), (125, 0), (127, 284), (130, 0)]
def xm_243 : xi_M := (8, "send", "(III)I", prog_10_method_92_code, some .int, 1, xk_243)
/-- GuineaHoursModel.two(II)I -/
def xc_244 : List xi_E := [(.aload_n 0, [0], 0, 0), (.iload_n 1, [1], 0, 0), (.iload_n 2, [2], 0, 0), (.invokevirtual 219, [215, 3, 8], 0, 0), (.ifCond .eq 18, [14], 0, 0), (.iload_n 1, [1], 0, 0), (.iload_n 2, [2], 0, 0), (.if_icmp .eq 13, [14], 0, 0), (.aload_n 0, [0], 0, 0), (.iload_n 1, [1], 0, 0), (.iload_n 2, [2], 0, 0), (.iconst 0, [], 0, 0), (.invokevirtual 276, [245, 4, 8], 0, 0), (.goto 4, [15], 0, 0), (.iconst (-1), [], (-1), 0), (.ireturn, [0], 0, 0)]
def xk_244 : List (Nat × Nat) := [(0, 0), (1, 0), (2, 0), (3, 257), (6, 0), (9, 0), (10, 0), (11, 0), (14, 0), (15, 0), (16, 0), (17, 0), (18, 288), (21, 0), (24, 0), (25, 0)]
def xm_244 : xi_M := (8, "two", "(II)I", prog_10_method_94_code, some .int, 1, xk_244)
/-- GuineaHoursModel.twoOf(III)I -/
def xc_245 : List xi_E := [(.iload_n 3, [3], 0, 0), (.aload_n 0, [0], 0, 0), (.getfield 131, [8, 11, 0], 0, 0), (.if_icmp .eq 29, [19], 0, 0), (.aload_n 0, [0], 0, 0), (.iload_n 1, [1], 0, 0), (.iload_n 3, [3], 0, 0), (.invokevirtual 152, [185, 3, 8], 0, 0), (.bipush (-9), [], (-9), 0), (.if_icmp .eq 20, [21], 0, 0), (.aload_n 0, [0], 0, 0), (.iload_n 1, [1], 0, 0), (.iload_n 3, [3], 0, 0), (.invokevirtual 152, [185, 3, 8], 0, 0), (.aload_n 0, [0], 0, 0), (.iload_n 2, [2], 0, 0), (.iload_n 3, [3], 0, 0), (.invokevirtual 152, [185, 3, 8], 0, 0), (.if_icmp .ne 5, [21], 0, 0), (.iconst 0, [], 0, 0), (.ireturn, [0], 0, 0), (.iconst 0, [], 0, 0), (.istore 4, [4], 0, 0), (.iconst 0, [], 0, 0), (.istore 5, [5], 0, 0), (.iload 5, [5], 0, 0), (.aload_n 0, [0], 0, 0), (.getfield 128, [8, 10, 0], 0, 0), (.if_icmp .ge 80, [68], 0, 0), (.iconst 0, [], 0, 0), (.istore 6, [6], 0, 0), (.iload 6, [6], 0, 0), (.aload_n 0, [0], 0, 0), (.getfield 128, [8, 10, 0], 0, 0), (.if_icmp .ge 62, [66], 0, 0), (.aload_n 0, [0], 0, 0), (.iload_n 1, [1], 0, 0), (.iload 5, [5], 0, 0), (.iload_n 3, [3], 0, 0), (.invokevirtual 165, [193, 4, 8], 0, 0), (.ifCond .eq 45, [64], 0, 0), (.aload_n 0, [0], 0, 0), (.iload_n 2, [2], 0, 0), (.iload 6, [6], 0, 0), (.iload_n 3, [3], 0, 0), (.invokevirtual 165, [193, 4, 8], 0, 0), (.ifCond .eq 34, [64], 0, 0), (.iconst 1, [], 1, 0), (.aload_n 0, [0], 0, 0), (.iload 5, [5], 0, 0), (.iload 6, [6], 0, 0), (.iload_n 3, [3], 0, 0), (.iconst 1, [], 1, 0), (.iadd, [], 0, 0), (.invokevirtual 276, [245, 4, 8], 0, 0), (.iadd, [], 0, 0), (.istore 7, [7], 0, 0), (.iload 7, [7], 0, 0), (.iload 4, [4], 0, 0), (.if_icmp .le 8, [62], 0, 0), (.iload 7, [7], 0, 0), (.goto 5, [63], 0, 0), (.iload 4, [4], 0, 0), (.istore 4, [4], 0, 0), (.iinc 6 1, [6], 1, 0), (.goto (-65), [31], 0, 0), (.iinc 5 1, [5], 1, 0), (.goto (-83), [25], 0, 0), (.iload 4, [4], 0, 0), (.ireturn, [0], 0, 0)]
def xk_245 : List (Nat × Nat) := [(0, 0), (1, 0), (2, 85), (5, 0), (8, 0), (9, 0), (10, 0), (11, 227), (14, 0), (16, 0), (19, 0), (20, 0), (21, 0), (22, 227), (25, 0), (26, 0), (27, 0), (28, 227), (31, 0), (34, 0), (35, 0), (36, 0), (37, 0), (39, 0), (40, 0), (42, 0), (44, 0), (45, 84), (48, 0), (51, 0), (52, 0), (54, 0), (56, 0), (57, 84), (60, 0), (63, 0), (64, 0), (65, 0), (67, 0), (68, 235), (71, 0), (74, 0), (75, 0), (76, 0), (78, 0), (79, 235), (82, 0), (85, 0), (86, 0), (87, 0), (89, 0), (91, 0), (92, 0), (93, 0), (94, 288), (97, 0), (98, 0), (100, 0), (102, 0), (104, 0), (107, 0), (109, 0), (112, 0), (114, 0), (116, 0), (119, 0), (122, 0), (125, 0), (128, 0), (130, 0)]
def xm_245 : xi_M := (8, "twoOf", "(III)I", prog_10_method_93_code, some .int, 1, xk_245)
/-- GuineaHoursModel.lots(II)I -/
def xc_246 : List xi_E := [(.aload_n 0, [0], 0, 0), (.iload_n 1, [1], 0, 0), (.invokevirtual 143, [179, 2, 8], 0, 0), (.ifCond .eq 14, [9], 0, 0), (.iload_n 2, [2], 0, 0), (.iconst 1, [], 1, 0), (.ldc_w 279, [], 2147483646, 0), (.invokestatic 69, [156, 3], 0, 0), (.ifCond .ne 5, [11], 0, 0), (.iconst (-1), [], (-1), 0), (.ireturn, [0], 0, 0), (.aload_n 0, [0], 0, 0), (.iconst 0, [], 0, 0), (.putfield 57, [8, 18, 0], 0, 0), (.aload_n 0, [0], 0, 0), (.getfield 39, [8, 19, 2], 0, 0), (.iconst 0, [], 0, 0), (.iload_n 1, [1], 0, 0), (.iastore, [], 0, 0), (.iload_n 2, [2], 0, 0), (.i2l, [], 0, 0), (.lstore_n 3, [3], 0, 0), (.aload_n 0, [0], 0, 0), (.invokevirtual 180, [203, 1, 8], 0, 0), (.istore 5, [5], 0, 0), (.iload 5, [5], 0, 0), (.ifCond .eq 98, [76], 0, 0), (.ldc2_w 280, [], 0, 48271), (.lload_n 3, [3], 0, 0), (.lmul, [], 0, 0), (.ldc2_w 282, [], 0, 2147483647), (.lrem, [], 0, 0), (.lstore_n 3, [3], 0, 0), (.lload_n 3, [3], 0, 0), (.iload 5, [5], 0, 0), (.invokestatic 174, [195, 1], 0, 0), (.i2l, [], 0, 0), (.lrem, [], 0, 0), (.l2i, [], 0, 0), (.istore 6, [6], 0, 0), (.iconst 0, [], 0, 0), (.istore 7, [7], 0, 0), (.iload 5, [5], 0, 0), (.iload 7, [7], 0, 0), (.invokestatic 238, [227, 2], 0, 0), (.ifCond .eq 8, [48], 0, 0), (.iload 6, [6], 0, 0), (.ifCond .le 29, [60], 0, 0), (.iload 6, [6], 0, 0), (.iload 5, [5], 0, 0), (.iload 7, [7], 0, 0), (.invokestatic 238, [227, 2], 0, 0), (.ifCond .eq 7, [55], 0, 0), (.iconst 1, [], 1, 0), (.goto 4, [56], 0, 0), (.iconst 0, [], 0, 0), (.isub, [], 0, 0), (.istore 6, [6], 0, 0), (.iinc 7 1, [7], 1, 0), (.goto (-38), [42], 0, 0), (.aload_n 0, [0], 0, 0), (.dup, [], 0, 0), (.getfield 57, [8, 18, 0], 0, 0), (.iconst 1, [], 1, 0), (.iadd, [], 0, 0), (.putfield 57, [8, 18, 0], 0, 0), (.aload_n 0, [0], 0, 0), (.getfield 39, [8, 19, 2], 0, 0), (.aload_n 0, [0], 0, 0), (.getfield 57, [8, 18, 0], 0, 0), (.iload 7, [7], 0, 0), (.iastore, [], 0, 0), (.aload_n 0, [0], 0, 0), (.invokevirtual 180, [203, 1, 8], 0, 0), (.istore 5, [5], 0, 0), (.goto (-97), [25], 0, 0), (.aload_n 0, [0], 0, 0), (.getfield 57, [8, 18, 0], 0, 0), (.ireturn, [0], 0, 0)]
def xk_246 : List (Nat × Nat) := [(0, 0), (1, 0), (2, 221), (5, 0), (8, 0), (9, 0), (10, 4), (13, 197), (16, 0), (19, 0), (20, 0), (21, 0), (22, 0), (23, 92), (26, 0), (27, 93), (30, 0), (31, 0), (32, 0), (33, 0), (34, 0), (35, 0), (36, 0), (37, 245), (40, 0), (42, 0), (44, 0), (47, 7), (50, 0), (51, 0), (52, 8), (55, 0), (56, 0), (57, 0), (58, 0), (60, 237), (63, 0), (64, 0), (65, 0), (66, 0), (68, 0), (69, 0), (71, 0), (73, 0), (75, 270), (78, 0), (81, 0), (83, 0), (86, 0), (88, 0), (90, 0), (92, 270), (95, 0), (98, 0), (99, 0), (102, 0), (103, 0), (104, 0), (106, 0), (109, 0), (112, 0), (113, 0), (114, 92), (117, 0), (118, 0), (119, 92), (122, 0), (123, 93), (126, 0), (127, 92), (130, 0), (132, 0), (133, 0), (134, 245), (137, 0), (139, 0), (142, 0), (143, 92), (146, 0)]
def xm_246 : xi_M := (8, "lots", "(II)I", prog_10_method_95_code, some .int, 1, xk_246)
/-- GuineaHoursModel.asked()I -/
def xc_247 : List xi_E := [(.aload_n 0, [0], 0, 0), (.getfield 63, [8, 2, 0], 0, 0), (.ireturn, [0], 0, 0)]
def xk_247 : List (Nat × Nat) := [(0, 0), (1, 76), (4, 0)]
def xm_247 : xi_M := (8, "asked", "()I", prog_10_method_96_code, some .int, 1, xk_247)
/-- GuineaHoursModel.upper()J -/
def xc_248 : List xi_E := [(.aload_n 0, [0], 0, 0), (.getfield 66, [8, 3, 1], 0, 0), (.lreturn, [], 0, 0)]
def xk_248 : List (Nat × Nat) := [(0, 0), (1, 77), (4, 0)]
def xm_248 : xi_M := (8, "upper", "()J", prog_10_method_97_code, some .long, 1, xk_248)
/-- GuineaHoursModel.lower()J -/
def xc_249 : List xi_E := [(.aload_n 0, [0], 0, 0), (.getfield 13, [8, 4, 1], 0, 0), (.lreturn, [], 0, 0)]
def xk_249 : List (Nat × Nat) := [(0, 0), (1, 78), (4, 0)]
def xm_249 : xi_M := (8, "lower", "()J", prog_10_method_98_code, some .long, 1, xk_249)
/-- GuineaHoursModel.count(I)I -/
def xc_250 : List xi_E := [(.iload_n 1, [1], 0, 0), (.iconst 0, [], 0, 0), (.bipush 7, [], 7, 0), (.invokestatic 69, [156, 3], 0, 0), (.ifCond .eq 11, [9], 0, 0), (.aload_n 0, [0], 0, 0), (.iload_n 1, [1], 0, 0), (.invokevirtual 284, [251, 2, 8], 0, 0), (.goto 4, [10], 0, 0), (.iconst (-1), [], (-1), 0), (.ireturn, [0], 0, 0)]
def xk_250 : List (Nat × Nat) := [(0, 0), (1, 0), (2, 0), (4, 197), (7, 0), (10, 0), (11, 0), (12, 294), (15, 0), (18, 0), (19, 0)]
def xm_250 : xi_M := (8, "count", "(I)I", prog_10_method_100_code, some .int, 1, xk_250)
/-- GuineaHoursModel.counts(I)I -/
def xc_251 : List xi_E := [(.iconst 0, [], 0, 0), (.istore_n 2, [2], 0, 0), (.iconst 0, [], 0, 0), (.istore_n 3, [3], 0, 0), (.iload_n 3, [3], 0, 0), (.bipush 7, [], 7, 0), (.if_icmp .ge 104, [63], 0, 0), (.iload_n 2, [2], 0, 0), (.iload_n 1, [1], 0, 0), (.iconst 3, [], 3, 0), (.if_icmp .ne 20, [20], 0, 0), (.iload_n 3, [3], 0, 0), (.aload_n 0, [0], 0, 0), (.getfield 128, [8, 10, 0], 0, 0), (.if_icmp .ge 12, [20], 0, 0), (.aload_n 0, [0], 0, 0), (.iload_n 3, [3], 0, 0), (.iconst 3, [], 3, 0), (.invokevirtual 155, [187, 3, 8], 0, 0), (.ifCond .ne 68, [56], 0, 0), (.iload_n 1, [1], 0, 0), (.iconst 5, [], 5, 0), (.if_icmp .ne 22, [34], 0, 0), (.iload_n 3, [3], 0, 0), (.iconst 3, [], 3, 0), (.if_icmp .ge 17, [34], 0, 0), (.aload_n 0, [0], 0, 0), (.getfield 51, [8, 28, 2], 0, 0), (.bipush 10, [], 10, 0), (.iload_n 3, [3], 0, 0), (.imul, [], 0, 0), (.iaload, [], 0, 0), (.bipush (-9), [], (-9), 0), (.if_icmp .ne 44, [56], 0, 0), (.iload_n 1, [1], 0, 0), (.bipush 6, [], 6, 0), (.if_icmp .ne 18, [45], 0, 0), (.iload_n 3, [3], 0, 0), (.bipush 6, [], 6, 0), (.if_icmp .ge 12, [45], 0, 0), (.aload_n 0, [0], 0, 0), (.getfield 17, [8, 5, 2], 0, 0), (.iload_n 3, [3], 0, 0), (.iaload, [], 0, 0), (.ifCond .ge 23, [56], 0, 0), (.iload_n 1, [1], 0, 0), (.bipush 7, [], 7, 0), (.if_icmp .ne 21, [58], 0, 0), (.iload_n 3, [3], 0, 0), (.iconst 4, [], 4, 0), (.if_icmp .ge 16, [58], 0, 0), (.aload_n 0, [0], 0, 0), (.getfield 26, [8, 8, 2], 0, 0), (.iload_n 3, [3], 0, 0), (.iaload, [], 0, 0), (.ifCond .lt 7, [58], 0, 0), (.iconst 1, [], 1, 0), (.goto 4, [59], 0, 0), (.iconst 0, [], 0, 0), (.iadd, [], 0, 0), (.istore_n 2, [2], 0, 0), (.iinc 3 1, [3], 1, 0), (.goto (-104), [4], 0, 0), (.iload_n 1, [1], 0, 0), (.tableswitch 56 0 4 #[36, 41, 46, 56, 51], [77, 65, 68, 71, 77, 74], 0, 0), (.aload_n 0, [0], 0, 0), (.getfield 128, [8, 10, 0], 0, 0), (.ireturn, [0], 0, 0), (.aload_n 0, [0], 0, 0), (.getfield 131, [8, 11, 0], 0, 0), (.ireturn, [0], 0, 0), (.aload_n 0, [0], 0, 0), (.getfield 57, [8, 18, 0], 0, 0), (.ireturn, [0], 0, 0), (.aload_n 0, [0], 0, 0), (.getfield 134, [8, 32, 0], 0, 0), (.ireturn, [0], 0, 0), (.iload_n 2, [2], 0, 0), (.ireturn, [0], 0, 0)]
def xk_251 : List (Nat × Nat) := [(0, 0), (1, 0), (2, 0), (3, 0), (4, 0), (5, 0), (7, 0), (10, 0), (11, 0), (12, 0), (13, 0), (16, 0), (17, 0), (18, 84), (21, 0), (24, 0), (25, 0), (26, 0), (27, 229), (30, 0), (33, 0), (34, 0), (35, 0), (38, 0), (39, 0), (40, 0), (43, 0), (44, 102), (47, 0), (49, 0), (50, 0), (51, 0), (52, 0), (54, 0), (57, 0), (58, 0), (60, 0), (63, 0), (64, 0), (66, 0), (69, 0), (70, 79), (73, 0), (74, 0), (75, 0), (78, 0), (79, 0), (81, 0), (84, 0), (85, 0), (86, 0), (89, 0), (90, 82), (93, 0), (94, 0), (95, 0), (98, 0), (99, 0), (102, 0), (103, 0), (104, 0), (105, 0), (108, 0), (111, 0), (112, 0), (148, 0), (149, 84), (152, 0), (153, 0), (154, 85), (157, 0), (158, 0), (159, 92), (162, 0), (163, 0), (164, 106), (167, 0), (168, 0), (169, 0)]
def xm_251 : xi_M := (8, "counts", "(I)I", prog_10_method_99_code, some .int, 1, xk_251)
/-- GuineaHoursModel.finding()I -/
def xc_252 : List xi_E := [(.aload_n 0, [0], 0, 0), (.getfield 60, [8, 0, 0], 0, 0), (.ireturn, [0], 0, 0)]
def xk_252 : List (Nat × Nat) := [(0, 0), (1, 74), (4, 0)]
def xm_252 : xi_M := (8, "finding", "()I", prog_10_method_101_code, some .int, 1, xk_252)
/-- GuineaHoursModel.findings(I)I -/
def xc_253 : List xi_E := [(.iload_n 1, [1], 0, 0), (.iconst 1, [], 1, 0), (.iconst 5, [], 5, 0), (.invokestatic 69, [156, 3], 0, 0), (.ifCond .eq 12, [10], 0, 0), (.aload_n 0, [0], 0, 0), (.getfield 7, [8, 1, 2], 0, 0), (.iload_n 1, [1], 0, 0), (.iaload, [], 0, 0), (.goto 4, [11], 0, 0), (.iconst (-1), [], (-1), 0), (.ireturn, [0], 0, 0)]
def xk_253 : List (Nat × Nat) := [(0, 0), (1, 0), (2, 0), (3, 197), (6, 0), (9, 0), (10, 75), (13, 0), (14, 0), (15, 0), (18, 0), (19, 0)]
def xm_253 : xi_M := (8, "findings", "(I)I", prog_10_method_102_code, some .int, 1, xk_253)
/-- GuineaHoursModel.digest()J -/
def xc_254 : List xi_E := [(.aload_n 0, [0], 0, 0), (.ldc2_w 295, [], 0, 17), (.putfield 289, [8, 33, 1], 0, 0), (.iconst 0, [], 0, 0), (.istore_n 1, [1], 0, 0), (.iload_n 1, [1], 0, 0), (.bipush 7, [], 7, 0), (.if_icmp .gt 18, [15], 0, 0), (.aload_n 0, [0], 0, 0), (.aload_n 0, [0], 0, 0), (.iload_n 1, [1], 0, 0), (.invokevirtual 284, [251, 2, 8], 0, 0), (.invokevirtual 292, [255, 2, 8], 0, 0), (.iinc 1 1, [1], 1, 0), (.goto (-18), [5], 0, 0), (.aload_n 0, [0], 0, 0), (.invokevirtual 297, [256, 1, 8], 0, 0), (.iconst 0, [], 0, 0), (.istore_n 1, [1], 0, 0), (.iload_n 1, [1], 0, 0), (.bipush 6, [], 6, 0), (.if_icmp .ge 60, [53], 0, 0), (.aload_n 0, [0], 0, 0), (.aload_n 0, [0], 0, 0), (.getfield 17, [8, 5, 2], 0, 0), (.iload_n 1, [1], 0, 0), (.iaload, [], 0, 0), (.ifCond .ge 7, [30], 0, 0), (.iconst (-1), [], (-1), 0), (.goto 9, [34], 0, 0), (.aload_n 0, [0], 0, 0), (.getfield 17, [8, 5, 2], 0, 0), (.iload_n 1, [1], 0, 0), (.iaload, [], 0, 0), (.invokevirtual 292, [255, 2, 8], 0, 0), (.iconst 0, [], 0, 0), (.istore_n 2, [2], 0, 0), (.iload_n 2, [2], 0, 0), (.aload_n 0, [0], 0, 0), (.getfield 17, [8, 5, 2], 0, 0), (.iload_n 1, [1], 0, 0), (.iaload, [], 0, 0), (.if_icmp .ge 19, [51], 0, 0), (.aload_n 0, [0], 0, 0), (.aload_n 0, [0], 0, 0), (.iload_n 1, [1], 0, 0), (.iload_n 2, [2], 0, 0), (.invokevirtual 91, [161, 3, 8], 0, 0), (.invokevirtual 292, [255, 2, 8], 0, 0), (.iinc 2 1, [2], 1, 0), (.goto (-23), [37], 0, 0), (.iinc 1 1, [1], 1, 0), (.goto (-60), [19], 0, 0), (.iconst 0, [], 0, 0), (.istore_n 1, [1], 0, 0), (.iload_n 1, [1], 0, 0), (.iconst 4, [], 4, 0), (.if_icmp .ge 65, [93], 0, 0), (.aload_n 0, [0], 0, 0), (.aload_n 0, [0], 0, 0), (.getfield 26, [8, 8, 2], 0, 0), (.iload_n 1, [1], 0, 0), (.iaload, [], 0, 0), (.ifCond .ge 7, [66], 0, 0), (.iconst (-1), [], (-1), 0), (.goto 9, [70], 0, 0), (.aload_n 0, [0], 0, 0), (.getfield 26, [8, 8, 2], 0, 0), (.iload_n 1, [1], 0, 0), (.iaload, [], 0, 0), (.invokevirtual 292, [255, 2, 8], 0, 0), (.iconst 0, [], 0, 0), (.istore_n 2, [2], 0, 0), (.iload_n 2, [2], 0, 0), (.aload_n 0, [0], 0, 0), (.getfield 26, [8, 8, 2], 0, 0), (.iload_n 1, [1], 0, 0), (.iaload, [], 0, 0), (.if_icmp .ge 24, [91], 0, 0), (.aload_n 0, [0], 0, 0), (.aload_n 0, [0], 0, 0), (.getfield 29, [8, 9, 2], 0, 0), (.bipush 80, [], 80, 0), (.iload_n 1, [1], 0, 0), (.imul, [], 0, 0), (.iload_n 2, [2], 0, 0), (.iadd, [], 0, 0), (.iaload, [], 0, 0), (.invokevirtual 292, [255, 2, 8], 0, 0), (.iinc 2 1, [2], 1, 0), (.goto (-28), [73], 0, 0), (.iinc 1 1, [1], 1, 0), (.goto (-64), [55], 0, 0), (.aload_n 0, [0], 0, 0), (.getfield 289, [8, 33, 1], 0, 0), (.lreturn, [], 0, 0)]
def xk_254 : List (Nat × Nat) := [(0, 0), (1, 9), (4, 107), (7, 0), (8, 0), (9, 0), (10, 0), (12, 0), (15, 0), (16, 0), (17, 0), (18, 294), (21, 298), (24, 0), (27, 0), (30, 0), (31, 299), (34, 0), (35, 0), (36, 0), (37, 0), (39, 0), (42, 0), (43, 0), (44, 79), (47, 0), (48, 0), (49, 0), (52, 0), (53, 0), (56, 0), (57, 79), (60, 0), (61, 0), (62, 298), (65, 0), (66, 0), (67, 0), (68, 0), (69, 79), (72, 0), (73, 0), (74, 0), (77, 0), (78, 0), (79, 0), (80, 0), (81, 202), (84, 298), (87, 0), (90, 0), (93, 0), (96, 0), (99, 0), (100, 0), (101, 0), (102, 0), (103, 0), (106, 0), (107, 0), (108, 82), (111, 0), (112, 0), (113, 0), (116, 0), (117, 0), (120, 0), (121, 82), (124, 0), (125, 0), (126, 298), (129, 0), (130, 0), (131, 0), (132, 0), (133, 82), (136, 0), (137, 0), (138, 0), (141, 0), (142, 0), (143, 83), (146, 0), (148, 0), (149, 0), (150, 0), (151, 0), (152, 0), (153, 298), (156, 0), (159, 0), (162, 0), (165, 0), (168, 0), (169, 107), (172, 0)]
def xm_254 : xi_M := (8, "digest", "()J", prog_10_method_105_code, some .long, 1, xk_254)
/-- GuineaHoursModel.mix(I)V -/
def xc_255 : List xi_E := [(.aload_n 0, [0], 0, 0), (.ldc2_w 287, [], 0, 31), (.aload_n 0, [0], 0, 0), (.getfield 289, [8, 33, 1], 0, 0), (.lmul, [], 0, 0), (.iload_n 1, [1], 0, 0), (.i2l, [], 0, 0), (.ladd, [], 0, 0), (.putfield 289, [8, 33, 1], 0, 0), (.return_, [], 0, 0)]
def xk_255 : List (Nat × Nat) := [(0, 0), (1, 10), (4, 0), (5, 107), (8, 0), (9, 0), (10, 0), (11, 0), (12, 107), (15, 0)]
def xm_255 : xi_M := (8, "mix", "(I)V", prog_10_method_103_code, none, 1, xk_255)
/-- GuineaHoursModel.mixTown()V -/
def xc_256 : List xi_E := [(.aload_n 0, [0], 0, 0), (.aload_n 0, [0], 0, 0), (.getfield 35, [8, 16, 0], 0, 0), (.invokevirtual 292, [255, 2, 8], 0, 0), (.aload_n 0, [0], 0, 0), (.aload_n 0, [0], 0, 0), (.getfield 162, [8, 17, 0], 0, 0), (.invokevirtual 292, [255, 2, 8], 0, 0), (.iconst 0, [], 0, 0), (.istore_n 1, [1], 0, 0), (.iload_n 1, [1], 0, 0), (.aload_n 0, [0], 0, 0), (.getfield 128, [8, 10, 0], 0, 0), (.if_icmp .ge 58, [43], 0, 0), (.iconst 0, [], 0, 0), (.istore_n 2, [2], 0, 0), (.iload_n 2, [2], 0, 0), (.iconst 2, [], 2, 0), (.if_icmp .gt 19, [27], 0, 0), (.aload_n 0, [0], 0, 0), (.aload_n 0, [0], 0, 0), (.iload_n 1, [1], 0, 0), (.iload_n 2, [2], 0, 0), (.invokevirtual 146, [180, 3, 8], 0, 0), (.invokevirtual 292, [255, 2, 8], 0, 0), (.iinc 2 1, [2], 1, 0), (.goto (-18), [16], 0, 0), (.iconst 0, [], 0, 0), (.istore_n 2, [2], 0, 0), (.iload_n 2, [2], 0, 0), (.aload_n 0, [0], 0, 0), (.getfield 131, [8, 11, 0], 0, 0), (.if_icmp .ge 19, [41], 0, 0), (.aload_n 0, [0], 0, 0), (.aload_n 0, [0], 0, 0), (.iload_n 1, [1], 0, 0), (.iload_n 2, [2], 0, 0), (.invokevirtual 152, [185, 3, 8], 0, 0), (.invokevirtual 292, [255, 2, 8], 0, 0), (.iinc 2 1, [2], 1, 0), (.goto (-21), [29], 0, 0), (.iinc 1 1, [1], 1, 0), (.goto (-60), [10], 0, 0), (.iconst 0, [], 0, 0), (.istore_n 1, [1], 0, 0), (.iload_n 1, [1], 0, 0), (.aload_n 0, [0], 0, 0), (.getfield 57, [8, 18, 0], 0, 0), (.if_icmp .gt 19, [57], 0, 0), (.aload_n 0, [0], 0, 0), (.aload_n 0, [0], 0, 0), (.getfield 39, [8, 19, 2], 0, 0), (.iload_n 1, [1], 0, 0), (.iaload, [], 0, 0), (.invokevirtual 292, [255, 2, 8], 0, 0), (.iinc 1 1, [1], 1, 0), (.goto (-21), [45], 0, 0), (.iconst 0, [], 0, 0), (.istore_n 1, [1], 0, 0), (.iload_n 1, [1], 0, 0), (.iconst 3, [], 3, 0), (.aload_n 0, [0], 0, 0), (.getfield 134, [8, 32, 0], 0, 0), (.imul, [], 0, 0), (.if_icmp .ge 19, [73], 0, 0), (.aload_n 0, [0], 0, 0), (.aload_n 0, [0], 0, 0), (.getfield 54, [8, 31, 2], 0, 0), (.iload_n 1, [1], 0, 0), (.iaload, [], 0, 0), (.invokevirtual 292, [255, 2, 8], 0, 0), (.iinc 1 1, [1], 1, 0), (.goto (-23), [59], 0, 0), (.iconst 0, [], 0, 0), (.istore_n 1, [1], 0, 0), (.iload_n 1, [1], 0, 0), (.iconst 3, [], 3, 0), (.if_icmp .ge 40, [98], 0, 0), (.aload_n 0, [0], 0, 0), (.aload_n 0, [0], 0, 0), (.getfield 51, [8, 28, 2], 0, 0), (.bipush 10, [], 10, 0), (.iload_n 1, [1], 0, 0), (.imul, [], 0, 0), (.iaload, [], 0, 0), (.bipush (-9), [], (-9), 0), (.if_icmp .ne 7, [89], 0, 0), (.iconst (-1), [], (-1), 0), (.goto 12, [95], 0, 0), (.aload_n 0, [0], 0, 0), (.getfield 51, [8, 28, 2], 0, 0), (.bipush 10, [], 10, 0), (.iload_n 1, [1], 0, 0), (.imul, [], 0, 0), (.iaload, [], 0, 0), (.invokevirtual 292, [255, 2, 8], 0, 0), (.iinc 1 1, [1], 1, 0), (.goto (-39), [75], 0, 0), (.return_, [], 0, 0)]
def xk_256 : List (Nat × Nat) := [(0, 0), (1, 0), (2, 90), (5, 298), (8, 0), (9, 0), (10, 91), (13, 298), (16, 0), (17, 0), (18, 0), (19, 0), (20, 84), (23, 0), (26, 0), (27, 0), (28, 0), (29, 0), (30, 0), (33, 0), (34, 0), (35, 0), (36, 0), (37, 222), (40, 298), (43, 0), (46, 0), (49, 0), (50, 0), (51, 0), (52, 0), (53, 85), (56, 0), (59, 0), (60, 0), (61, 0), (62, 0), (63, 227), (66, 298), (69, 0), (72, 0), (75, 0), (78, 0), (81, 0), (82, 0), (83, 0), (84, 0), (85, 92), (88, 0), (91, 0), (92, 0), (93, 93), (96, 0), (97, 0), (98, 298), (101, 0), (104, 0), (107, 0), (108, 0), (109, 0), (110, 0), (111, 0), (112, 106), (115, 0), (116, 0), (119, 0), (120, 0), (121, 105), (124, 0), (125, 0), (126, 298), (129, 0), (132, 0), (135, 0), (136, 0), (137, 0), (138, 0), (139, 0), (142, 0), (143, 0), (144, 102), (147, 0), (149, 0), (150, 0), (151, 0), (152, 0), (154, 0), (157, 0), (158, 0), (161, 0), (162, 102), (165, 0), (167, 0), (168, 0), (169, 0), (170, 298), (173, 0), (176, 0), (179, 0)]
def xm_256 : xi_M := (8, "mixTown", "()V", prog_10_method_104_code, none, 1, xk_256)
/-- GuineaHoursLaw.law([I)Z -/
def xc_257 : List xi_E := [(.new 7, [7], 0, 0), (.dup, [], 0, 0), (.invokespecial 9, [0, 1, 7], 0, 0), (.astore_n 1, [1], 0, 0), (.new 10, [8], 0, 0), (.dup, [], 0, 0), (.invokespecial 12, [153, 1, 8], 0, 0), (.astore_n 2, [2], 0, 0), (.iconst 0, [], 0, 0), (.istore_n 3, [3], 0, 0), (.iload_n 3, [3], 0, 0), (.aload_n 0, [0], 0, 0), (.arraylength, [], 0, 0), (.bipush 6, [], 6, 0), (.isub, [], 0, 0), (.if_icmp .gt 1657, [1131], 0, 0), (.aload_n 0, [0], 0, 0), (.iload_n 3, [3], 0, 0), (.iaload, [], 0, 0), (.bipush 63, [], 63, 0), (.iand, [], 0, 0), (.tableswitch 1642 0 51 #[223, 256, 299, 332, 355, 418, 441, 474, 517, 540, 563, 596, 629, 662, 685, 708, 741, 764, 787, 800, 813, 836, 849, 862, 885, 908, 931, 964, 1007, 1040, 1073, 1106, 1129, 1162, 1185, 1218, 1261, 1284, 1297, 1320, 1343, 1386, 1419, 1462, 1495, 1528, 1541, 1555, 1569, 1592, 1605, 1628], [1129, 22, 49, 86, 113, 130, 187, 204, 231, 268, 285, 302, 329, 356, 383, 400, 417, 444, 461, 478, 485, 492, 509, 516, 523, 540, 557, 574, 601, 638, 665, 692, 719, 736, 763, 780, 807, 844, 861, 868, 885, 902, 939, 966, 1003, 1030, 1057, 1064, 1072, 1080, 1097, 1104, 1121], 0, 0), (.aload_n 1, [1], 0, 0), (.aload_n 0, [0], 0, 0), (.iload_n 3, [3], 0, 0), (.iconst 1, [], 1, 0), (.iadd, [], 0, 0), (.iaload, [], 0, 0), (.aload_n 0, [0], 0, 0), (.iload_n 3, [3], 0, 0), (.iconst 2, [], 2, 0), (.iadd, [], 0, 0), (.iaload, [], 0, 0), (.invokevirtual 13, [9, 3, 7], 0, 0), (.aload_n 2, [2], 0, 0), (.aload_n 0, [0], 0, 0), (.iload_n 3, [3], 0, 0), (.iconst 1, [], 1, 0), (.iadd, [], 0, 0), (.iaload, [], 0, 0), (.aload_n 0, [0], 0, 0), (.iload_n 3, [3], 0, 0), (.iconst 2, [], 2, 0), (.iadd, [], 0, 0), (.iaload, [], 0, 0), (.invokevirtual 17, [154, 3, 8], 0, 0), (.if_icmp .eq 1391, [1129], 0, 0), (.iconst 0, [], 0, 0), (.ireturn, [1], 0, 0), (.aload_n 1, [1], 0, 0), (.aload_n 0, [0], 0, 0), (.iload_n 3, [3], 0, 0), (.iconst 1, [], 1, 0), (.iadd, [], 0, 0), (.iaload, [], 0, 0), (.aload_n 0, [0], 0, 0), (.iload_n 3, [3], 0, 0), (.iconst 2, [], 2, 0), (.iadd, [], 0, 0), (.iaload, [], 0, 0), (.aload_n 0, [0], 0, 0), (.iload_n 3, [3], 0, 0), (.iconst 3, [], 3, 0), (.iadd, [], 0, 0), (.iaload, [], 0, 0), (.invokevirtual 18, [13, 4, 7], 0, 0), (.aload_n 2, [2], 0, 0), (.aload_n 0, [0], 0, 0), (.iload_n 3, [3], 0, 0), (.iconst 1, [], 1, 0), (.iadd, [], 0, 0), (.iaload, [], 0, 0), (.aload_n 0, [0], 0, 0), (.iload_n 3, [3], 0, 0), (.iconst 2, [], 2, 0), (.iadd, [], 0, 0), (.iaload, [], 0, 0), (.aload_n 0, [0], 0, 0), (.iload_n 3, [3], 0, 0), (.iconst 3, [], 3, 0), (.iadd, [], 0, 0), (.iaload, [], 0, 0), (.invokevirtual 22, [163, 4, 8], 0, 0), (.if_icmp .eq 1348, [1129], 0, 0), (.iconst 0, [], 0, 0), (.ireturn, [1], 0, 0), (.aload_n 1, [1], 0, 0), (.aload_n 0, [0], 0, 0), (.iload_n 3, [3], 0, 0), (.iconst 1, [], 1, 0), (.iadd, [], 0, 0), (.iaload, [], 0, 0), (.aload_n 0, [0], 0, 0), (.iload_n 3, [3], 0, 0), (.iconst 2, [], 2, 0), (.iadd, [], 0, 0), (.iaload, [], 0, 0), (.invokevirtual 23, [16, 3, 7], 0, 0), (.aload_n 2, [2], 0, 0), (.aload_n 0, [0], 0, 0), (.iload_n 3, [3], 0, 0), (.iconst 1, [], 1, 0), (.iadd, [], 0, 0), (.iaload, [], 0, 0), (.aload_n 0, [0], 0, 0), (.iload_n 3, [3], 0, 0), (.iconst 2, [], 2, 0), (.iadd, [], 0, 0), (.iaload, [], 0, 0), (.invokevirtual 26, [159, 3, 8], 0, 0), (.if_icmp .eq 1315, [1129], 0, 0), (.iconst 0, [], 0, 0), (.ireturn, [1], 0, 0), (.aload_n 1, [1], 0, 0), (.aload_n 0, [0], 0, 0), (.iload_n 3, [3], 0, 0), (.iconst 1, [], 1, 0), (.iadd, [], 0, 0), (.iaload, [], 0, 0), (.invokevirtual 27, [17, 2, 7], 0, 0), (.aload_n 2, [2], 0, 0), (.aload_n 0, [0], 0, 0), (.iload_n 3, [3], 0, 0), (.iconst 1, [], 1, 0), (.iadd, [], 0, 0), (.iaload, [], 0, 0), (.invokevirtual 31, [164, 2, 8], 0, 0), (.if_icmp .eq 1292, [1129], 0, 0), (.iconst 0, [], 0, 0), (.ireturn, [1], 0, 0), (.aload_n 1, [1], 0, 0), (.aload_n 0, [0], 0, 0), (.iload_n 3, [3], 0, 0), (.iconst 1, [], 1, 0), (.iadd, [], 0, 0), (.iaload, [], 0, 0), (.aload_n 0, [0], 0, 0), (.iload_n 3, [3], 0, 0), (.iconst 2, [], 2, 0), (.iadd, [], 0, 0), (.iaload, [], 0, 0), (.aload_n 0, [0], 0, 0), (.iload_n 3, [3], 0, 0), (.iconst 3, [], 3, 0), (.iadd, [], 0, 0), (.iaload, [], 0, 0), (.aload_n 0, [0], 0, 0), (.iload_n 3, [3], 0, 0), (.iconst 4, [], 4, 0), (.iadd, [], 0, 0), (.iaload, [], 0, 0), (.aload_n 0, [0], 0, 0), (.iload_n 3, [3], 0, 0), (.iconst 5, [], 5, 0), (.iadd, [], 0, 0), (.iaload, [], 0, 0), (.invokevirtual 32, [18, 6, 7], 0, 0), (.aload_n 2, [2], 0, 0), (.aload_n 0, [0], 0, 0), (.iload_n 3, [3], 0, 0), (.iconst 1, [], 1, 0), (.iadd, [], 0, 0), (.iaload, [], 0, 0), (.aload_n 0, [0], 0, 0), (.iload_n 3, [3], 0, 0), (.iconst 2, [], 2, 0), (.iadd, [], 0, 0), (.iaload, [], 0, 0), (.aload_n 0, [0], 0, 0), (.iload_n 3, [3], 0, 0), (.iconst 3, [], 3, 0), (.iadd, [], 0, 0), (.iaload, [], 0, 0), (.aload_n 0, [0], 0, 0), (.iload_n 3, [3], 0, 0), (.iconst 4, [], 4, 0), (.iadd, [], 0, 0), (.iaload, [], 0, 0), (.aload_n 0, [0], 0, 0), (.iload_n 3, [3], 0, 0), (.iconst 5, [], 5, 0), (.iadd, [], 0, 0), (.iaload, [], 0, 0), (.invokevirtual 36, [165, 6, 8], 0, 0), (.if_icmp .eq 1229, [1129], 0, 0), (.iconst 0, [], 0, 0), (.ireturn, [1], 0, 0), (.aload_n 1, [1], 0, 0), (.aload_n 0, [0], 0, 0), (.iload_n 3, [3], 0, 0), (.iconst 1, [], 1, 0), (.iadd, [], 0, 0), (.iaload, [], 0, 0), (.invokevirtual 37, [20, 2, 7], 0, 0), (.aload_n 2, [2], 0, 0), (.aload_n 0, [0], 0, 0), (.iload_n 3, [3], 0, 0), (.iconst 1, [], 1, 0), (.iadd, [], 0, 0), (.iaload, [], 0, 0), (.invokevirtual 40, [166, 2, 8], 0, 0), (.if_icmp .eq 1206, [1129], 0, 0), (.iconst 0, [], 0, 0), (.ireturn, [1], 0, 0), (.aload_n 1, [1], 0, 0), (.aload_n 0, [0], 0, 0), (.iload_n 3, [3], 0, 0), (.iconst 1, [], 1, 0), (.iadd, [], 0, 0), (.iaload, [], 0, 0), (.aload_n 0, [0], 0, 0), (.iload_n 3, [3], 0, 0), (.iconst 2, [], 2, 0), (.iadd, [], 0, 0), (.iaload, [], 0, 0), (.invokevirtual 41, [21, 3, 7], 0, 0), (.aload_n 2, [2], 0, 0), (.aload_n 0, [0], 0, 0), (.iload_n 3, [3], 0, 0), (.iconst 1, [], 1, 0), (.iadd, [], 0, 0), (.iaload, [], 0, 0), (.aload_n 0, [0], 0, 0), (.iload_n 3, [3], 0, 0), (.iconst 2, [], 2, 0), (.iadd, [], 0, 0), (.iaload, [], 0, 0), (.invokevirtual 44, [167, 3, 8], 0, 0), (.if_icmp .eq 1173, [1129], 0, 0), (.iconst 0, [], 0, 0), (.ireturn, [1], 0, 0), (.aload_n 1, [1], 0, 0), (.aload_n 0, [0], 0, 0), (.iload_n 3, [3], 0, 0), (.iconst 1, [], 1, 0), (.iadd, [], 0, 0), (.iaload, [], 0, 0), (.aload_n 0, [0], 0, 0), (.iload_n 3, [3], 0, 0), (.iconst 2, [], 2, 0), (.iadd, [], 0, 0), (.iaload, [], 0, 0), (.aload_n 0, [0], 0, 0), (.iload_n 3, [3], 0, 0), (.iconst 3, [], 3, 0), (.iadd, [], 0, 0), (.iaload, [], 0, 0), (.invokevirtual 45, [24, 4, 7], 0, 0), (.aload_n 2, [2], 0, 0), (.aload_n 0, [0], 0, 0), (.iload_n 3, [3], 0, 0), (.iconst 1, [], 1, 0), (.iadd, [], 0, 0), (.iaload, [], 0, 0), (.aload_n 0, [0], 0, 0), (.iload_n 3, [3], 0, 0), (.iconst 2, [], 2, 0), (.iadd, [], 0, 0), (.iaload, [], 0, 0), (.aload_n 0, [0], 0, 0), (.iload_n 3, [3], 0, 0), (.iconst 3, [], 3, 0), (.iadd, [], 0, 0), (.iaload, [], 0, 0), (.invokevirtual 48, [169, 4, 8], 0, 0), (.if_icmp .eq 1130, [1129], 0, 0), (.iconst 0, [], 0, 0), (.ireturn, [1], 0, 0), (.aload_n 1, [1], 0, 0), (.aload_n 0, [0], 0, 0), (.iload_n 3, [3], 0, 0), (.iconst 1, [], 1, 0), (.iadd, [], 0, 0), (.iaload, [], 0, 0), (.invokevirtual 49, [26, 2, 7], 0, 0), (.aload_n 2, [2], 0, 0), (.aload_n 0, [0], 0, 0), (.iload_n 3, [3], 0, 0), (.iconst 1, [], 1, 0), (.iadd, [], 0, 0), (.iaload, [], 0, 0), (.invokevirtual 52, [171, 2, 8], 0, 0), (.if_icmp .eq 1107, [1129], 0, 0), (.iconst 0, [], 0, 0), (.ireturn, [1], 0, 0), (.aload_n 1, [1], 0, 0), (.aload_n 0, [0], 0, 0), (.iload_n 3, [3], 0, 0), (.iconst 1, [], 1, 0), (.iadd, [], 0, 0), (.iaload, [], 0, 0), (.invokevirtual 53, [40, 2, 7], 0, 0), (.aload_n 2, [2], 0, 0), (.aload_n 0, [0], 0, 0), (.iload_n 3, [3], 0, 0), (.iconst 1, [], 1, 0), (.iadd, [], 0, 0), (.iaload, [], 0, 0), (.invokevirtual 56, [177, 2, 8], 0, 0), (.if_icmp .eq 1084, [1129], 0, 0), (.iconst 0, [], 0, 0), (.ireturn, [1], 0, 0), (.aload_n 1, [1], 0, 0), (.aload_n 0, [0], 0, 0), (.iload_n 3, [3], 0, 0), (.iconst 1, [], 1, 0), (.iadd, [], 0, 0), (.iaload, [], 0, 0), (.aload_n 0, [0], 0, 0), (.iload_n 3, [3], 0, 0), (.iconst 2, [], 2, 0), (.iadd, [], 0, 0), (.iaload, [], 0, 0), (.invokevirtual 57, [43, 3, 7], 0, 0), (.aload_n 2, [2], 0, 0), (.aload_n 0, [0], 0, 0), (.iload_n 3, [3], 0, 0), (.iconst 1, [], 1, 0), (.iadd, [], 0, 0), (.iaload, [], 0, 0), (.aload_n 0, [0], 0, 0), (.iload_n 3, [3], 0, 0), (.iconst 2, [], 2, 0), (.iadd, [], 0, 0), (.iaload, [], 0, 0), (.invokevirtual 60, [178, 3, 8], 0, 0), (.if_icmp .eq 1051, [1129], 0, 0), (.iconst 0, [], 0, 0), (.ireturn, [1], 0, 0), (.aload_n 1, [1], 0, 0), (.aload_n 0, [0], 0, 0), (.iload_n 3, [3], 0, 0), (.iconst 1, [], 1, 0), (.iadd, [], 0, 0), (.iaload, [], 0, 0), (.aload_n 0, [0], 0, 0), (.iload_n 3, [3], 0, 0), (.iconst 2, [], 2, 0), (.iadd, [], 0, 0), (.iaload, [], 0, 0), (.invokevirtual 61, [47, 3, 7], 0, 0), (.aload_n 2, [2], 0, 0), (.aload_n 0, [0], 0, 0), (.iload_n 3, [3], 0, 0), (.iconst 1, [], 1, 0), (.iadd, [], 0, 0), (.iaload, [], 0, 0), (.aload_n 0, [0], 0, 0), (.iload_n 3, [3], 0, 0), (.iconst 2, [], 2, 0), (.iadd, [], 0, 0), (.iaload, [], 0, 0), (.invokevirtual 64, [183, 3, 8], 0, 0), (.if_icmp .eq 1018, [1129], 0, 0), (.iconst 0, [], 0, 0), (.ireturn, [1], 0, 0), (.aload_n 1, [1], 0, 0), (.aload_n 0, [0], 0, 0), (.iload_n 3, [3], 0, 0), (.iconst 1, [], 1, 0), (.iadd, [], 0, 0), (.iaload, [], 0, 0), (.aload_n 0, [0], 0, 0), (.iload_n 3, [3], 0, 0), (.iconst 2, [], 2, 0), (.iadd, [], 0, 0), (.iaload, [], 0, 0), (.invokevirtual 65, [49, 3, 7], 0, 0), (.aload_n 2, [2], 0, 0), (.aload_n 0, [0], 0, 0), (.iload_n 3, [3], 0, 0), (.iconst 1, [], 1, 0), (.iadd, [], 0, 0), (.iaload, [], 0, 0), (.aload_n 0, [0], 0, 0), (.iload_n 3, [3], 0, 0), (.iconst 2, [], 2, 0), (.iadd, [], 0, 0), (.iaload, [], 0, 0), (.invokevirtual 68, [186, 3, 8], 0, 0), (.if_icmp .eq 985, [1129], 0, 0), (.iconst 0, [], 0, 0), (.ireturn, [1], 0, 0), (.aload_n 1, [1], 0, 0), (.aload_n 0, [0], 0, 0), (.iload_n 3, [3], 0, 0), (.iconst 1, [], 1, 0), (.iadd, [], 0, 0), (.iaload, [], 0, 0), (.invokevirtual 69, [53, 2, 7], 0, 0), (.aload_n 2, [2], 0, 0), (.aload_n 0, [0], 0, 0), (.iload_n 3, [3], 0, 0), (.iconst 1, [], 1, 0), (.iadd, [], 0, 0), (.iaload, [], 0, 0), (.invokevirtual 72, [189, 2, 8], 0, 0), (.if_icmp .eq 962, [1129], 0, 0), (.iconst 0, [], 0, 0), (.ireturn, [1], 0, 0), (.aload_n 1, [1], 0, 0), (.aload_n 0, [0], 0, 0), (.iload_n 3, [3], 0, 0), (.iconst 1, [], 1, 0), (.iadd, [], 0, 0), (.iaload, [], 0, 0), (.invokevirtual 73, [54, 2, 7], 0, 0), (.aload_n 2, [2], 0, 0), (.aload_n 0, [0], 0, 0), (.iload_n 3, [3], 0, 0), (.iconst 1, [], 1, 0), (.iadd, [], 0, 0), (.iaload, [], 0, 0), (.invokevirtual 76, [190, 2, 8], 0, 0), (.if_icmp .eq 939, [1129], 0, 0), (.iconst 0, [], 0, 0), (.ireturn, [1], 0, 0), (.aload_n 1, [1], 0, 0), (.aload_n 0, [0], 0, 0), (.iload_n 3, [3], 0, 0), (.iconst 1, [], 1, 0), (.iadd, [], 0, 0), (.iaload, [], 0, 0), (.aload_n 0, [0], 0, 0), (.iload_n 3, [3], 0, 0), (.iconst 2, [], 2, 0), (.iadd, [], 0, 0), (.iaload, [], 0, 0), (.invokevirtual 77, [55, 3, 7], 0, 0), (.aload_n 2, [2], 0, 0), (.aload_n 0, [0], 0, 0), (.iload_n 3, [3], 0, 0), (.iconst 1, [], 1, 0), (.iadd, [], 0, 0), (.iaload, [], 0, 0), (.aload_n 0, [0], 0, 0), (.iload_n 3, [3], 0, 0), (.iconst 2, [], 2, 0), (.iadd, [], 0, 0), (.iaload, [], 0, 0), (.invokevirtual 80, [191, 3, 8], 0, 0), (.if_icmp .eq 906, [1129], 0, 0), (.iconst 0, [], 0, 0), (.ireturn, [1], 0, 0), (.aload_n 1, [1], 0, 0), (.aload_n 0, [0], 0, 0), (.iload_n 3, [3], 0, 0), (.iconst 1, [], 1, 0), (.iadd, [], 0, 0), (.iaload, [], 0, 0), (.invokevirtual 81, [57, 2, 7], 0, 0), (.aload_n 2, [2], 0, 0), (.aload_n 0, [0], 0, 0), (.iload_n 3, [3], 0, 0), (.iconst 1, [], 1, 0), (.iadd, [], 0, 0), (.iaload, [], 0, 0), (.invokevirtual 84, [194, 2, 8], 0, 0), (.if_icmp .eq 883, [1129], 0, 0), (.iconst 0, [], 0, 0), (.ireturn, [1], 0, 0), (.aload_n 1, [1], 0, 0), (.aload_n 0, [0], 0, 0), (.iload_n 3, [3], 0, 0), (.iconst 1, [], 1, 0), (.iadd, [], 0, 0), (.iaload, [], 0, 0), (.invokevirtual 85, [60, 2, 7], 0, 0), (.aload_n 2, [2], 0, 0), (.aload_n 0, [0], 0, 0), (.iload_n 3, [3], 0, 0), (.iconst 1, [], 1, 0), (.iadd, [], 0, 0), (.iaload, [], 0, 0), (.invokevirtual 88, [196, 2, 8], 0, 0), (.if_icmp .eq 860, [1129], 0, 0), (.iconst 0, [], 0, 0), (.ireturn, [1], 0, 0), (.aload_n 1, [1], 0, 0), (.invokevirtual 89, [70, 1, 7], 0, 0), (.aload_n 2, [2], 0, 0), (.invokevirtual 93, [199, 1, 8], 0, 0), (.if_icmp .eq 847, [1129], 0, 0), (.iconst 0, [], 0, 0), (.ireturn, [1], 0, 0), (.aload_n 1, [1], 0, 0), (.invokevirtual 94, [71, 1, 7], 0, 0), (.aload_n 2, [2], 0, 0), (.invokevirtual 97, [200, 1, 8], 0, 0), (.if_icmp .eq 834, [1129], 0, 0), (.iconst 0, [], 0, 0), (.ireturn, [1], 0, 0), (.aload_n 1, [1], 0, 0), (.aload_n 0, [0], 0, 0), (.iload_n 3, [3], 0, 0), (.iconst 1, [], 1, 0), (.iadd, [], 0, 0), (.iaload, [], 0, 0), (.invokevirtual 98, [73, 2, 7], 0, 0), (.aload_n 2, [2], 0, 0), (.aload_n 0, [0], 0, 0), (.iload_n 3, [3], 0, 0), (.iconst 1, [], 1, 0), (.iadd, [], 0, 0), (.iaload, [], 0, 0), (.invokevirtual 101, [201, 2, 8], 0, 0), (.if_icmp .eq 811, [1129], 0, 0), (.iconst 0, [], 0, 0), (.ireturn, [1], 0, 0), (.aload_n 1, [1], 0, 0), (.invokevirtual 102, [75, 1, 7], 0, 0), (.aload_n 2, [2], 0, 0), (.invokevirtual 105, [202, 1, 8], 0, 0), (.if_icmp .eq 798, [1129], 0, 0), (.iconst 0, [], 0, 0), (.ireturn, [1], 0, 0), (.aload_n 1, [1], 0, 0), (.invokevirtual 106, [76, 1, 7], 0, 0), (.aload_n 2, [2], 0, 0), (.invokevirtual 109, [204, 1, 8], 0, 0), (.if_icmp .eq 785, [1129], 0, 0), (.iconst 0, [], 0, 0), (.ireturn, [1], 0, 0), (.aload_n 1, [1], 0, 0), (.aload_n 0, [0], 0, 0), (.iload_n 3, [3], 0, 0), (.iconst 1, [], 1, 0), (.iadd, [], 0, 0), (.iaload, [], 0, 0), (.invokevirtual 110, [86, 2, 7], 0, 0), (.aload_n 2, [2], 0, 0), (.aload_n 0, [0], 0, 0), (.iload_n 3, [3], 0, 0), (.iconst 1, [], 1, 0), (.iadd, [], 0, 0), (.iaload, [], 0, 0), (.invokevirtual 113, [211, 2, 8], 0, 0), (.if_icmp .eq 762, [1129], 0, 0), (.iconst 0, [], 0, 0), (.ireturn, [1], 0, 0), (.aload_n 1, [1], 0, 0), (.aload_n 0, [0], 0, 0), (.iload_n 3, [3], 0, 0), (.iconst 1, [], 1, 0), (.iadd, [], 0, 0), (.iaload, [], 0, 0), (.invokevirtual 114, [89, 2, 7], 0, 0), (.aload_n 2, [2], 0, 0), (.aload_n 0, [0], 0, 0), (.iload_n 3, [3], 0, 0), (.iconst 1, [], 1, 0), (.iadd, [], 0, 0), (.iaload, [], 0, 0), (.invokevirtual 117, [212, 2, 8], 0, 0), (.if_icmp .eq 739, [1129], 0, 0), (.iconst 0, [], 0, 0), (.ireturn, [1], 0, 0), (.aload_n 1, [1], 0, 0), (.aload_n 0, [0], 0, 0), (.iload_n 3, [3], 0, 0), (.iconst 1, [], 1, 0), (.iadd, [], 0, 0), (.iaload, [], 0, 0), (.invokevirtual 118, [90, 2, 7], 0, 0), (.aload_n 2, [2], 0, 0), (.aload_n 0, [0], 0, 0), (.iload_n 3, [3], 0, 0), (.iconst 1, [], 1, 0), (.iadd, [], 0, 0), (.iaload, [], 0, 0), (.invokevirtual 121, [213, 2, 8], 0, 0), (.if_icmp .eq 716, [1129], 0, 0), (.iconst 0, [], 0, 0), (.ireturn, [1], 0, 0), (.aload_n 1, [1], 0, 0), (.aload_n 0, [0], 0, 0), (.iload_n 3, [3], 0, 0), (.iconst 1, [], 1, 0), (.iadd, [], 0, 0), (.iaload, [], 0, 0), (.aload_n 0, [0], 0, 0), (.iload_n 3, [3], 0, 0), (.iconst 2, [], 2, 0), (.iadd, [], 0, 0), (.iaload, [], 0, 0), (.invokevirtual 122, [93, 3, 7], 0, 0), (.aload_n 2, [2], 0, 0), (.aload_n 0, [0], 0, 0), (.iload_n 3, [3], 0, 0), (.iconst 1, [], 1, 0), (.iadd, [], 0, 0), (.iaload, [], 0, 0), (.aload_n 0, [0], 0, 0), (.iload_n 3, [3], 0, 0), (.iconst 2, [], 2, 0), (.iadd, [], 0, 0), (.iaload, [], 0, 0), (.invokevirtual 125, [214, 3, 8], 0, 0), (.if_icmp .eq 683, [1129], 0, 0), (.iconst 0, [], 0, 0), (.ireturn, [1], 0, 0), (.aload_n 1, [1], 0, 0), (.aload_n 0, [0], 0, 0), (.iload_n 3, [3], 0, 0), (.iconst 1, [], 1, 0), (.iadd, [], 0, 0), (.iaload, [], 0, 0), (.aload_n 0, [0], 0, 0), (.iload_n 3, [3], 0, 0), (.iconst 2, [], 2, 0), (.iadd, [], 0, 0), (.iaload, [], 0, 0), (.aload_n 0, [0], 0, 0), (.iload_n 3, [3], 0, 0), (.iconst 3, [], 3, 0), (.iadd, [], 0, 0), (.iaload, [], 0, 0), (.invokevirtual 126, [97, 4, 7], 0, 0), (.aload_n 2, [2], 0, 0), (.aload_n 0, [0], 0, 0), (.iload_n 3, [3], 0, 0), (.iconst 1, [], 1, 0), (.iadd, [], 0, 0), (.iaload, [], 0, 0), (.aload_n 0, [0], 0, 0), (.iload_n 3, [3], 0, 0), (.iconst 2, [], 2, 0), (.iadd, [], 0, 0), (.iaload, [], 0, 0), (.aload_n 0, [0], 0, 0), (.iload_n 3, [3], 0, 0), (.iconst 3, [], 3, 0), (.iadd, [], 0, 0), (.iaload, [], 0, 0), (.invokevirtual 129, [217, 4, 8], 0, 0), (.if_icmp .eq 640, [1129], 0, 0), (.iconst 0, [], 0, 0), (.ireturn, [1], 0, 0), (.aload_n 1, [1], 0, 0), (.aload_n 0, [0], 0, 0), (.iload_n 3, [3], 0, 0), (.iconst 1, [], 1, 0), (.iadd, [], 0, 0), (.iaload, [], 0, 0), (.aload_n 0, [0], 0, 0), (.iload_n 3, [3], 0, 0), (.iconst 2, [], 2, 0), (.iadd, [], 0, 0), (.iaload, [], 0, 0), (.invokevirtual 130, [100, 3, 7], 0, 0), (.aload_n 2, [2], 0, 0), (.aload_n 0, [0], 0, 0), (.iload_n 3, [3], 0, 0), (.iconst 1, [], 1, 0), (.iadd, [], 0, 0), (.iaload, [], 0, 0), (.aload_n 0, [0], 0, 0), (.iload_n 3, [3], 0, 0), (.iconst 2, [], 2, 0), (.iadd, [], 0, 0), (.iaload, [], 0, 0), (.invokevirtual 133, [218, 3, 8], 0, 0), (.if_icmp .eq 607, [1129], 0, 0), (.iconst 0, [], 0, 0), (.ireturn, [1], 0, 0), (.aload_n 1, [1], 0, 0), (.aload_n 0, [0], 0, 0), (.iload_n 3, [3], 0, 0), (.iconst 1, [], 1, 0), (.iadd, [], 0, 0), (.iaload, [], 0, 0), (.aload_n 0, [0], 0, 0), (.iload_n 3, [3], 0, 0), (.iconst 2, [], 2, 0), (.iadd, [], 0, 0), (.iaload, [], 0, 0), (.invokevirtual 134, [101, 3, 7], 0, 0), (.aload_n 2, [2], 0, 0), (.aload_n 0, [0], 0, 0), (.iload_n 3, [3], 0, 0), (.iconst 1, [], 1, 0), (.iadd, [], 0, 0), (.iaload, [], 0, 0), (.aload_n 0, [0], 0, 0), (.iload_n 3, [3], 0, 0), (.iconst 2, [], 2, 0), (.iadd, [], 0, 0), (.iaload, [], 0, 0), (.invokevirtual 137, [219, 3, 8], 0, 0), (.if_icmp .eq 574, [1129], 0, 0), (.iconst 0, [], 0, 0), (.ireturn, [1], 0, 0), (.aload_n 1, [1], 0, 0), (.aload_n 0, [0], 0, 0), (.iload_n 3, [3], 0, 0), (.iconst 1, [], 1, 0), (.iadd, [], 0, 0), (.iaload, [], 0, 0), (.aload_n 0, [0], 0, 0), (.iload_n 3, [3], 0, 0), (.iconst 2, [], 2, 0), (.iadd, [], 0, 0), (.iaload, [], 0, 0), (.invokevirtual 138, [102, 3, 7], 0, 0), (.aload_n 2, [2], 0, 0), (.aload_n 0, [0], 0, 0), (.iload_n 3, [3], 0, 0), (.iconst 1, [], 1, 0), (.iadd, [], 0, 0), (.iaload, [], 0, 0), (.aload_n 0, [0], 0, 0), (.iload_n 3, [3], 0, 0), (.iconst 2, [], 2, 0), (.iadd, [], 0, 0), (.iaload, [], 0, 0), (.invokevirtual 141, [220, 3, 8], 0, 0), (.if_icmp .eq 541, [1129], 0, 0), (.iconst 0, [], 0, 0), (.ireturn, [1], 0, 0), (.aload_n 1, [1], 0, 0), (.aload_n 0, [0], 0, 0), (.iload_n 3, [3], 0, 0), (.iconst 1, [], 1, 0), (.iadd, [], 0, 0), (.iaload, [], 0, 0), (.invokevirtual 142, [109, 2, 7], 0, 0), (.aload_n 2, [2], 0, 0), (.aload_n 0, [0], 0, 0), (.iload_n 3, [3], 0, 0), (.iconst 1, [], 1, 0), (.iadd, [], 0, 0), (.iaload, [], 0, 0), (.invokevirtual 145, [223, 2, 8], 0, 0), (.if_icmp .eq 518, [1129], 0, 0), (.iconst 0, [], 0, 0), (.ireturn, [1], 0, 0), (.aload_n 1, [1], 0, 0), (.aload_n 0, [0], 0, 0), (.iload_n 3, [3], 0, 0), (.iconst 1, [], 1, 0), (.iadd, [], 0, 0), (.iaload, [], 0, 0), (.aload_n 0, [0], 0, 0), (.iload_n 3, [3], 0, 0), (.iconst 2, [], 2, 0), (.iadd, [], 0, 0), (.iaload, [], 0, 0), (.invokevirtual 146, [110, 3, 7], 0, 0), (.aload_n 2, [2], 0, 0), (.aload_n 0, [0], 0, 0), (.iload_n 3, [3], 0, 0), (.iconst 1, [], 1, 0), (.iadd, [], 0, 0), (.iaload, [], 0, 0), (.aload_n 0, [0], 0, 0), (.iload_n 3, [3], 0, 0), (.iconst 2, [], 2, 0), (.iadd, [], 0, 0), (.iaload, [], 0, 0), (.invokevirtual 149, [224, 3, 8], 0, 0), (.if_icmp .eq 485, [1129], 0, 0), (.iconst 0, [], 0, 0), (.ireturn, [1], 0, 0), (.aload_n 1, [1], 0, 0), (.aload_n 0, [0], 0, 0), (.iload_n 3, [3], 0, 0), (.iconst 1, [], 1, 0), (.iadd, [], 0, 0), (.iaload, [], 0, 0), (.invokevirtual 150, [112, 2, 7], 0, 0), (.aload_n 2, [2], 0, 0), (.aload_n 0, [0], 0, 0), (.iload_n 3, [3], 0, 0), (.iconst 1, [], 1, 0), (.iadd, [], 0, 0), (.iaload, [], 0, 0), (.invokevirtual 153, [229, 2, 8], 0, 0), (.if_icmp .eq 462, [1129], 0, 0), (.iconst 0, [], 0, 0), (.ireturn, [1], 0, 0), (.aload_n 1, [1], 0, 0), (.aload_n 0, [0], 0, 0), (.iload_n 3, [3], 0, 0), (.iconst 1, [], 1, 0), (.iadd, [], 0, 0), (.iaload, [], 0, 0), (.aload_n 0, [0], 0, 0), (.iload_n 3, [3], 0, 0), (.iconst 2, [], 2, 0), (.iadd, [], 0, 0), (.iaload, [], 0, 0), (.invokevirtual 154, [113, 3, 7], 0, 0), (.aload_n 2, [2], 0, 0), (.aload_n 0, [0], 0, 0), (.iload_n 3, [3], 0, 0), (.iconst 1, [], 1, 0), (.iadd, [], 0, 0), (.iaload, [], 0, 0), (.aload_n 0, [0], 0, 0), (.iload_n 3, [3], 0, 0), (.iconst 2, [], 2, 0), (.iadd, [], 0, 0), (.iaload, [], 0, 0), (.invokevirtual 157, [230, 3, 8], 0, 0), (.if_icmp .eq 429, [1129], 0, 0), (.iconst 0, [], 0, 0), (.ireturn, [1], 0, 0), (.aload_n 1, [1], 0, 0), (.aload_n 0, [0], 0, 0), (.iload_n 3, [3], 0, 0), (.iconst 1, [], 1, 0), (.iadd, [], 0, 0), (.iaload, [], 0, 0), (.aload_n 0, [0], 0, 0), (.iload_n 3, [3], 0, 0), (.iconst 2, [], 2, 0), (.iadd, [], 0, 0), (.iaload, [], 0, 0), (.aload_n 0, [0], 0, 0), (.iload_n 3, [3], 0, 0), (.iconst 3, [], 3, 0), (.iadd, [], 0, 0), (.iaload, [], 0, 0), (.invokevirtual 158, [116, 4, 7], 0, 0), (.aload_n 2, [2], 0, 0), (.aload_n 0, [0], 0, 0), (.iload_n 3, [3], 0, 0), (.iconst 1, [], 1, 0), (.iadd, [], 0, 0), (.iaload, [], 0, 0), (.aload_n 0, [0], 0, 0), (.iload_n 3, [3], 0, 0), (.iconst 2, [], 2, 0), (.iadd, [], 0, 0), (.iaload, [], 0, 0), (.aload_n 0, [0], 0, 0), (.iload_n 3, [3], 0, 0), (.iconst 3, [], 3, 0), (.iadd, [], 0, 0), (.iaload, [], 0, 0), (.invokevirtual 161, [231, 4, 8], 0, 0), (.if_icmp .eq 386, [1129], 0, 0), (.iconst 0, [], 0, 0), (.ireturn, [1], 0, 0), (.aload_n 1, [1], 0, 0), (.aload_n 0, [0], 0, 0), (.iload_n 3, [3], 0, 0), (.iconst 1, [], 1, 0), (.iadd, [], 0, 0), (.iaload, [], 0, 0), (.invokevirtual 162, [118, 2, 7], 0, 0), (.aload_n 2, [2], 0, 0), (.aload_n 0, [0], 0, 0), (.iload_n 3, [3], 0, 0), (.iconst 1, [], 1, 0), (.iadd, [], 0, 0), (.iaload, [], 0, 0), (.invokevirtual 165, [232, 2, 8], 0, 0), (.if_icmp .eq 363, [1129], 0, 0), (.iconst 0, [], 0, 0), (.ireturn, [1], 0, 0), (.aload_n 1, [1], 0, 0), (.invokevirtual 166, [119, 1, 7], 0, 0), (.aload_n 2, [2], 0, 0), (.invokevirtual 169, [233, 1, 8], 0, 0), (.if_icmp .eq 350, [1129], 0, 0), (.iconst 0, [], 0, 0), (.ireturn, [1], 0, 0), (.aload_n 1, [1], 0, 0), (.aload_n 0, [0], 0, 0), (.iload_n 3, [3], 0, 0), (.iconst 1, [], 1, 0), (.iadd, [], 0, 0), (.iaload, [], 0, 0), (.invokevirtual 170, [121, 2, 7], 0, 0), (.aload_n 2, [2], 0, 0), (.aload_n 0, [0], 0, 0), (.iload_n 3, [3], 0, 0), (.iconst 1, [], 1, 0), (.iadd, [], 0, 0), (.iaload, [], 0, 0), (.invokevirtual 173, [235, 2, 8], 0, 0), (.if_icmp .eq 327, [1129], 0, 0), (.iconst 0, [], 0, 0), (.ireturn, [1], 0, 0), (.aload_n 1, [1], 0, 0), (.aload_n 0, [0], 0, 0), (.iload_n 3, [3], 0, 0), (.iconst 1, [], 1, 0), (.iadd, [], 0, 0), (.iaload, [], 0, 0), (.invokevirtual 174, [123, 2, 7], 0, 0), (.aload_n 2, [2], 0, 0), (.aload_n 0, [0], 0, 0), (.iload_n 3, [3], 0, 0), (.iconst 1, [], 1, 0), (.iadd, [], 0, 0), (.iaload, [], 0, 0), (.invokevirtual 177, [237, 2, 8], 0, 0), (.if_icmp .eq 304, [1129], 0, 0), (.iconst 0, [], 0, 0), (.ireturn, [1], 0, 0), (.aload_n 1, [1], 0, 0), (.aload_n 0, [0], 0, 0), (.iload_n 3, [3], 0, 0), (.iconst 1, [], 1, 0), (.iadd, [], 0, 0), (.iaload, [], 0, 0), (.aload_n 0, [0], 0, 0), (.iload_n 3, [3], 0, 0), (.iconst 2, [], 2, 0), (.iadd, [], 0, 0), (.iaload, [], 0, 0), (.aload_n 0, [0], 0, 0), (.iload_n 3, [3], 0, 0), (.iconst 3, [], 3, 0), (.iadd, [], 0, 0), (.iaload, [], 0, 0), (.invokevirtual 178, [125, 4, 7], 0, 0), (.aload_n 2, [2], 0, 0), (.aload_n 0, [0], 0, 0), (.iload_n 3, [3], 0, 0), (.iconst 1, [], 1, 0), (.iadd, [], 0, 0), (.iaload, [], 0, 0), (.aload_n 0, [0], 0, 0), (.iload_n 3, [3], 0, 0), (.iconst 2, [], 2, 0), (.iadd, [], 0, 0), (.iaload, [], 0, 0), (.aload_n 0, [0], 0, 0), (.iload_n 3, [3], 0, 0), (.iconst 3, [], 3, 0), (.iadd, [], 0, 0), (.iaload, [], 0, 0), (.invokevirtual 181, [238, 4, 8], 0, 0), (.if_icmp .eq 261, [1129], 0, 0), (.iconst 0, [], 0, 0), (.ireturn, [1], 0, 0), (.aload_n 1, [1], 0, 0), (.aload_n 0, [0], 0, 0), (.iload_n 3, [3], 0, 0), (.iconst 1, [], 1, 0), (.iadd, [], 0, 0), (.iaload, [], 0, 0), (.aload_n 0, [0], 0, 0), (.iload_n 3, [3], 0, 0), (.iconst 2, [], 2, 0), (.iadd, [], 0, 0), (.iaload, [], 0, 0), (.invokevirtual 182, [132, 3, 7], 0, 0), (.aload_n 2, [2], 0, 0), (.aload_n 0, [0], 0, 0), (.iload_n 3, [3], 0, 0), (.iconst 1, [], 1, 0), (.iadd, [], 0, 0), (.iaload, [], 0, 0), (.aload_n 0, [0], 0, 0), (.iload_n 3, [3], 0, 0), (.iconst 2, [], 2, 0), (.iadd, [], 0, 0), (.iaload, [], 0, 0), (.invokevirtual 185, [242, 3, 8], 0, 0), (.if_icmp .eq 228, [1129], 0, 0), (.iconst 0, [], 0, 0), (.ireturn, [1], 0, 0), (.aload_n 1, [1], 0, 0), (.aload_n 0, [0], 0, 0), (.iload_n 3, [3], 0, 0), (.iconst 1, [], 1, 0), (.iadd, [], 0, 0), (.iaload, [], 0, 0), (.aload_n 0, [0], 0, 0), (.iload_n 3, [3], 0, 0), (.iconst 2, [], 2, 0), (.iadd, [], 0, 0), (.iaload, [], 0, 0), (.aload_n 0, [0], 0, 0), (.iload_n 3, [3], 0, 0), (.iconst 3, [], 3, 0), (.iadd, [], 0, 0), (.iaload, [], 0, 0), (.invokevirtual 186, [133, 4, 7], 0, 0), (.aload_n 2, [2], 0, 0), (.aload_n 0, [0], 0, 0), (.iload_n 3, [3], 0, 0), (.iconst 1, [], 1, 0), (.iadd, [], 0, 0), (.iaload, [], 0, 0), (.aload_n 0, [0], 0, 0), (.iload_n 3, [3], 0, 0), (.iconst 2, [], 2, 0), (.iadd, [], 0, 0), (.iaload, [], 0, 0), (.aload_n 0, [0], 0, 0), (.iload_n 3, [3], 0, 0), (.iconst 3, [], 3, 0), (.iadd, [], 0, 0), (.iaload, [], 0, 0), (.invokevirtual 189, [243, 4, 8], 0, 0), (.if_icmp .eq 185, [1129], 0, 0), (.iconst 0, [], 0, 0), (.ireturn, [1], 0, 0), (.aload_n 1, [1], 0, 0), (.aload_n 0, [0], 0, 0), (.iload_n 3, [3], 0, 0), (.iconst 1, [], 1, 0), (.iadd, [], 0, 0), (.iaload, [], 0, 0), (.aload_n 0, [0], 0, 0), (.iload_n 3, [3], 0, 0), (.iconst 2, [], 2, 0), (.iadd, [], 0, 0), (.iaload, [], 0, 0), (.invokevirtual 190, [134, 3, 7], 0, 0), (.aload_n 2, [2], 0, 0), (.aload_n 0, [0], 0, 0), (.iload_n 3, [3], 0, 0), (.iconst 1, [], 1, 0), (.iadd, [], 0, 0), (.iaload, [], 0, 0), (.aload_n 0, [0], 0, 0), (.iload_n 3, [3], 0, 0), (.iconst 2, [], 2, 0), (.iadd, [], 0, 0), (.iaload, [], 0, 0), (.invokevirtual 193, [244, 3, 8], 0, 0), (.if_icmp .eq 152, [1129], 0, 0), (.iconst 0, [], 0, 0), (.ireturn, [1], 0, 0), (.aload_n 1, [1], 0, 0), (.aload_n 0, [0], 0, 0), (.iload_n 3, [3], 0, 0), (.iconst 1, [], 1, 0), (.iadd, [], 0, 0), (.iaload, [], 0, 0), (.aload_n 0, [0], 0, 0), (.iload_n 3, [3], 0, 0), (.iconst 2, [], 2, 0), (.iadd, [], 0, 0), (.iaload, [], 0, 0), (.invokevirtual 194, [139, 3, 7], 0, 0), (.aload_n 2, [2], 0, 0), (.aload_n 0, [0], 0, 0), (.iload_n 3, [3], 0, 0), (.iconst 1, [], 1, 0), (.iadd, [], 0, 0), (.iaload, [], 0, 0), (.aload_n 0, [0], 0, 0), (.iload_n 3, [3], 0, 0), (.iconst 2, [], 2, 0), (.iadd, [], 0, 0), (.iaload, [], 0, 0), (.invokevirtual 197, [246, 3, 8], 0, 0), (.if_icmp .eq 119, [1129], 0, 0), (.iconst 0, [], 0, 0), (.ireturn, [1], 0, 0), (.aload_n 1, [1], 0, 0), (.invokevirtual 198, [141, 1, 7], 0, 0), (.aload_n 2, [2], 0, 0), (.invokevirtual 201, [247, 1, 8], 0, 0), (.if_icmp .eq 106, [1129], 0, 0), (.iconst 0, [], 0, 0), (.ireturn, [1], 0, 0), (.aload_n 1, [1], 0, 0), (.invokevirtual 202, [142, 1, 7], 0, 0), (.aload_n 2, [2], 0, 0), (.invokevirtual 206, [248, 1, 8], 0, 0), (.lcmp, [], 0, 0), (.ifCond .eq 92, [1129], 0, 0), (.iconst 0, [], 0, 0), (.ireturn, [1], 0, 0), (.aload_n 1, [1], 0, 0), (.invokevirtual 207, [143, 1, 7], 0, 0), (.aload_n 2, [2], 0, 0), (.invokevirtual 210, [249, 1, 8], 0, 0), (.lcmp, [], 0, 0), (.ifCond .eq 78, [1129], 0, 0), (.iconst 0, [], 0, 0), (.ireturn, [1], 0, 0), (.aload_n 1, [1], 0, 0), (.aload_n 0, [0], 0, 0), (.iload_n 3, [3], 0, 0), (.iconst 1, [], 1, 0), (.iadd, [], 0, 0), (.iaload, [], 0, 0), (.invokevirtual 211, [144, 2, 7], 0, 0), (.aload_n 2, [2], 0, 0), (.aload_n 0, [0], 0, 0), (.iload_n 3, [3], 0, 0), (.iconst 1, [], 1, 0), (.iadd, [], 0, 0), (.iaload, [], 0, 0), (.invokevirtual 214, [250, 2, 8], 0, 0), (.if_icmp .eq 55, [1129], 0, 0), (.iconst 0, [], 0, 0), (.ireturn, [1], 0, 0), (.aload_n 1, [1], 0, 0), (.invokevirtual 215, [147, 1, 7], 0, 0), (.aload_n 2, [2], 0, 0), (.invokevirtual 218, [252, 1, 8], 0, 0), (.if_icmp .eq 42, [1129], 0, 0), (.iconst 0, [], 0, 0), (.ireturn, [1], 0, 0), (.aload_n 1, [1], 0, 0), (.aload_n 0, [0], 0, 0), (.iload_n 3, [3], 0, 0), (.iconst 1, [], 1, 0), (.iadd, [], 0, 0), (.iaload, [], 0, 0), (.invokevirtual 219, [148, 2, 7], 0, 0), (.aload_n 2, [2], 0, 0), (.aload_n 0, [0], 0, 0), (.iload_n 3, [3], 0, 0), (.iconst 1, [], 1, 0), (.iadd, [], 0, 0), (.iaload, [], 0, 0), (.invokevirtual 222, [253, 2, 8], 0, 0), (.if_icmp .eq 19, [1129], 0, 0), (.iconst 0, [], 0, 0), (.ireturn, [1], 0, 0), (.aload_n 1, [1], 0, 0), (.invokevirtual 223, [149, 1, 7], 0, 0), (.aload_n 2, [2], 0, 0), (.invokevirtual 226, [254, 1, 8], 0, 0), (.lcmp, [], 0, 0), (.ifCond .eq 5, [1129], 0, 0), (.iconst 0, [], 0, 0), (.ireturn, [1], 0, 0), (.iinc 3 6, [3], 6, 0), (.goto (-1660), [10], 0, 0), (.iconst 1, [], 1, 0), (.ireturn, [1], 0, 0)]
def xk_257 : List (Nat × Nat) := [(0, 0), (3, 0), (4, 0), (7, 0), (8, 10), (11, 0), (12, 193), (15, 0), (16, 0), (17, 0), (18, 0), (19, 0), (20, 0), (21, 0), (23, 0), (24, 0), (27, 0), (28, 0), (29, 0), (30, 0), (32, 0), (33, 0), (256, 0), (257, 0), (258, 0), (259, 0), (260, 0), (261, 0), (262, 0), (263, 0), (264, 0), (265, 0), (266, 0), (267, 13), (270, 0), (271, 0), (272, 0), (273, 0), (274, 0), (275, 0), (276, 0), (277, 0), (278, 0), (279, 0), (280, 0), (281, 195), (284, 0), (287, 0), (288, 0), (289, 0), (290, 0), (291, 0), (292, 0), (293, 0), (294, 0), (295, 0), (296, 0), (297, 0), (298, 0), (299, 0), (300, 0), (301, 0), (302, 0), (303, 0), (304, 0), (305, 17), (308, 0), (309, 0), (310, 0), (311, 0), (312, 0), (313, 0), (314, 0), (315, 0), (316, 0), (317, 0), (318, 0), (319, 0), (320, 0), (321, 0), (322, 0), (323, 0), (324, 204), (327, 0), (330, 0), (331, 0), (332, 0), (333, 0), (334, 0), (335, 0), (336, 0), (337, 0), (338, 0), (339, 0), (340, 0), (341, 0), (342, 0), (343, 20), (346, 0), (347, 0), (348, 0), (349, 0), (350, 0), (351, 0), (352, 0), (353, 0), (354, 0), (355, 0), (356, 0), (357, 200), (360, 0), (363, 0), (364, 0), (365, 0), (366, 0), (367, 0), (368, 0), (369, 0), (370, 0), (371, 21), (374, 0), (375, 0), (376, 0), (377, 0), (378, 0), (379, 0), (380, 206), (383, 0), (386, 0), (387, 0), (388, 0), (389, 0), (390, 0), (391, 0), (392, 0), (393, 0), (394, 0), (395, 0), (396, 0), (397, 0), (398, 0), (399, 0), (400, 0), (401, 0), (402, 0), (403, 0), (404, 0), (405, 0), (406, 0), (407, 0), (408, 0), (409, 0), (410, 0), (411, 0), (412, 0), (413, 0), (414, 22), (417, 0), (418, 0), (419, 0), (420, 0), (421, 0), (422, 0), (423, 0), (424, 0), (425, 0), (426, 0), (427, 0), (428, 0), (429, 0), (430, 0), (431, 0), (432, 0), (433, 0), (434, 0), (435, 0), (436, 0), (437, 0), (438, 0), (439, 0), (440, 0), (441, 0), (442, 0), (443, 207), (446, 0), (449, 0), (450, 0), (451, 0), (452, 0), (453, 0), (454, 0), (455, 0), (456, 0), (457, 25), (460, 0), (461, 0), (462, 0), (463, 0), (464, 0), (465, 0), (466, 208), (469, 0), (472, 0), (473, 0), (474, 0), (475, 0), (476, 0), (477, 0), (478, 0), (479, 0), (480, 0), (481, 0), (482, 0), (483, 0), (484, 0), (485, 26), (488, 0), (489, 0), (490, 0), (491, 0), (492, 0), (493, 0), (494, 0), (495, 0), (496, 0), (497, 0), (498, 0), (499, 209), (502, 0), (505, 0), (506, 0), (507, 0), (508, 0), (509, 0), (510, 0), (511, 0), (512, 0), (513, 0), (514, 0), (515, 0), (516, 0), (517, 0), (518, 0), (519, 0), (520, 0), (521, 0), (522, 0), (523, 29), (526, 0), (527, 0), (528, 0), (529, 0), (530, 0), (531, 0), (532, 0), (533, 0), (534, 0), (535, 0), (536, 0), (537, 0), (538, 0), (539, 0), (540, 0), (541, 0), (542, 211), (545, 0), (548, 0), (549, 0), (550, 0), (551, 0), (552, 0), (553, 0), (554, 0), (555, 0), (556, 31), (559, 0), (560, 0), (561, 0), (562, 0), (563, 0), (564, 0), (565, 213), (568, 0), (571, 0), (572, 0), (573, 0), (574, 0), (575, 0), (576, 0), (577, 0), (578, 0), (579, 45), (582, 0), (583, 0), (584, 0), (585, 0), (586, 0), (587, 0), (588, 219), (591, 0), (594, 0), (595, 0), (596, 0), (597, 0), (598, 0), (599, 0), (600, 0), (601, 0), (602, 0), (603, 0), (604, 0), (605, 0), (606, 0), (607, 48), (610, 0), (611, 0), (612, 0), (613, 0), (614, 0), (615, 0), (616, 0), (617, 0), (618, 0), (619, 0), (620, 0), (621, 220), (624, 0), (627, 0), (628, 0), (629, 0), (630, 0), (631, 0), (632, 0), (633, 0), (634, 0), (635, 0), (636, 0), (637, 0), (638, 0), (639, 0), (640, 54), (643, 0), (644, 0), (645, 0), (646, 0), (647, 0), (648, 0), (649, 0), (650, 0), (651, 0), (652, 0), (653, 0), (654, 225), (657, 0), (660, 0), (661, 0), (662, 0), (663, 0), (664, 0), (665, 0), (666, 0), (667, 0), (668, 0), (669, 0), (670, 0), (671, 0), (672, 0), (673, 57), (676, 0), (677, 0), (678, 0), (679, 0), (680, 0), (681, 0), (682, 0), (683, 0), (684, 0), (685, 0), (686, 0), (687, 228), (690, 0), (693, 0), (694, 0), (695, 0), (696, 0), (697, 0), (698, 0), (699, 0), (700, 0), (701, 63), (704, 0), (705, 0), (706, 0), (707, 0), (708, 0), (709, 0), (710, 231), (713, 0), (716, 0), (717, 0), (718, 0), (719, 0), (720, 0), (721, 0), (722, 0), (723, 0), (724, 64), (727, 0), (728, 0), (729, 0), (730, 0), (731, 0), (732, 0), (733, 232), (736, 0), (739, 0), (740, 0), (741, 0), (742, 0), (743, 0), (744, 0), (745, 0), (746, 0), (747, 0), (748, 0), (749, 0), (750, 0), (751, 0), (752, 65), (755, 0), (756, 0), (757, 0), (758, 0), (759, 0), (760, 0), (761, 0), (762, 0), (763, 0), (764, 0), (765, 0), (766, 233), (769, 0), (772, 0), (773, 0), (774, 0), (775, 0), (776, 0), (777, 0), (778, 0), (779, 0), (780, 67), (783, 0), (784, 0), (785, 0), (786, 0), (787, 0), (788, 0), (789, 236), (792, 0), (795, 0), (796, 0), (797, 0), (798, 0), (799, 0), (800, 0), (801, 0), (802, 0), (803, 70), (806, 0), (807, 0), (808, 0), (809, 0), (810, 0), (811, 0), (812, 238), (815, 0), (818, 0), (819, 0), (820, 0), (821, 85), (824, 0), (825, 241), (828, 0), (831, 0), (832, 0), (833, 0), (834, 86), (837, 0), (838, 242), (841, 0), (844, 0), (845, 0), (846, 0), (847, 0), (848, 0), (849, 0), (850, 0), (851, 0), (852, 88), (855, 0), (856, 0), (857, 0), (858, 0), (859, 0), (860, 0), (861, 243), (864, 0), (867, 0), (868, 0), (869, 0), (870, 90), (873, 0), (874, 244), (877, 0), (880, 0), (881, 0), (882, 0), (883, 91), (886, 0), (887, 246), (890, 0), (893, 0), (894, 0), (895, 0), (896, 0), (897, 0), (898, 0), (899, 0), (900, 0), (901, 104), (904, 0), (905, 0), (906, 0), (907, 0), (908, 0), (909, 0), (910, 253), (913, 0), (916, 0), (917, 0), (918, 0), (919, 0), (920, 0), (921, 0), (922, 0), (923, 0), (924, 108), (927, 0), (928, 0), (929, 0), (930, 0), (931, 0), (932, 0), (933, 254), (936, 0), (939, 0), (940, 0), (941, 0), (942, 0), (943, 0), (944, 0), (945, 0), (946, 0), (947, 109), (950, 0), (951, 0), (952, 0), (953, 0), (954, 0), (955, 0), (956, 255), (959, 0), (962, 0), (963, 0), (964, 0), (965, 0), (966, 0), (967, 0), (968, 0), (969, 0), (970, 0), (971, 0), (972, 0), (973, 0), (974, 0), (975, 113), (978, 0), (979, 0), (980, 0), (981, 0), (982, 0), (983, 0), (984, 0), (985, 0), (986, 0), (987, 0), (988, 0), (989, 256), (992, 0), (995, 0), (996, 0), (997, 0), (998, 0), (999, 0), (1000, 0), (1001, 0), (1002, 0), (1003, 0), (1004, 0), (1005, 0), (1006, 0), (1007, 0), (1008, 0), (1009, 0), (1010, 0), (1011, 0), (1012, 0), (1013, 117), (1016, 0), (1017, 0), (1018, 0), (1019, 0), (1020, 0), (1021, 0), (1022, 0), (1023, 0), (1024, 0), (1025, 0), (1026, 0), (1027, 0), (1028, 0), (1029, 0), (1030, 0), (1031, 0), (1032, 259), (1035, 0), (1038, 0), (1039, 0), (1040, 0), (1041, 0), (1042, 0), (1043, 0), (1044, 0), (1045, 0), (1046, 0), (1047, 0), (1048, 0), (1049, 0), (1050, 0), (1051, 120), (1054, 0), (1055, 0), (1056, 0), (1057, 0), (1058, 0), (1059, 0), (1060, 0), (1061, 0), (1062, 0), (1063, 0), (1064, 0), (1065, 261), (1068, 0), (1071, 0), (1072, 0), (1073, 0), (1074, 0), (1075, 0), (1076, 0), (1077, 0), (1078, 0), (1079, 0), (1080, 0), (1081, 0), (1082, 0), (1083, 0), (1084, 121), (1087, 0), (1088, 0), (1089, 0), (1090, 0), (1091, 0), (1092, 0), (1093, 0), (1094, 0), (1095, 0), (1096, 0), (1097, 0), (1098, 262), (1101, 0), (1104, 0), (1105, 0), (1106, 0), (1107, 0), (1108, 0), (1109, 0), (1110, 0), (1111, 0), (1112, 0), (1113, 0), (1114, 0), (1115, 0), (1116, 0), (1117, 122), (1120, 0), (1121, 0), (1122, 0), (1123, 0), (1124, 0), (1125, 0), (1126, 0), (1127, 0), (1128, 0), (1129, 0), (1130, 0), (1131, 263), (1134, 0), (1137, 0), (1138, 0), (1139, 0), (1140, 0), (1141, 0), (1142, 0), (1143, 0), (1144, 0), (1145, 135), (1148, 0), (1149, 0), (1150, 0), (1151, 0), (1152, 0), (1153, 0), (1154, 266), (1157, 0), (1160, 0), (1161, 0), (1162, 0), (1163, 0), (1164, 0), (1165, 0), (1166, 0), (1167, 0), (1168, 0), (1169, 0), (1170, 0), (1171, 0), (1172, 0), (1173, 136), (1176, 0), (1177, 0), (1178, 0), (1179, 0), (1180, 0), (1181, 0), (1182, 0), (1183, 0), (1184, 0), (1185, 0), (1186, 0), (1187, 267), (1190, 0), (1193, 0), (1194, 0), (1195, 0), (1196, 0), (1197, 0), (1198, 0), (1199, 0), (1200, 0), (1201, 140), (1204, 0), (1205, 0), (1206, 0), (1207, 0), (1208, 0), (1209, 0), (1210, 272), (1213, 0), (1216, 0), (1217, 0), (1218, 0), (1219, 0), (1220, 0), (1221, 0), (1222, 0), (1223, 0), (1224, 0), (1225, 0), (1226, 0), (1227, 0), (1228, 0), (1229, 141), (1232, 0), (1233, 0), (1234, 0), (1235, 0), (1236, 0), (1237, 0), (1238, 0), (1239, 0), (1240, 0), (1241, 0), (1242, 0), (1243, 273), (1246, 0), (1249, 0), (1250, 0), (1251, 0), (1252, 0), (1253, 0), (1254, 0), (1255, 0), (1256, 0), (1257, 0), (1258, 0), (1259, 0), (1260, 0), (1261, 0), (1262, 0), (1263, 0), (1264, 0), (1265, 0), (1266, 0), (1267, 144), (1270, 0), (1271, 0), (1272, 0), (1273, 0), (1274, 0), (1275, 0), (1276, 0), (1277, 0), (1278, 0), (1279, 0), (1280, 0), (1281, 0), (1282, 0), (1283, 0), (1284, 0), (1285, 0), (1286, 274), (1289, 0), (1292, 0), (1293, 0), (1294, 0), (1295, 0), (1296, 0), (1297, 0), (1298, 0), (1299, 0), (1300, 146), (1303, 0), (1304, 0), (1305, 0), (1306, 0), (1307, 0), (1308, 0), (1309, 275), (1312, 0), (1315, 0), (1316, 0), (1317, 0), (1318, 147), (1321, 0), (1322, 276), (1325, 0), (1328, 0), (1329, 0), (1330, 0), (1331, 0), (1332, 0), (1333, 0), (1334, 0), (1335, 0), (1336, 149), (1339, 0), (1340, 0), (1341, 0), (1342, 0), (1343, 0), (1344, 0), (1345, 278), (1348, 0), (1351, 0), (1352, 0), (1353, 0), (1354, 0), (1355, 0), (1356, 0), (1357, 0), (1358, 0), (1359, 151), (1362, 0), (1363, 0), (1364, 0), (1365, 0), (1366, 0), (1367, 0), (1368, 280), (1371, 0), (1374, 0), (1375, 0), (1376, 0), (1377, 0), (1378, 0), (1379, 0), (1380, 0), (1381, 0), (1382, 0), (1383, 0), (1384, 0), (1385, 0), (1386, 0), (1387, 0), (1388, 0), (1389, 0), (1390, 0), (1391, 0), (1392, 154), (1395, 0), (1396, 0), (1397, 0), (1398, 0), (1399, 0), (1400, 0), (1401, 0), (1402, 0), (1403, 0), (1404, 0), (1405, 0), (1406, 0), (1407, 0), (1408, 0), (1409, 0), (1410, 0), (1411, 281), (1414, 0), (1417, 0), (1418, 0), (1419, 0), (1420, 0), (1421, 0), (1422, 0), (1423, 0), (1424, 0), (1425, 0), (1426, 0), (1427, 0), (1428, 0), (1429, 0), (1430, 167), (1433, 0), (1434, 0), (1435, 0), (1436, 0), (1437, 0), (1438, 0), (1439, 0), (1440, 0), (1441, 0), (1442, 0), (1443, 0), (1444, 285), (1447, 0), (1450, 0), (1451, 0), (1452, 0), (1453, 0), (1454, 0), (1455, 0), (1456, 0), (1457, 0), (1458, 0), (1459, 0), (1460, 0), (1461, 0), (1462, 0), (1463, 0), (1464, 0), (1465, 0), (1466, 0), (1467, 0), (1468, 168), (1471, 0), (1472, 0), (1473, 0), (1474, 0), (1475, 0), (1476, 0), (1477, 0), (1478, 0), (1479, 0), (1480, 0), (1481, 0), (1482, 0), (1483, 0), (1484, 0), (1485, 0), (1486, 0), (1487, 286), (1490, 0), (1493, 0), (1494, 0), (1495, 0), (1496, 0), (1497, 0), (1498, 0), (1499, 0), (1500, 0), (1501, 0), (1502, 0), (1503, 0), (1504, 0), (1505, 0), (1506, 169), (1509, 0), (1510, 0), (1511, 0), (1512, 0), (1513, 0), (1514, 0), (1515, 0), (1516, 0), (1517, 0), (1518, 0), (1519, 0), (1520, 287), (1523, 0), (1526, 0), (1527, 0), (1528, 0), (1529, 0), (1530, 0), (1531, 0), (1532, 0), (1533, 0), (1534, 0), (1535, 0), (1536, 0), (1537, 0), (1538, 0), (1539, 178), (1542, 0), (1543, 0), (1544, 0), (1545, 0), (1546, 0), (1547, 0), (1548, 0), (1549, 0), (1550, 0), (1551, 0), (1552, 0), (1553, 289), (1556, 0), (1559, 0), (1560, 0), (1561, 0), (1562, 180), (1565, 0), (1566, 290), (1569, 0), (1572, 0), (1573, 0), (1574, 0), (1575, 181), (1578, 0), (1579, 291), (1582, 0), (1583, 0), (1586, 0), (1587, 0), (1588, 0), (1589, 182), (1592, 0), (1593, 292), (1596, 0), (1597, 0), (1600, 0), (1601, 0), (1602, 0), (1603, 0), (1604, 0), (1605, 0), (1606, 0), (1607, 0), (1608, 183), (1611, 0), (1612, 0), (1613, 0), (1614, 0), (1615, 0), (1616, 0), (1617, 293), (1620, 0), (1623, 0), (1624, 0), (1625, 0), (1626, 186), (1629, 0), (1630, 295), (1633, 0), (1636, 0), (1637, 0), (1638, 0), (1639, 0), (1640, 0), (1641, 0), (1642, 0), (1643, 0), (1644, 187), (1647, 0), (1648, 0), (1649, 0), (1650, 0), (1651, 0), (1652, 0), (1653, 296), (1656, 0), (1659, 0), (1660, 0), (1661, 0), (1662, 188), (1665, 0), (1666, 297), (1669, 0), (1670, 0), (1673, 0), (1674, 0), (1675, 0), (1678, 0), (1681, 0), (1682, 0)]
def xm_257 : xi_M := (9, "law", "([I)Z", code, some .boolean, 0, xk_257)
/-- all methods: where they stand, locals, arguments, code (the law last) -/
def xi_tab : List (xi_M × Nat × Nat × List xi_E) := [(xm_0, 2, 1, xc_0), (xm_1, 1, 1, xc_1), (xm_2, 1, 1, xc_2), (xm_3, 1, 1, xc_3), (xm_4, 2, 2, xc_4), (xm_5, 2, 2, xc_5), (xm_6, 2, 2, xc_6), (xm_7, 1, 1, xc_7), (xm_8, 4, 2, xc_8), (xm_9, 3, 3, xc_9), (xm_10, 1, 1, xc_10), (xm_11, 2, 2, xc_11), (xm_12, 3, 3, xc_12), (xm_13, 5, 4, xc_13), (xm_14, 4, 3, xc_14), (xm_15, 2, 2, xc_15), (xm_16, 4, 3, xc_16), (xm_17, 3, 2, xc_17), (xm_18, 6, 6, xc_18), (xm_19, 3, 3, xc_19), (xm_20, 7, 2, xc_20), (xm_21, 3, 3, xc_21), (xm_22, 1, 1, xc_22), (xm_23, 4, 2, xc_23), (xm_24, 6, 4, xc_24), (xm_25, 2, 2, xc_25), (xm_26, 3, 2, xc_26), (xm_27, 7, 3, xc_27), (xm_28, 2, 2, xc_28), (xm_29, 4, 3, xc_29), (xm_30, 7, 4, xc_30), (xm_31, 2, 1, xc_31), (xm_32, 5, 1, xc_32), (xm_33, 4, 4, xc_33), (xm_34, 5, 4, xc_34), (xm_35, 3, 3, xc_35), (xm_36, 2, 2, xc_36), (xm_37, 2, 2, xc_37), (xm_38, 2, 2, xc_38), (xm_39, 5, 3, xc_39), (xm_40, 4, 2, xc_40), (xm_41, 2, 1, xc_41), (xm_42, 2, 2, xc_42), (xm_43, 3, 3, xc_43), (xm_44, 3, 3, xc_44), (xm_45, 2, 2, xc_45), (xm_46, 4, 3, xc_46), (xm_47, 3, 3, xc_47), (xm_48, 2, 2, xc_48), (xm_49, 3, 3, xc_49), (xm_50, 4, 3, xc_50), (xm_51, 4, 2, xc_51), (xm_52, 4, 2, xc_52), (xm_53, 3, 2, xc_53), (xm_54, 3, 2, xc_54), (xm_55, 3, 3, xc_55), (xm_56, 3, 3, xc_56), (xm_57, 2, 2, xc_57), (xm_58, 2, 2, xc_58), (xm_59, 1, 1, xc_59), (xm_60, 2, 2, xc_60), (xm_61, 1, 1, xc_61), (xm_62, 1, 1, xc_62), (xm_63, 5, 4, xc_63), (xm_64, 1, 1, xc_64), (xm_65, 3, 2, xc_65), (xm_66, 3, 3, xc_66), (xm_67, 2, 2, xc_67), (xm_68, 2, 2, xc_68), (xm_69, 2, 2, xc_69), (xm_70, 1, 1, xc_70), (xm_71, 1, 1, xc_71), (xm_72, 1, 1, xc_72), (xm_73, 2, 2, xc_73), (xm_74, 4, 2, xc_74), (xm_75, 1, 1, xc_75), (xm_76, 2, 1, xc_76), (xm_77, 2, 2, xc_77), (xm_78, 2, 1, xc_78), (xm_79, 6, 4, xc_79), (xm_80, 3, 2, xc_80), (xm_81, 7, 3, xc_81), (xm_82, 5, 3, xc_82), (xm_83, 2, 2, xc_83), (xm_84, 4, 2, xc_84), (xm_85, 4, 3, xc_85), (xm_86, 2, 2, xc_86), (xm_87, 1, 1, xc_87), (xm_88, 2, 2, xc_88), (xm_89, 2, 2, xc_89), (xm_90, 3, 2, xc_90), (xm_91, 4, 2, xc_91), (xm_92, 3, 3, xc_92), (xm_93, 3, 3, xc_93), (xm_94, 3, 3, xc_94), (xm_95, 3, 3, xc_95), (xm_96, 2, 1, xc_96), (xm_97, 4, 4, xc_97), (xm_98, 4, 4, xc_98), (xm_99, 3, 2, xc_99), (xm_100, 3, 3, xc_100), (xm_101, 4, 3, xc_101), (xm_102, 3, 3, xc_102), (xm_103, 2, 2, xc_103), (xm_104, 7, 3, xc_104), (xm_105, 7, 3, xc_105), (xm_106, 3, 3, xc_106), (xm_107, 3, 3, xc_107), (xm_108, 2, 2, xc_108), (xm_109, 4, 2, xc_109), (xm_110, 4, 3, xc_110), (xm_111, 6, 4, xc_111), (xm_112, 5, 2, xc_112), (xm_113, 4, 3, xc_113), (xm_114, 3, 2, xc_114), (xm_115, 5, 3, xc_115), (xm_116, 4, 4, xc_116), (xm_117, 4, 4, xc_117), (xm_118, 3, 2, xc_118), (xm_119, 1, 1, xc_119), (xm_120, 3, 1, xc_120), (xm_121, 5, 2, xc_121), (xm_122, 2, 2, xc_122), (xm_123, 5, 2, xc_123), (xm_124, 4, 3, xc_124), (xm_125, 4, 4, xc_125), (xm_126, 8, 4, xc_126), (xm_127, 9, 4, xc_127), (xm_128, 5, 2, xc_128), (xm_129, 3, 3, xc_129), (xm_130, 7, 3, xc_130), (xm_131, 11, 2, xc_131), (xm_132, 3, 3, xc_132), (xm_133, 8, 4, xc_133), (xm_134, 4, 3, xc_134), (xm_135, 3, 3, xc_135), (xm_136, 7, 3, xc_136), (xm_137, 6, 4, xc_137), (xm_138, 4, 3, xc_138), (xm_139, 7, 3, xc_139), (xm_140, 4, 2, xc_140), (xm_141, 1, 1, xc_141), (xm_142, 1, 1, xc_142), (xm_143, 1, 1, xc_143), (xm_144, 2, 2, xc_144), (xm_145, 3, 1, xc_145), (xm_146, 3, 1, xc_146), (xm_147, 1, 1, xc_147), (xm_148, 2, 2, xc_148), (xm_149, 4, 1, xc_149), (xm_150, 7, 2, xc_150), (xm_151, 7, 2, xc_151), (xm_152, 7, 2, xc_152), (xm_153, 2, 1, xc_153), (xm_154, 4, 3, xc_154), (xm_155, 1, 1, xc_155), (xm_156, 3, 3, xc_156), (xm_157, 2, 2, xc_157), (xm_158, 4, 4, xc_158), (xm_159, 4, 3, xc_159), (xm_160, 2, 2, xc_160), (xm_161, 3, 3, xc_161), (xm_162, 3, 3, xc_162), (xm_163, 5, 4, xc_163), (xm_164, 3, 2, xc_164), (xm_165, 7, 6, xc_165), (xm_166, 6, 2, xc_166), (xm_167, 4, 3, xc_167), (xm_168, 1, 1, xc_168), (xm_169, 6, 4, xc_169), (xm_170, 2, 2, xc_170), (xm_171, 3, 2, xc_171), (xm_172, 2, 2, xc_172), (xm_173, 2, 2, xc_173), (xm_174, 2, 2, xc_174), (xm_175, 6, 2, xc_175), (xm_176, 1, 1, xc_176), (xm_177, 4, 2, xc_177), (xm_178, 3, 3, xc_178), (xm_179, 2, 2, xc_179), (xm_180, 3, 3, xc_180), (xm_181, 2, 2, xc_181), (xm_182, 3, 3, xc_182), (xm_183, 3, 3, xc_183), (xm_184, 2, 2, xc_184), (xm_185, 3, 3, xc_185), (xm_186, 5, 3, xc_186), (xm_187, 3, 3, xc_187), (xm_188, 5, 3, xc_188), (xm_189, 3, 2, xc_189), (xm_190, 3, 2, xc_190), (xm_191, 3, 3, xc_191), (xm_192, 5, 3, xc_192), (xm_193, 8, 4, xc_193), (xm_194, 2, 2, xc_194), (xm_195, 3, 1, xc_195), (xm_196, 2, 2, xc_196), (xm_197, 3, 3, xc_197), (xm_198, 5, 3, xc_198), (xm_199, 1, 1, xc_199), (xm_200, 1, 1, xc_200), (xm_201, 2, 2, xc_201), (xm_202, 1, 1, xc_202), (xm_203, 3, 1, xc_203), (xm_204, 1, 1, xc_204), (xm_205, 2, 1, xc_205), (xm_206, 3, 2, xc_206), (xm_207, 4, 3, xc_207), (xm_208, 4, 2, xc_208), (xm_209, 4, 1, xc_209), (xm_210, 2, 1, xc_210), (xm_211, 4, 2, xc_211), (xm_212, 4, 2, xc_212), (xm_213, 5, 2, xc_213), (xm_214, 3, 3, xc_214), (xm_215, 3, 3, xc_215), (xm_216, 3, 3, xc_216), (xm_217, 5, 4, xc_217), (xm_218, 3, 3, xc_218), (xm_219, 6, 3, xc_219), (xm_220, 4, 3, xc_220), (xm_221, 2, 2, xc_221), (xm_222, 8, 3, xc_222), (xm_223, 6, 2, xc_223), (xm_224, 4, 3, xc_224), (xm_225, 2, 2, xc_225), (xm_226, 6, 3, xc_226), (xm_227, 2, 2, xc_227), (xm_228, 7, 4, xc_228), (xm_229, 4, 2, xc_229), (xm_230, 8, 3, xc_230), (xm_231, 4, 4, xc_231), (xm_232, 3, 2, xc_232), (xm_233, 1, 1, xc_233), (xm_234, 2, 1, xc_234), (xm_235, 6, 2, xc_235), (xm_236, 2, 2, xc_236), (xm_237, 8, 2, xc_237), (xm_238, 4, 4, xc_238), (xm_239, 8, 4, xc_239), (xm_240, 5, 2, xc_240), (xm_241, 12, 4, xc_241), (xm_242, 6, 3, xc_242), (xm_243, 10, 4, xc_243), (xm_244, 3, 3, xc_244), (xm_245, 8, 4, xc_245), (xm_246, 8, 3, xc_246), (xm_247, 1, 1, xc_247), (xm_248, 1, 1, xc_248), (xm_249, 1, 1, xc_249), (xm_250, 2, 2, xc_250), (xm_251, 4, 2, xc_251), (xm_252, 1, 1, xc_252), (xm_253, 2, 2, xc_253), (xm_254, 3, 1, xc_254), (xm_255, 2, 2, xc_255), (xm_256, 3, 1, xc_256), (xm_257, 4, 1, xc_257)]
def xi_pg : xi_P := fun μ => match xi_tab[μ]? with
  | some q => some q.2
  | none => none
end
section
/-! the classes: names, fields in the order of their slots, their types and kinds, the places of their words (written by wip/whole/gen_cls.py) -/
def xi_cnL : List String := ["GuineaHours$Chances", "GuineaHours$Day", "GuineaHours$Pairs", "GuineaHours$Sights", "GuineaHours$Town", "GuineaHours$Values", "GuineaHours$Walk", "GuineaHours", "GuineaHoursModel"]
def xi_cn (ci : Nat) : String := xi_cnL.getD ci ""
def xi_flL : List (List (String × String × String × Bool)) := [[("GuineaHours$Chances", "ground", "LGuineaHours$Town;", false), ("GuineaHours$Chances", "table", "[J", true)], [("GuineaHours$Day", "times", "I", false), ("GuineaHours$Day", "back", "I", false), ("GuineaHours$Day", "hour", "I", false), ("GuineaHours$Day", "hands", "[I", true)], [("GuineaHours$Pairs", "others", "[I", true), ("GuineaHours$Pairs", "before", "[I", true)], [("GuineaHours$Sights", "count", "I", false), ("GuineaHours$Sights", "known", "Z", false), ("GuineaHours$Sights", "hours", "[I", true), ("GuineaHours$Sights", "ones", "[I", true), ("GuineaHours$Sights", "truths", "[I", true)], [("GuineaHours$Town", "hours", "I", false), ("GuineaHours$Town", "people", "I", false), ("GuineaHours$Town", "kinds", "[I", true), ("GuineaHours$Town", "fees", "[I", true), ("GuineaHours$Town", "spots", "[I", true), ("GuineaHours$Town", "takers", "[I", true)], [("GuineaHours$Values", "ground", "LGuineaHours$Town;", false), ("GuineaHours$Values", "table", "[I", true)], [("GuineaHours$Walk", "firstOnly", "Z", false), ("GuineaHours$Walk", "total", "I", false), ("GuineaHours$Walk", "common", "I", false), ("GuineaHours$Walk", "ground", "LGuineaHours$Town;", false), ("GuineaHours$Walk", "notBack", "Z", false), ("GuineaHours$Walk", "full", "I", false), ("GuineaHours$Walk", "limits", "[I", true), ("GuineaHours$Walk", "had", "[I", true), ("GuineaHours$Walk", "hands", "[I", true), ("GuineaHours$Walk", "within", "[I", true), ("GuineaHours$Walk", "tally", "[I", true)], [("GuineaHours", "rows", "[[I", true), ("GuineaHours", "rowSizes", "[I", true), ("GuineaHours", "texts", "[[B", true), ("GuineaHours", "textSizes", "[I", true), ("GuineaHours", "town", "LGuineaHours$Town;", false), ("GuineaHours", "draft", "LGuineaHours$Town;", false), ("GuineaHours", "today", "LGuineaHours$Day;", true), ("GuineaHours", "keptDays", "[LGuineaHours$Day;", true), ("GuineaHours", "sights", "LGuineaHours$Sights;", true), ("GuineaHours", "walk", "LGuineaHours$Walk;", true), ("GuineaHours", "past", "LGuineaHours$Walk;", true), ("GuineaHours", "values", "LGuineaHours$Values;", true), ("GuineaHours", "chances", "LGuineaHours$Chances;", true), ("GuineaHours", "pairs", "LGuineaHours$Pairs;", true), ("GuineaHours", "askedLast", "I", false), ("GuineaHours", "upperLast", "J", false), ("GuineaHours", "lowerLast", "J", false), ("GuineaHours", "findingLast", "I", false), ("GuineaHours", "findingCounts", "[I", true)], [("GuineaHoursModel", "finding", "I", false), ("GuineaHoursModel", "findings", "[I", true), ("GuineaHoursModel", "asked", "I", false), ("GuineaHoursModel", "upper", "J", false), ("GuineaHoursModel", "lower", "J", false), ("GuineaHoursModel", "sizes", "[I", true), ("GuineaHoursModel", "rows", "[I", true), ("GuineaHoursModel", "moving", "[I", true), ("GuineaHoursModel", "lengths", "[I", true), ("GuineaHoursModel", "texts", "[I", true), ("GuineaHoursModel", "many", "I", false), ("GuineaHoursModel", "hours", "I", false), ("GuineaHoursModel", "people", "[I", true), ("GuineaHoursModel", "readAt", "I", false), ("GuineaHoursModel", "readMany", "I", false), ("GuineaHoursModel", "readHours", "I", false), ("GuineaHoursModel", "times", "I", false), ("GuineaHoursModel", "back", "I", false), ("GuineaHoursModel", "hour", "I", false), ("GuineaHoursModel", "hands", "[I", true), ("GuineaHoursModel", "aside", "[I", true), ("GuineaHoursModel", "rowMany", "I", false), ("GuineaHoursModel", "endSet", "I", false), ("GuineaHoursModel", "goal", "I", false), ("GuineaHoursModel", "eachSet", "I", false), ("GuineaHoursModel", "firstRow", "[I", true), ("GuineaHoursModel", "hadIt", "[I", true), ("GuineaHoursModel", "beganSet", "I", false), ("GuineaHoursModel", "kept", "[I", true), ("GuineaHoursModel", "worthTo", "I", false), ("GuineaHoursModel", "keepSet", "I", false), ("GuineaHoursModel", "sights", "[I", true), ("GuineaHoursModel", "sightMany", "I", false), ("GuineaHoursModel", "h0", "J", false)]]
def xi_T (ci : Nat) : u_T := fun k => (xi_flL.getD ci []).getD k ("", "", "", false)
def xi_kdL : List (List Nat) := [[2, 2], [0, 0, 0, 2], [2, 2], [0, 3, 2, 2, 2], [0, 0, 2, 2, 2, 2], [2, 2], [3, 0, 0, 2, 3, 0, 2, 2, 2, 2, 2], [2, 2, 2, 2, 2, 2, 2, 2, 2, 2, 2, 2, 2, 2, 0, 1, 1, 0, 2], [0, 2, 0, 1, 1, 2, 2, 2, 2, 2, 0, 0, 2, 0, 0, 0, 0, 0, 0, 2, 2, 0, 0, 0, 0, 2, 2, 0, 2, 0, 0, 2, 0, 1]]
def xi_kd (ci j : Nat) : Nat := (xi_kdL.getD ci []).getD j 0
def xi_tyL : List (List FieldType) := [[(.object "GuineaHours$Town"), (.array .long)], [.int, .int, .int, (.array .int)], [(.array .int), (.array .int)], [.int, .boolean, (.array .int), (.array .int), (.array .int)], [.int, .int, (.array .int), (.array .int), (.array .int), (.array .int)], [(.object "GuineaHours$Town"), (.array .int)], [.boolean, .int, .int, (.object "GuineaHours$Town"), .boolean, .int, (.array .int), (.array .int), (.array .int), (.array .int), (.array .int)], [(.array (.array .int)), (.array .int), (.array (.array .byte)), (.array .int), (.object "GuineaHours$Town"), (.object "GuineaHours$Town"), (.object "GuineaHours$Day"), (.array (.object "GuineaHours$Day")), (.object "GuineaHours$Sights"), (.object "GuineaHours$Walk"), (.object "GuineaHours$Walk"), (.object "GuineaHours$Values"), (.object "GuineaHours$Chances"), (.object "GuineaHours$Pairs"), .int, .long, .long, .int, (.array .int)], [.int, (.array .int), .int, .long, .long, (.array .int), (.array .int), (.array .int), (.array .int), (.array .int), .int, .int, (.array .int), .int, .int, .int, .int, .int, .int, (.array .int), (.array .int), .int, .int, .int, .int, (.array .int), (.array .int), .int, (.array .int), .int, .int, (.array .int), .int, .long]]
def xi_ft (ci j : Nat) : FieldType := (xi_tyL.getD ci []).getD j .int
def xi_lpL : List (List Nat) := [[258, 260], [157, 159, 161, 163], [272, 274], [183, 185, 187, 189, 191], [126, 128, 130, 132, 134, 136], [245, 247], [214, 216, 218, 220, 222, 224, 226, 228, 230, 232, 234], [299, 301, 303, 305, 307, 309, 311, 313, 315, 317, 319, 321, 323, 325, 327, 329, 331, 333, 335], [991, 993, 995, 997, 999, 1001, 1003, 1005, 1007, 1009, 1011, 1013, 1015, 1017, 1019, 1021, 1023, 1025, 1027, 1029, 1031, 1033, 1035, 1037, 1039, 1041, 1043, 1045, 1047, 1049, 1051, 1053, 1055, 1057]]
def xi_lp (ci j : Nat) : Nat := (xi_lpL.getD ci []).getD j 0
/-- the places of instantiable, initialized -/
def xi_ipL : List (Nat × Nat) := [(251, 86), (142, 82), (265, 87), (168, 83), (106, 81), (238, 85), (195, 84), (94, 80), (952, 89)]
abbrev xi_cl : List vw_C := [(xi_cn 0, xi_T 0, xi_nf 0), (xi_cn 1, xi_T 1, xi_nf 1), (xi_cn 2, xi_T 2, xi_nf 2), (xi_cn 3, xi_T 3, xi_nf 3), (xi_cn 4, xi_T 4, xi_nf 4), (xi_cn 5, xi_T 5, xi_nf 5), (xi_cn 6, xi_T 6, xi_nf 6), (xi_cn 7, xi_T 7, xi_nf 7), (xi_cn 8, xi_T 8, xi_nf 8)]
/-- the words that the bodies use: those that stay by themselves, and the nest's and the array classes' -/
def xi_nst : Cond → Bool
  | .methodLinkNest .. => true
  | .fieldLinkNest .. => true
  | .arrayOver _ => true
  | _ => false
def xi_tb : List Cond := lw_tbl.filter (fun w => goodWord w || xi_nst w)
theorem xi_tb_of {w : Cond} (h : w ∈ lw_tbl) (h2 : (goodWord w || xi_nst w) = true) : w ∈ xi_tb := List.mem_filter.mpr ⟨h, h2⟩
theorem xi_tb_lw {w : Cond} (h : w ∈ xi_tb) : w ∈ lw_tbl := (List.mem_filter.mp h).1
theorem xi_cl_at {ci : Nat} (h : ci < 9) : xi_cl[ci]? = some (xi_cn ci, xi_T ci, xi_nf ci) := by
  rcases (show ci = 0 ∨ ci = 1 ∨ ci = 2 ∨ ci = 3 ∨ ci = 4 ∨ ci = 5 ∨ ci = 6 ∨ ci = 7 ∨ ci = 8 by omega) with rfl | rfl | rfl | rfl | rfl | rfl | rfl | rfl | rfl <;> rfl
theorem xi_cl_lt {ci : Nat} {q : vw_C} (h : xi_cl[ci]? = some q) : ci < 9 := by
  have := (List.getElem?_eq_some_iff.mp h).1
  simpa using this
theorem xi_lays_ok : ∀ ci, ci < 9 → ∀ j, j < xi_nf ci → lw_tbl[xi_lp ci j]? = some (u_lay (xi_cn ci) (xi_T ci) j) := by decide +kernel
theorem xi_in {ci : Nat} (h : ci < 9) : ∀ w ∈ u_ws (xi_cn ci) (xi_T ci) (xi_nf ci), w ∈ xi_tb := by
  intro w hw
  unfold u_ws at hw
  obtain ⟨j, hj, rfl⟩ := List.mem_map.mp hw
  exact xi_tb_of (List.mem_of_getElem? (xi_lays_ok ci h j (List.mem_range.mp hj))) (by unfold u_lay; split <;> rfl)
theorem xi_nm : ∀ ci, ci < 9 → ∀ a, a < xi_nf ci → ∀ b, b < xi_nf ci → a ≠ b → (xi_T ci a).2.1 ≠ (xi_T ci b).2.1 := by decide +kernel
theorem xi_ty : ∀ ci, ci < 9 → ∀ k, k < xi_nf ci → parseFieldDescriptor (xi_T ci k).2.2.1 = some (xi_ft ci k) := by decide +kernel
theorem xi_ip_ok : ∀ ci, ci < 9 → lw_tbl[(xi_ipL.getD ci (0, 0)).1]? = some (Cond.instantiable (xi_cn ci) (xi_nf ci)) ∧ lw_tbl[(xi_ipL.getD ci (0, 0)).2]? = some (Cond.initialized (xi_cn ci)) := by decide +kernel
/-- the kinds are right -/
theorem xi_kd_ok : ∀ ci, ci < 9 → ∀ j, j < xi_nf ci → (xi_kd ci j = 0 ∧ xi_ft ci j = .int) ∨ (xi_kd ci j = 1 ∧ xi_ft ci j = .long) ∨ (xi_kd ci j = 3 ∧ xi_ft ci j = .boolean) ∨ (xi_kd ci j = 2 ∧ (xi_ft ci j).isReference = true) := by decide +kernel
theorem xi_decl : ∀ ci, ci < 9 → ∀ j, j < xi_nf ci → (xi_T ci j).1 = xi_cn ci := by decide +kernel
end
section
/-! the words of lw_tbl that the code needs, by their places: FL fields, ML methods, MN nest constructors, CK CL constants, KL classes -/
def xi_cnA : List String := ["GuineaHours$Chances", "GuineaHours$Day", "GuineaHours$Pairs", "GuineaHours$Sights", "GuineaHours$Town", "GuineaHours$Values", "GuineaHours$Walk", "GuineaHours", "GuineaHoursModel", "GuineaHoursLaw", "java/lang/Integer", "java/lang/Math", "java/util/Arrays", "java/lang/System"]
def xi_cA (c : Nat) : String := xi_cnA.getD c ""
def xi_yM (m : xi_M) : MethodName := ⟨xi_cA m.1, m.2.1, m.2.2.1⟩
def xi_y (μ : Nat) : MethodName := if μ = 258 then objectInit else if μ = 259 then arraycopyName else match xi_tab[μ]? with
  | some q => xi_yM q.1
  | none => objectInit
def xi_FL : List (Nat × Nat × Nat × Nat) := [(4, 9, 4, 0), (5, 19, 4, 0), (0, 19, 4, 0), (6, 88, 4, 0), (7, 199, 4, 0), (4, 15, 4, 1), (5, 25, 4, 1), (0, 25, 4, 1), (2, 30, 4, 1), (6, 98, 4, 1), (7, 155, 4, 1), (4, 18, 4, 2), (4, 22, 4, 3), (4, 25, 4, 4), (4, 28, 4, 5), (1, 9, 1, 0), (7, 177, 1, 0), (1, 15, 1, 1), (7, 193, 1, 1), (1, 18, 1, 2), (6, 64, 1, 2), (7, 222, 1, 2), (1, 21, 1, 3), (6, 69, 1, 3), (7, 361, 1, 3), (3, 9, 3, 0), (7, 296, 3, 0), (3, 15, 3, 1), (7, 189, 3, 1), (3, 19, 3, 2), (7, 364, 3, 2), (3, 23, 3, 3), (7, 366, 3, 3), (3, 26, 3, 4), (7, 369, 3, 4), (6, 9, 6, 0), (7, 399, 6, 0), (6, 15, 6, 1), (7, 309, 6, 1), (6, 19, 6, 2), (7, 265, 6, 2), (6, 44, 6, 3), (6, 22, 6, 4), (6, 25, 6, 5), (6, 28, 6, 6), (6, 32, 6, 7), (6, 35, 6, 8), (6, 38, 6, 9), (6, 41, 6, 10), (5, 15, 5, 0), (5, 9, 5, 1), (0, 15, 0, 0), (0, 9, 0, 1), (2, 9, 2, 0), (2, 15, 2, 1), (7, 11, 7, 0), (7, 14, 7, 1), (7, 20, 7, 2), (7, 23, 7, 3), (7, 29, 7, 4), (7, 33, 7, 5), (7, 39, 7, 6), (7, 43, 7, 7), (7, 50, 7, 8), (7, 59, 7, 9), (7, 63, 7, 10), (7, 69, 7, 11), (7, 76, 7, 12), (7, 83, 7, 13), (7, 87, 7, 14), (7, 91, 7, 15), (7, 95, 7, 16), (7, 98, 7, 17), (7, 101, 7, 18), (8, 60, 8, 0), (8, 7, 8, 1), (8, 63, 8, 2), (8, 66, 8, 3), (8, 13, 8, 4), (8, 17, 8, 5), (8, 20, 8, 6), (8, 23, 8, 7), (8, 26, 8, 8), (8, 29, 8, 9), (8, 128, 8, 10), (8, 131, 8, 11), (8, 32, 8, 12), (8, 104, 8, 13), (8, 116, 8, 14), (8, 110, 8, 15), (8, 35, 8, 16), (8, 162, 8, 17), (8, 57, 8, 18), (8, 39, 8, 19), (8, 42, 8, 20), (8, 200, 8, 21), (8, 194, 8, 22), (8, 197, 8, 23), (8, 203, 8, 24), (8, 45, 8, 25), (8, 48, 8, 26), (8, 206, 8, 27), (8, 51, 8, 28), (8, 229, 8, 29), (8, 245, 8, 30), (8, 54, 8, 31), (8, 134, 8, 32), (8, 289, 8, 33)]
def xi_ML : List (Nat × Nat × Nat) := [(9, 9, 0), (7, 1, 258), (4, 3, 258), (1, 3, 258), (3, 3, 258), (7, 56, 4), (6, 3, 258), (7, 68, 5), (5, 3, 258), (7, 75, 6), (0, 3, 258), (2, 3, 258), (7, 104, 8), (9, 13, 9), (7, 110, 10), (7, 114, 11), (7, 118, 12), (9, 18, 13), (7, 122, 14), (7, 126, 15), (9, 23, 16), (9, 27, 17), (9, 32, 18), (7, 129, 19), (7, 133, 259), (9, 37, 20), (9, 41, 21), (7, 139, 22), (7, 142, 23), (9, 45, 24), (7, 145, 25), (9, 49, 26), (7, 148, 27), (4, 64, 28), (4, 69, 29), (4, 73, 30), (4, 79, 31), (4, 76, 32), (4, 86, 33), (4, 50, 34), (4, 46, 35), (4, 35, 36), (4, 31, 37), (4, 89, 38), (4, 54, 39), (9, 53, 40), (7, 152, 41), (7, 303, 42), (9, 57, 43), (7, 158, 37), (7, 161, 44), (7, 378, 36), (7, 381, 45), (7, 180, 46), (9, 61, 47), (7, 164, 48), (7, 167, 35), (9, 65, 49), (7, 170, 50), (7, 174, 51), (7, 183, 38), (7, 186, 52), (4, 42, 50), (9, 69, 53), (9, 73, 54), (9, 77, 55), (7, 196, 56), (9, 81, 57), (7, 202, 58), (7, 206, 59), (9, 85, 60), (7, 211, 61), (7, 215, 62), (7, 231, 63), (6, 48, 64), (6, 54, 46), (6, 58, 8), (7, 235, 65), (6, 70, 66), (6, 74, 37), (7, 384, 67), (6, 78, 48), (6, 81, 56), (6, 84, 68), (7, 219, 69), (9, 89, 70), (9, 94, 71), (7, 225, 72), (9, 98, 73), (7, 228, 74), (9, 102, 75), (9, 106, 76), (7, 239, 77), (6, 95, 78), (6, 91, 79), (4, 61, 56), (6, 101, 80), (6, 108, 81), (6, 112, 67), (6, 115, 82), (6, 118, 59), (6, 104, 83), (7, 242, 84), (6, 123, 85), (9, 110, 86), (7, 245, 87), (7, 248, 88), (1, 25, 259), (9, 114, 89), (9, 118, 90), (7, 251, 91), (7, 387, 66), (7, 390, 92), (9, 122, 93), (7, 255, 94), (7, 393, 95), (7, 396, 96), (9, 126, 97), (7, 258, 98), (7, 261, 99), (9, 130, 100), (9, 134, 101), (9, 138, 102), (7, 268, 103), (7, 271, 104), (5, 28, 105), (5, 54, 56), (5, 32, 106), (5, 42, 107), (5, 35, 103), (5, 39, 37), (5, 45, 45), (5, 49, 108), (7, 275, 105), (7, 278, 107), (9, 142, 109), (9, 146, 110), (7, 281, 64), (7, 284, 111), (4, 57, 79), (9, 150, 112), (9, 154, 113), (7, 288, 114), (7, 292, 115), (9, 158, 116), (7, 299, 117), (9, 162, 118), (9, 166, 119), (7, 306, 120), (9, 170, 121), (7, 312, 122), (9, 174, 123), (7, 315, 124), (6, 126, 108), (9, 178, 125), (7, 318, 126), (0, 28, 127), (0, 32, 56), (0, 36, 59), (0, 42, 128), (0, 46, 129), (0, 50, 103), (0, 54, 37), (7, 320, 129), (7, 323, 128), (7, 327, 130), (7, 402, 131), (9, 182, 132), (9, 186, 133), (9, 190, 134), (7, 331, 135), (2, 18, 8), (7, 333, 136), (2, 24, 259), (2, 36, 56), (2, 40, 137), (2, 48, 34), (2, 44, 138), (9, 194, 139), (7, 342, 140), (9, 198, 141), (9, 202, 142), (9, 207, 143), (9, 211, 144), (7, 345, 145), (7, 348, 146), (9, 215, 147), (9, 219, 148), (9, 223, 149), (7, 355, 144), (7, 357, 150), (7, 372, 151), (7, 375, 152), (9, 12, 153), (8, 1, 258), (9, 17, 154), (8, 73, 155), (8, 69, 156), (8, 77, 157), (8, 84, 158), (9, 26, 159), (8, 88, 160), (8, 91, 161), (8, 95, 162), (9, 22, 163), (8, 98, 159), (9, 31, 164), (9, 36, 165), (9, 40, 166), (9, 44, 167), (8, 81, 168), (9, 48, 169), (8, 101, 170), (9, 52, 171), (8, 125, 172), (8, 107, 173), (8, 119, 174), (8, 122, 175), (8, 113, 176), (9, 56, 177), (9, 60, 178), (8, 143, 179), (8, 146, 180), (8, 140, 181), (8, 137, 182), (9, 64, 183), (8, 149, 184), (8, 152, 185), (9, 68, 186), (8, 155, 187), (8, 159, 188), (9, 72, 189), (9, 76, 190), (9, 80, 191), (8, 168, 192), (8, 165, 193), (9, 84, 194), (8, 174, 195), (9, 88, 196), (8, 177, 197), (8, 171, 198), (9, 93, 199), (9, 97, 200), (9, 101, 201), (9, 105, 202), (8, 180, 203), (9, 109, 204), (8, 209, 205), (8, 212, 206), (8, 190, 207), (8, 184, 208), (8, 187, 209), (8, 216, 210), (9, 113, 211), (9, 117, 212), (9, 121, 213), (9, 125, 214), (8, 219, 215), (8, 222, 216), (9, 129, 217), (8, 226, 154), (9, 133, 218), (9, 137, 219), (9, 141, 220), (8, 235, 221), (8, 232, 222), (9, 145, 223), (9, 149, 224), (8, 248, 225), (8, 251, 226), (8, 238, 227), (8, 241, 228), (9, 153, 229), (9, 157, 230), (9, 161, 231), (9, 165, 232), (9, 169, 233), (8, 254, 234), (9, 173, 235), (8, 257, 236), (9, 177, 237), (9, 181, 238), (8, 260, 239), (8, 266, 240), (8, 270, 241), (9, 185, 242), (9, 189, 243), (9, 193, 244), (8, 276, 245), (9, 197, 246), (9, 201, 247), (9, 206, 248), (9, 210, 249), (9, 214, 250), (8, 284, 251), (9, 218, 252), (9, 222, 253), (9, 226, 254), (8, 292, 255), (8, 297, 256)]
def xi_MN : List (Nat × Nat × Nat) := [(7, 28, 1), (7, 38, 2), (7, 49, 3), (7, 82, 7)]
def xi_CK : List (Nat × Nat × Int32) := [(10, 265, 1431655765), (10, 266, 858993459), (10, 267, 252645135), (7, 337, 2147483647), (8, 279, 2147483646)]
def xi_CL : List (Nat × Nat × Int64) := [(0, 57, 60), (7, 338, 48271), (7, 340, 2147483647), (7, 351, 17), (7, 353, 31), (8, 264, 60), (8, 274, (-1)), (8, 280, 48271), (8, 282, 2147483647), (8, 295, 17), (8, 287, 31)]
def xi_KL : List (Nat × Nat × Nat) := [(9, 7, 7), (7, 9, 14), (7, 18, 13), (7, 26, 4), (7, 36, 1), (7, 47, 3), (7, 54, 6), (7, 66, 5), (7, 73, 0), (7, 80, 2), (9, 10, 8)]
def xi_kn (k : Nat) : String := if k = 14 then "[[I" else if k = 13 then "[[B" else xi_cn k
def xi_FN : List (Nat × Nat × Nat) := [(4, 82, 0), (4, 39, 1)]
/-- words by their places, one behind another: how many stand between -/
def xi_pk : List Nat → List Cond → List Cond → Bool
  | [], [], _ => true
  | d :: ds, w :: ws, tb => (match tb.drop d with
    | x :: r => decide (x = w) && xi_pk ds ws r
    | [] => false)
  | _, _, _ => false
theorem xi_pk_mem : ∀ (ds : List Nat) (ws tb : List Cond), xi_pk ds ws tb = true → ∀ w ∈ ws, w ∈ tb
  | [], [], _, _, w, hw => absurd hw List.not_mem_nil
  | [], _ :: _, _, h, _, _ => by simp [xi_pk] at h
  | _ :: _, [], _, h, _, _ => by simp [xi_pk] at h
  | d :: ds, w0 :: ws, tb, h, w, hw => by
    unfold xi_pk at h
    split at h
    · next x r hx =>
      simp only [Bool.and_eq_true, decide_eq_true_eq] at h
      have hsub : ∀ z ∈ x :: r, z ∈ tb := fun z hz => List.mem_of_mem_drop (i := d) (by rw [hx]; exact hz)
      rcases List.mem_cons.mp hw with rfl | hw
      · rw [← h.1]
        exact hsub x List.mem_cons_self
      · exact hsub w (List.mem_cons_of_mem _ (xi_pk_mem ds ws r h.2 w hw))
    · cases h
set_option maxRecDepth 100000 in
theorem xi_w_FL : xi_pk [32, 0, 0, 0, 0, 0, 0, 0, 0, 0, 0, 0, 0, 0, 0, 21, 0, 0, 0, 0, 0, 0, 0, 0, 0, 16, 0, 0, 0, 0, 0, 0, 0, 0, 0, 17, 0, 0, 0, 0, 0, 0, 0, 0, 0, 0, 0, 0, 0, 29, 0, 11, 0, 12, 0, 8, 0, 0, 0, 0, 0, 0, 0, 0, 0, 0, 0, 0, 0, 0, 0, 0, 0, 0, 658, 0, 0, 0, 0, 0, 0, 0, 0, 0, 0, 0, 0, 0, 0, 0, 0, 0, 0, 0, 0, 0, 0, 0, 0, 0, 0, 0, 0, 0, 0, 0, 0, 0] (xi_FL.map (fun q => Cond.fieldLink (xi_cA q.1) q.2.1 (xi_T q.2.2.1 q.2.2.2).1 (xi_T q.2.2.1 q.2.2.2).2.1 (xi_T q.2.2.1 q.2.2.2).2.2.1)) tables_1 = true := by decide +kernel
set_option maxRecDepth 100000 in
theorem xi_w_ML : xi_pk [16, 2, 11, 35, 25, 23, 2, 39, 2, 9, 2, 13, 7, 60, 3, 2, 3, 3, 3, 3, 3, 3, 3, 3, 2, 2, 3, 3, 2, 2, 3, 3, 3, 3, 2, 2, 3, 4, 3, 3, 3, 3, 3, 3, 3, 3, 3, 3, 3, 3, 0, 3, 0, 3, 5, 3, 3, 0, 3, 3, 3, 0, 3, 0, 3, 3, 3, 3, 3, 3, 5, 3, 3, 3, 3, 3, 0, 0, 3, 3, 0, 3, 0, 0, 3, 3, 3, 3, 3, 3, 3, 3, 3, 3, 3, 3, 0, 3, 2, 0, 3, 0, 3, 3, 3, 3, 2, 3, 0, 3, 3, 3, 0, 3, 3, 3, 3, 3, 3, 3, 3, 3, 3, 3, 3, 3, 3, 0, 3, 3, 0, 0, 0, 2, 0, 0, 3, 3, 0, 3, 0, 3, 3, 3, 3, 3, 3, 3, 3, 3, 3, 3, 3, 3, 0, 3, 3, 3, 0, 0, 4, 3, 0, 0, 0, 0, 3, 2, 3, 3, 3, 3, 0, 3, 0, 0, 3, 0, 3, 6, 2, 3, 3, 3, 3, 3, 2, 3, 3, 5, 0, 3, 3, 5, 2, 103, 3, 2, 2, 3, 3, 3, 3, 3, 3, 3, 0, 3, 3, 3, 3, 2, 3, 3, 3, 3, 3, 3, 3, 2, 3, 3, 3, 3, 3, 3, 3, 3, 3, 3, 3, 3, 3, 3, 3, 3, 3, 3, 2, 3, 3, 3, 3, 3, 3, 3, 3, 3, 3, 3, 3, 3, 3, 3, 3, 3, 3, 3, 3, 3, 3, 0, 3, 3, 3, 3, 3, 3, 3, 3, 3, 2, 3, 3, 3, 3, 3, 3, 3, 3, 3, 3, 3, 3, 4, 3, 3, 4, 3, 3, 6, 3, 3, 3, 3, 3, 3, 3, 4, 4] (xi_ML.map (fun q => Cond.methodLink (xi_cA q.1) q.2.1 (xi_y q.2.2))) tables_1 = true := by decide +kernel
set_option maxRecDepth 100000 in
theorem xi_w_MN : xi_pk [28, 35, 25, 96] (xi_MN.map (fun q => Cond.methodLinkNest (xi_cA q.1) q.2.1 (xi_y q.2.2) "GuineaHours")) tables_1 = true := by decide +kernel
set_option maxRecDepth 100000 in
theorem xi_w_CK : xi_pk [467, 0, 0, 346, 534] (xi_CK.map (fun q => Cond.constant (xi_cA q.1) q.2.1 q.2.2)) tables_1 = true := by decide +kernel
set_option maxRecDepth 100000 in
theorem xi_w_CL : xi_pk [764, 52, 0, 38, 0, 466, 12, 13, 0, 32, 4] (xi_CL.map (fun q => Cond.constantLong (xi_cA q.1) q.2.1 q.2.2)) tables_1 = true := by decide +kernel
set_option maxRecDepth 100000 in
theorem xi_w_KL : xi_pk [14, 7, 1, 1, 35, 25, 26, 42, 12, 13, 686] (xi_KL.map (fun q => Cond.classLink (xi_cA q.1) q.2.1 (xi_kn q.2.2))) tables_1 = true := by decide +kernel
set_option maxRecDepth 100000 in
theorem xi_w_FN : xi_pk [347, 63] (xi_FN.map (fun q => Cond.fieldLinkNest (xi_cA q.1) q.2.1 "GuineaHours" (if q.2.2 = 0 then "KIND_LETTERS" else "KIND_EXTRA") (if q.2.2 = 0 then "[B" else "[I") "GuineaHours")) tables_1 = true := by decide +kernel
set_option maxRecDepth 100000 in
theorem xi_w_in : xi_pk [0, 0, 0, 0, 0, 0, 0, 0, 0, 0, 0, 0, 0, 0] ([9, 7, 4, 1, 3, 6, 5, 0, 2, 12, 8, 13, 11, 10].map (fun c => Cond.initialized (xi_cA c))) tables_1 = true := by decide +kernel
def xi_inL : List Nat := [9, 7, 4, 1, 3, 6, 5, 0, 2, 12, 8, 13, 11, 10]
def xi_im : List Nat := [0, 1, 2, 3, 4, 5, 6, 7, 9, 11, 12, 13, 14, 15, 16, 17, 18, 20, 21, 24, 25, 26, 27, 30, 32, 33, 34, 35, 36, 37, 38, 39, 40, 41, 42, 43, 44, 45, 46, 47, 48, 49, 50, 51, 52, 53, 54, 55, 56, 57, 58, 60, 61, 62, 63, 64, 65, 66, 67, 68, 69, 70, 71, 72, 73, 74, 75, 76, 77, 78, 79, 80, 82, 83, 84, 85, 86, 88, 89, 90, 91, 92, 93, 94, 95, 96, 97, 98, 99, 100, 101, 102, 103, 104, 105, 106, 107, 109, 110, 111, 112, 113, 114, 115, 116, 117, 118, 119, 120, 121, 122, 123, 124, 125, 126, 127, 128, 129, 130, 132, 133, 134, 135, 136, 137, 138, 139, 141, 142, 143, 144, 145, 147, 148, 149, 150, 151, 152, 153, 154, 157, 158, 159, 160, 161, 162, 163, 164, 165, 166, 167, 169, 170, 171, 172, 173, 174, 175, 177, 178, 179, 180, 181, 182, 183, 184, 185, 186, 187, 188, 189, 190, 191, 192, 193, 194, 196, 197, 198, 199, 200, 201, 202, 203, 204, 205, 206, 207, 208, 209, 210, 211, 212, 213, 214, 215, 216, 217, 218, 219, 220, 221, 222, 223, 224, 225, 226, 228, 229, 230, 231, 232, 233, 234, 235, 236, 237, 238, 239, 240, 241, 242, 243, 244, 245, 246, 247, 248, 249, 250, 251, 252, 253, 254, 255, 256]
set_option maxRecDepth 100000 in
theorem xi_w_im : xi_pk [17, 11, 35, 25, 26, 42, 12, 13, 71, 7, 3, 2, 4, 3, 2, 3, 3, 9, 3, 9, 4, 2, 3, 10, 8, 3, 2, 3, 3, 3, 3, 4, 2, 4, 2, 3, 5, 3, 3, 5, 3, 4, 3, 3, 4, 4, 3, 3, 3, 3, 3, 9, 3, 4, 2, 3, 5, 3, 4, 6, 2, 3, 3, 3, 3, 3, 3, 3, 3, 4, 2, 5, 7, 4, 2, 4, 2, 6, 4, 3, 4, 3, 3, 4, 2, 3, 3, 4, 2, 3, 3, 3, 3, 3, 3, 5, 2, 11, 3, 4, 4, 3, 4, 3, 2, 3, 3, 3, 4, 2, 4, 2, 3, 4, 3, 4, 4, 4, 8, 5, 3, 3, 3, 4, 6, 4, 2, 9, 3, 3, 3, 4, 5, 3, 3, 7, 3, 3, 4, 106, 10, 3, 2, 4, 3, 3, 2, 4, 3, 3, 3, 6, 4, 2, 4, 3, 3, 3, 5, 3, 4, 3, 3, 3, 2, 4, 3, 2, 4, 3, 2, 3, 3, 4, 3, 2, 6, 4, 3, 2, 3, 3, 3, 4, 2, 4, 3, 3, 3, 3, 3, 2, 3, 3, 3, 4, 3, 2, 4, 3, 3, 4, 3, 2, 3, 4, 3, 6, 2, 3, 3, 3, 3, 4, 2, 4, 2, 3, 4, 3, 4, 2, 3, 4, 4, 2, 6, 3, 3, 3, 4, 2, 3, 3, 5, 4] (xi_im.map (fun μ => Cond.instanceMethod (xi_y μ))) tables_1 = true := by decide +kernel
def xi_sm : List Nat := [8, 10, 19, 22, 23, 28, 29, 31, 59, 81, 87, 108, 131, 140, 146, 155, 156, 168, 176, 195, 227]
set_option maxRecDepth 100000 in
theorem xi_w_sm : xi_pk [199, 64, 34, 13, 2, 18, 2, 6, 119, 95, 24, 88, 102, 41, 22, 142, 2, 47, 30, 74, 127] (xi_sm.map (fun μ => Cond.static (xi_y μ))) tables_1 = true := by decide +kernel
def xi_s1 : List Nat := [11, 12, 14, 15, 25, 30, 32, 33, 39, 41, 44, 62, 68, 78, 80, 82, 83, 85, 91, 94, 98, 106, 114, 115, 120, 122, 127, 130, 137, 138, 145, 150, 151, 152, 157, 158, 160, 161, 162, 170, 172, 173, 174, 175, 179, 180, 181, 182, 184, 185, 187, 188, 192, 193, 197, 198, 203, 205, 206, 207, 208, 209, 210, 215, 216, 221, 222, 225, 226, 228, 234, 236, 239, 240, 241, 245, 251, 255, 256]
def xi_s2 : List Nat := [9, 13, 16, 17, 18, 20, 21, 24, 26, 27, 34, 35, 36, 37, 38, 40, 42, 43, 45, 46, 47, 48, 49, 50, 51, 52, 53, 54, 55, 56, 57, 58, 60, 61, 63, 64, 65, 66, 67, 69, 70, 71, 72, 73, 74, 75, 76, 77, 79, 84, 86, 88, 89, 90, 92, 93, 95, 96, 97, 99, 100, 101, 102, 103, 104, 105, 107, 109, 110, 111, 112, 113, 116, 117, 118, 119, 121, 123, 124, 125, 126, 128, 129, 132, 133, 134, 135, 136, 139, 141, 142, 143, 144, 147, 148, 149, 154, 159, 163, 164, 165, 166, 167, 169, 171, 177, 178, 183, 186, 189, 190, 191, 194, 196, 199, 200, 201, 202, 204, 211, 212, 213, 214, 217, 218, 219, 220, 223, 224, 229, 230, 231, 232, 233, 235, 237, 238, 242, 243, 244, 246, 247, 248, 249, 250, 252, 253, 254]
set_option maxRecDepth 100000 in
theorem xi_w_s1 : xi_pk [0, 0, 0, 0, 0, 0, 0, 0, 0, 0, 0, 0, 0, 0, 0, 0, 0, 0, 0, 0, 0, 0, 0, 0, 0, 0, 0, 0, 0, 0, 0, 0, 0, 0, 0, 0, 0, 0, 0, 0, 0, 0, 0, 0, 0, 0, 0, 0, 0, 0, 0, 0, 0, 0, 0, 0, 0, 0, 0, 0, 0, 0, 0, 0, 0, 0, 0, 0, 0, 0, 0, 0, 0, 0, 0, 0, 0, 0, 0] (xi_s1.map (fun μ => Cond.selects (xi_y μ).cls (xi_y μ) (xi_y μ))) (k2_sels lw_privs) = true := by decide +kernel
set_option maxRecDepth 100000 in
theorem xi_w_s2 : xi_pk [261, 14, 11, 3, 3, 9, 3, 9, 7, 3, 26, 3, 3, 3, 3, 7, 7, 3, 9, 3, 5, 3, 4, 3, 3, 4, 4, 3, 3, 3, 3, 3, 9, 3, 7, 3, 5, 3, 4, 9, 3, 3, 3, 3, 3, 3, 3, 3, 7, 21, 7, 6, 4, 3, 8, 3, 7, 3, 3, 7, 3, 3, 3, 3, 3, 3, 8, 11, 3, 4, 4, 3, 11, 3, 3, 3, 7, 7, 3, 4, 3, 9, 4, 14, 3, 3, 3, 4, 14, 9, 3, 3, 3, 10, 3, 3, 127, 17, 15, 4, 3, 3, 3, 6, 7, 22, 3, 19, 11, 11, 3, 3, 11, 6, 11, 3, 3, 3, 7, 27, 3, 3, 3, 11, 4, 3, 3, 11, 3, 18, 3, 3, 3, 3, 7, 7, 3, 16, 3, 4, 7, 6, 3, 3, 3, 7, 3, 3] (xi_s2.map (fun μ => Cond.selects (xi_y μ).cls (xi_y μ) (xi_y μ))) tables_1 = true := by decide +kernel
/-- the words at these places -/
def xi_pkl : List Nat → List Cond → List Cond
  | [], _ => []
  | d :: ds, tb => (match tb.drop d with
    | x :: r => x :: xi_pkl ds r
    | [] => [])
theorem xi_pkl_mem : ∀ (ds : List Nat) (tb : List Cond), ∀ w ∈ xi_pkl ds tb, w ∈ tb
  | [], _, w, hw => absurd hw List.not_mem_nil
  | d :: ds, tb, w, hw => by
    unfold xi_pkl at hw
    split at hw
    · next x r hx =>
      have hsub : ∀ z ∈ x :: r, z ∈ tb := fun z hz => List.mem_of_mem_drop (i := d) (by rw [hx]; exact hz)
      rcases List.mem_cons.mp hw with rfl | hw
      · exact hsub _ List.mem_cons_self
      · exact hsub w (List.mem_cons_of_mem _ (xi_pkl_mem ds r w hw))
    · cases hw
def xi_cw (q : xi_M × Nat × Nat × List xi_E) : Cond := Cond.code (xi_yM q.1) q.1.2.2.2.1 q.2.1 q.1.2.2.2.2.1
def xi_wl_0 : List Cond := [xi_cw (xm_0, 2, 1, xc_0), xi_cw (xm_1, 1, 1, xc_1), xi_cw (xm_2, 1, 1, xc_2), xi_cw (xm_3, 1, 1, xc_3), xi_cw (xm_4, 2, 2, xc_4), xi_cw (xm_5, 2, 2, xc_5), xi_cw (xm_6, 2, 2, xc_6), xi_cw (xm_7, 1, 1, xc_7), xi_cw (xm_8, 4, 2, xc_8), xi_cw (xm_9, 3, 3, xc_9), xi_cw (xm_10, 1, 1, xc_10), xi_cw (xm_11, 2, 2, xc_11), xi_cw (xm_12, 3, 3, xc_12), xi_cw (xm_13, 5, 4, xc_13), xi_cw (xm_14, 4, 3, xc_14), xi_cw (xm_15, 2, 2, xc_15), xi_cw (xm_16, 4, 3, xc_16), xi_cw (xm_17, 3, 2, xc_17), xi_cw (xm_18, 6, 6, xc_18), xi_cw (xm_19, 3, 3, xc_19), xi_cw (xm_20, 7, 2, xc_20), xi_cw (xm_21, 3, 3, xc_21), xi_cw (xm_22, 1, 1, xc_22), xi_cw (xm_23, 4, 2, xc_23), xi_cw (xm_24, 6, 4, xc_24), xi_cw (xm_25, 2, 2, xc_25), xi_cw (xm_26, 3, 2, xc_26), xi_cw (xm_27, 7, 3, xc_27), xi_cw (xm_28, 2, 2, xc_28), xi_cw (xm_29, 4, 3, xc_29), xi_cw (xm_30, 7, 4, xc_30), xi_cw (xm_31, 2, 1, xc_31)]
set_option maxRecDepth 100000 in
set_option maxHeartbeats 4000000 in
theorem xi_w_code_0 : xi_pkl [18, 11, 35, 25, 26, 42, 12, 13, 10, 61, 2, 3, 3, 3, 3, 3, 3, 3, 3, 2, 6, 3, 2, 2, 3, 3, 3, 3, 2, 2, 3, 2] tables_1 = xi_wl_0 := by rfl
theorem xi_wm_0 : ∀ w ∈ xi_wl_0, w ∈ tables_1 := by rw [← xi_w_code_0]; exact xi_pkl_mem _ _
def xi_wl_1 : List Cond := [xi_cw (xm_32, 5, 1, xc_32), xi_cw (xm_33, 4, 4, xc_33), xi_cw (xm_34, 5, 4, xc_34), xi_cw (xm_35, 3, 3, xc_35), xi_cw (xm_36, 2, 2, xc_36), xi_cw (xm_37, 2, 2, xc_37), xi_cw (xm_38, 2, 2, xc_38), xi_cw (xm_39, 5, 3, xc_39), xi_cw (xm_40, 4, 2, xc_40), xi_cw (xm_41, 2, 1, xc_41), xi_cw (xm_42, 2, 2, xc_42), xi_cw (xm_43, 3, 3, xc_43), xi_cw (xm_44, 3, 3, xc_44), xi_cw (xm_45, 2, 2, xc_45), xi_cw (xm_46, 4, 3, xc_46), xi_cw (xm_47, 3, 3, xc_47), xi_cw (xm_48, 2, 2, xc_48), xi_cw (xm_49, 3, 3, xc_49), xi_cw (xm_50, 4, 3, xc_50), xi_cw (xm_51, 4, 2, xc_51), xi_cw (xm_52, 4, 2, xc_52), xi_cw (xm_53, 3, 2, xc_53), xi_cw (xm_54, 3, 2, xc_54), xi_cw (xm_55, 3, 3, xc_55), xi_cw (xm_56, 3, 3, xc_56), xi_cw (xm_57, 2, 2, xc_57), xi_cw (xm_58, 2, 2, xc_58), xi_cw (xm_59, 1, 1, xc_59), xi_cw (xm_60, 2, 2, xc_60), xi_cw (xm_61, 1, 1, xc_61), xi_cw (xm_62, 1, 1, xc_62), xi_cw (xm_63, 5, 4, xc_63)]
set_option maxRecDepth 100000 in
set_option maxHeartbeats 4000000 in
theorem xi_w_code_1 : xi_pkl [352, 3, 3, 3, 3, 3, 3, 3, 3, 3, 3, 3, 4, 4, 3, 5, 3, 4, 3, 3, 4, 4, 3, 3, 3, 3, 3, 2, 6, 3, 3, 3] tables_1 = xi_wl_1 := by rfl
theorem xi_wm_1 : ∀ w ∈ xi_wl_1, w ∈ tables_1 := by rw [← xi_w_code_1]; exact xi_pkl_mem _ _
def xi_wl_2 : List Cond := [xi_cw (xm_64, 1, 1, xc_64), xi_cw (xm_65, 3, 2, xc_65), xi_cw (xm_66, 3, 3, xc_66), xi_cw (xm_67, 2, 2, xc_67), xi_cw (xm_68, 2, 2, xc_68), xi_cw (xm_69, 2, 2, xc_69), xi_cw (xm_70, 1, 1, xc_70), xi_cw (xm_71, 1, 1, xc_71), xi_cw (xm_72, 1, 1, xc_72), xi_cw (xm_73, 2, 2, xc_73), xi_cw (xm_74, 4, 2, xc_74), xi_cw (xm_75, 1, 1, xc_75), xi_cw (xm_76, 2, 1, xc_76), xi_cw (xm_77, 2, 2, xc_77), xi_cw (xm_78, 2, 1, xc_78), xi_cw (xm_79, 6, 4, xc_79), xi_cw (xm_80, 3, 2, xc_80), xi_cw (xm_81, 7, 3, xc_81), xi_cw (xm_82, 5, 3, xc_82), xi_cw (xm_83, 2, 2, xc_83), xi_cw (xm_84, 4, 2, xc_84), xi_cw (xm_85, 4, 3, xc_85), xi_cw (xm_86, 2, 2, xc_86), xi_cw (xm_87, 1, 1, xc_87), xi_cw (xm_88, 2, 2, xc_88), xi_cw (xm_89, 2, 2, xc_89), xi_cw (xm_90, 3, 2, xc_90), xi_cw (xm_91, 4, 2, xc_91), xi_cw (xm_92, 3, 3, xc_92), xi_cw (xm_93, 3, 3, xc_93), xi_cw (xm_94, 3, 3, xc_94), xi_cw (xm_95, 3, 3, xc_95)]
set_option maxRecDepth 100000 in
set_option maxHeartbeats 4000000 in
theorem xi_w_code_2 : xi_pkl [489, 5, 3, 4, 5, 3, 3, 3, 3, 3, 3, 3, 3, 3, 3, 3, 4, 2, 4, 4, 3, 3, 3, 2, 3, 4, 3, 3, 4, 3, 3, 3] tables_1 = xi_wl_2 := by rfl
theorem xi_wm_2 : ∀ w ∈ xi_wl_2, w ∈ tables_1 := by rw [← xi_w_code_2]; exact xi_pkl_mem _ _
def xi_wl_3 : List Cond := [xi_cw (xm_96, 2, 1, xc_96), xi_cw (xm_97, 4, 4, xc_97), xi_cw (xm_98, 4, 4, xc_98), xi_cw (xm_99, 3, 2, xc_99), xi_cw (xm_100, 3, 3, xc_100), xi_cw (xm_101, 4, 3, xc_101), xi_cw (xm_102, 3, 3, xc_102), xi_cw (xm_103, 2, 2, xc_103), xi_cw (xm_104, 7, 3, xc_104), xi_cw (xm_105, 7, 3, xc_105), xi_cw (xm_106, 3, 3, xc_106), xi_cw (xm_107, 3, 3, xc_107), xi_cw (xm_108, 2, 2, xc_108), xi_cw (xm_109, 4, 2, xc_109), xi_cw (xm_110, 4, 3, xc_110), xi_cw (xm_111, 6, 4, xc_111), xi_cw (xm_112, 5, 2, xc_112), xi_cw (xm_113, 4, 3, xc_113), xi_cw (xm_114, 3, 2, xc_114), xi_cw (xm_115, 5, 3, xc_115), xi_cw (xm_116, 4, 4, xc_116), xi_cw (xm_117, 4, 4, xc_117), xi_cw (xm_118, 3, 2, xc_118), xi_cw (xm_119, 1, 1, xc_119), xi_cw (xm_120, 3, 1, xc_120), xi_cw (xm_121, 5, 2, xc_121), xi_cw (xm_122, 2, 2, xc_122), xi_cw (xm_123, 5, 2, xc_123), xi_cw (xm_124, 4, 3, xc_124), xi_cw (xm_125, 4, 4, xc_125), xi_cw (xm_126, 8, 4, xc_126), xi_cw (xm_127, 9, 4, xc_127)]
set_option maxRecDepth 100000 in
set_option maxHeartbeats 4000000 in
theorem xi_w_code_3 : xi_pkl [625, 3, 3, 3, 3, 3, 3, 3, 3, 3, 4, 3, 5, 5, 3, 4, 4, 3, 3, 3, 3, 3, 3, 3, 3, 3, 3, 3, 3, 4, 3, 3] tables_1 = xi_wl_3 := by rfl
theorem xi_wm_3 : ∀ w ∈ xi_wl_3, w ∈ tables_1 := by rw [← xi_w_code_3]; exact xi_pkl_mem _ _
def xi_wl_4 : List Cond := [xi_cw (xm_128, 5, 2, xc_128), xi_cw (xm_129, 3, 3, xc_129), xi_cw (xm_130, 7, 3, xc_130), xi_cw (xm_131, 11, 2, xc_131), xi_cw (xm_132, 3, 3, xc_132), xi_cw (xm_133, 8, 4, xc_133), xi_cw (xm_134, 4, 3, xc_134), xi_cw (xm_135, 3, 3, xc_135), xi_cw (xm_136, 7, 3, xc_136), xi_cw (xm_137, 6, 4, xc_137), xi_cw (xm_138, 4, 3, xc_138), xi_cw (xm_139, 7, 3, xc_139), xi_cw (xm_140, 4, 2, xc_140), xi_cw (xm_141, 1, 1, xc_141), xi_cw (xm_142, 1, 1, xc_142), xi_cw (xm_143, 1, 1, xc_143), xi_cw (xm_144, 2, 2, xc_144), xi_cw (xm_145, 3, 1, xc_145), xi_cw (xm_146, 3, 1, xc_146), xi_cw (xm_147, 1, 1, xc_147), xi_cw (xm_148, 2, 2, xc_148), xi_cw (xm_149, 4, 1, xc_149), xi_cw (xm_150, 7, 2, xc_150), xi_cw (xm_151, 7, 2, xc_151), xi_cw (xm_152, 7, 2, xc_152), xi_cw (xm_153, 2, 1, xc_153), xi_cw (xm_154, 4, 3, xc_154), xi_cw (xm_155, 1, 1, xc_155), xi_cw (xm_156, 3, 3, xc_156), xi_cw (xm_157, 2, 2, xc_157), xi_cw (xm_158, 4, 4, xc_158), xi_cw (xm_159, 4, 3, xc_159)]
set_option maxRecDepth 100000 in
set_option maxHeartbeats 4000000 in
theorem xi_w_code_4 : xi_pkl [763, 4, 7, 2, 3, 3, 3, 3, 4, 5, 4, 3, 5, 3, 3, 3, 3, 3, 2, 3, 3, 3, 6, 3, 3, 4, 107, 2, 2, 3, 3, 3] tables_1 = xi_wl_4 := by rfl
theorem xi_wm_4 : ∀ w ∈ xi_wl_4, w ∈ tables_1 := by rw [← xi_w_code_4]; exact xi_pkl_mem _ _
def xi_wl_5 : List Cond := [xi_cw (xm_160, 2, 2, xc_160), xi_cw (xm_161, 3, 3, xc_161), xi_cw (xm_162, 3, 3, xc_162), xi_cw (xm_163, 5, 4, xc_163), xi_cw (xm_164, 3, 2, xc_164), xi_cw (xm_165, 7, 6, xc_165), xi_cw (xm_166, 6, 2, xc_166), xi_cw (xm_167, 4, 3, xc_167), xi_cw (xm_168, 1, 1, xc_168), xi_cw (xm_169, 6, 4, xc_169), xi_cw (xm_170, 2, 2, xc_170), xi_cw (xm_171, 3, 2, xc_171), xi_cw (xm_172, 2, 2, xc_172), xi_cw (xm_173, 2, 2, xc_173), xi_cw (xm_174, 2, 2, xc_174), xi_cw (xm_175, 6, 2, xc_175), xi_cw (xm_176, 1, 1, xc_176), xi_cw (xm_177, 4, 2, xc_177), xi_cw (xm_178, 3, 3, xc_178), xi_cw (xm_179, 2, 2, xc_179), xi_cw (xm_180, 3, 3, xc_180), xi_cw (xm_181, 2, 2, xc_181), xi_cw (xm_182, 3, 3, xc_182), xi_cw (xm_183, 3, 3, xc_183), xi_cw (xm_184, 2, 2, xc_184), xi_cw (xm_185, 3, 3, xc_185), xi_cw (xm_186, 5, 3, xc_186), xi_cw (xm_187, 3, 3, xc_187), xi_cw (xm_188, 5, 3, xc_188), xi_cw (xm_189, 3, 2, xc_189), xi_cw (xm_190, 3, 2, xc_190), xi_cw (xm_191, 3, 3, xc_191)]
set_option maxRecDepth 100000 in
set_option maxHeartbeats 4000000 in
theorem xi_w_code_5 : xi_pkl [1006, 3, 3, 3, 4, 3, 3, 3, 2, 3, 3, 3, 3, 3, 3, 3, 2, 3, 3, 3, 3, 3, 3, 3, 3, 3, 3, 3, 3, 3, 3, 3] tables_1 = xi_wl_5 := by rfl
theorem xi_wm_5 : ∀ w ∈ xi_wl_5, w ∈ tables_1 := by rw [← xi_w_code_5]; exact xi_pkl_mem _ _
def xi_wl_6 : List Cond := [xi_cw (xm_192, 5, 3, xc_192), xi_cw (xm_193, 8, 4, xc_193), xi_cw (xm_194, 2, 2, xc_194), xi_cw (xm_195, 3, 1, xc_195), xi_cw (xm_196, 2, 2, xc_196), xi_cw (xm_197, 3, 3, xc_197), xi_cw (xm_198, 5, 3, xc_198), xi_cw (xm_199, 1, 1, xc_199), xi_cw (xm_200, 1, 1, xc_200), xi_cw (xm_201, 2, 2, xc_201), xi_cw (xm_202, 1, 1, xc_202), xi_cw (xm_203, 3, 1, xc_203), xi_cw (xm_204, 1, 1, xc_204), xi_cw (xm_205, 2, 1, xc_205), xi_cw (xm_206, 3, 2, xc_206), xi_cw (xm_207, 4, 3, xc_207), xi_cw (xm_208, 4, 2, xc_208), xi_cw (xm_209, 4, 1, xc_209), xi_cw (xm_210, 2, 1, xc_210), xi_cw (xm_211, 4, 2, xc_211), xi_cw (xm_212, 4, 2, xc_212), xi_cw (xm_213, 5, 2, xc_213), xi_cw (xm_214, 3, 3, xc_214), xi_cw (xm_215, 3, 3, xc_215), xi_cw (xm_216, 3, 3, xc_216), xi_cw (xm_217, 5, 4, xc_217), xi_cw (xm_218, 3, 3, xc_218), xi_cw (xm_219, 6, 3, xc_219), xi_cw (xm_220, 4, 3, xc_220), xi_cw (xm_221, 2, 2, xc_221), xi_cw (xm_222, 8, 3, xc_222), xi_cw (xm_223, 6, 2, xc_223)]
set_option maxRecDepth 100000 in
set_option maxHeartbeats 4000000 in
theorem xi_w_code_6 : xi_pkl [1133, 3, 3, 2, 3, 3, 3, 3, 3, 3, 3, 3, 3, 3, 3, 3, 3, 3, 3, 3, 3, 3, 3, 3, 3, 3, 4, 3, 3, 3, 3, 3] tables_1 = xi_wl_6 := by rfl
theorem xi_wm_6 : ∀ w ∈ xi_wl_6, w ∈ tables_1 := by rw [← xi_w_code_6]; exact xi_pkl_mem _ _
def xi_wl_7 : List Cond := [xi_cw (xm_224, 4, 3, xc_224), xi_cw (xm_225, 2, 2, xc_225), xi_cw (xm_226, 6, 3, xc_226), xi_cw (xm_227, 2, 2, xc_227), xi_cw (xm_228, 7, 4, xc_228), xi_cw (xm_229, 4, 2, xc_229), xi_cw (xm_230, 8, 3, xc_230), xi_cw (xm_231, 4, 4, xc_231), xi_cw (xm_232, 3, 2, xc_232), xi_cw (xm_233, 1, 1, xc_233), xi_cw (xm_234, 2, 1, xc_234), xi_cw (xm_235, 6, 2, xc_235), xi_cw (xm_236, 2, 2, xc_236), xi_cw (xm_237, 8, 2, xc_237), xi_cw (xm_238, 4, 4, xc_238), xi_cw (xm_239, 8, 4, xc_239), xi_cw (xm_240, 5, 2, xc_240), xi_cw (xm_241, 12, 4, xc_241), xi_cw (xm_242, 6, 3, xc_242), xi_cw (xm_243, 10, 4, xc_243), xi_cw (xm_244, 3, 3, xc_244), xi_cw (xm_245, 8, 4, xc_245), xi_cw (xm_246, 8, 3, xc_246), xi_cw (xm_247, 1, 1, xc_247), xi_cw (xm_248, 1, 1, xc_248), xi_cw (xm_249, 1, 1, xc_249), xi_cw (xm_250, 2, 2, xc_250), xi_cw (xm_251, 4, 2, xc_251), xi_cw (xm_252, 1, 1, xc_252), xi_cw (xm_253, 2, 2, xc_253), xi_cw (xm_254, 3, 1, xc_254), xi_cw (xm_255, 2, 2, xc_255)]
set_option maxRecDepth 100000 in
set_option maxHeartbeats 4000000 in
theorem xi_w_code_7 : xi_pkl [1261, 3, 3, 2, 3, 3, 3, 3, 3, 3, 3, 3, 3, 3, 3, 3, 3, 4, 3, 3, 4, 3, 3, 6, 3, 3, 3, 3, 3, 3, 3, 4] tables_1 = xi_wl_7 := by rfl
theorem xi_wm_7 : ∀ w ∈ xi_wl_7, w ∈ tables_1 := by rw [← xi_w_code_7]; exact xi_pkl_mem _ _
def xi_wl_8 : List Cond := [xi_cw (xm_256, 3, 1, xc_256)]
set_option maxRecDepth 100000 in
set_option maxHeartbeats 4000000 in
theorem xi_w_code_8 : xi_pkl [1395] tables_1 = xi_wl_8 := by rfl
theorem xi_wm_8 : ∀ w ∈ xi_wl_8, w ∈ tables_1 := by rw [← xi_w_code_8]; exact xi_pkl_mem _ _
set_option maxRecDepth 100000 in
set_option maxHeartbeats 4000000 in
theorem xi_wl_eq : (xi_tab.take 257).map xi_cw = xi_wl_0 ++ (xi_wl_1 ++ (xi_wl_2 ++ (xi_wl_3 ++ (xi_wl_4 ++ (xi_wl_5 ++ (xi_wl_6 ++ (xi_wl_7 ++ (xi_wl_8)))))))) := by rfl
theorem xi_wm : ∀ w ∈ (xi_tab.take 257).map xi_cw, w ∈ tables_1 := by
  rw [xi_wl_eq]
  exact List.forall_mem_append.mpr ⟨xi_wm_0, List.forall_mem_append.mpr ⟨xi_wm_1, List.forall_mem_append.mpr ⟨xi_wm_2, List.forall_mem_append.mpr ⟨xi_wm_3, List.forall_mem_append.mpr ⟨xi_wm_4, List.forall_mem_append.mpr ⟨xi_wm_5, List.forall_mem_append.mpr ⟨xi_wm_6, List.forall_mem_append.mpr ⟨xi_wm_7, xi_wm_8⟩⟩⟩⟩⟩⟩⟩⟩
theorem xi_code_mem {μ : Nat} {q : xi_M × Nat × Nat × List xi_E} (h : xi_tab[μ]? = some q) (hμ : μ < 257) : Cond.code (xi_yM q.1) q.1.2.2.2.1 q.2.1 q.1.2.2.2.2.1 ∈ xi_tb := by
  have h2 : (xi_tab.take 257)[μ]? = some q := by rw [List.getElem?_take, if_pos hμ]; exact h
  exact xi_tb_of (List.mem_append_right _ (xi_wm _ (List.mem_map.mpr ⟨q, List.mem_of_getElem? h2, rfl⟩))) rfl
theorem xi_y_eq {μ : Nat} {q : xi_M × Nat × Nat × List xi_E} (h : xi_tab[μ]? = some q) (hμ : μ < 257) : xi_y μ = xi_yM q.1 := by
  unfold xi_y
  rw [if_neg (by omega), if_neg (by omega), h]
theorem xi_im_mem {μ : Nat} (h : μ ∈ xi_im) : Cond.instanceMethod (xi_y μ) ∈ xi_tb := xi_tb_of (List.mem_append_right _ (xi_pk_mem _ _ _ xi_w_im _ (List.mem_map.mpr ⟨μ, h, rfl⟩))) rfl
theorem xi_sm_mem {μ : Nat} (h : μ ∈ xi_sm) : Cond.static (xi_y μ) ∈ xi_tb := xi_tb_of (List.mem_append_right _ (xi_pk_mem _ _ _ xi_w_sm _ (List.mem_map.mpr ⟨μ, h, rfl⟩))) rfl
theorem xi_sel_mem {μ : Nat} (h : μ ∈ xi_s1 ++ xi_s2) : Cond.selects (xi_y μ).cls (xi_y μ) (xi_y μ) ∈ xi_tb := by
  rcases List.mem_append.mp h with h | h
  · exact xi_tb_of (List.mem_append_left _ (xi_pk_mem _ _ _ xi_w_s1 _ (List.mem_map.mpr ⟨μ, h, rfl⟩))) rfl
  · exact xi_tb_of (List.mem_append_right _ (xi_pk_mem _ _ _ xi_w_s2 _ (List.mem_map.mpr ⟨μ, h, rfl⟩))) rfl
theorem xi_in_mem {c : Nat} (h : c ∈ xi_inL) : Cond.initialized (xi_cA c) ∈ xi_tb := xi_tb_of (List.mem_append_right _ (xi_pk_mem _ _ _ xi_w_in _ (List.mem_map.mpr ⟨c, h, rfl⟩))) rfl
/-- a method's words: those that stay -/
def xi_gw : List Cond := lw_tbl.filter goodWord
theorem xi_gw_tb {w : Cond} (h : w ∈ xi_gw) : w ∈ xi_tb := by
  obtain ⟨h1, h2⟩ := List.mem_filter.mp h
  exact xi_tb_of h1 (by rw [h2]; rfl)
theorem xi_gw_of {w : Cond} (h : w ∈ xi_tb) (h2 : goodWord w = true) : w ∈ xi_gw := List.mem_filter.mpr ⟨xi_tb_lw h, h2⟩
theorem xi_goodIn {ws : List Cond} (h : ∀ w ∈ ws, w ∈ xi_gw) : GoodIn xi_gw ws := fun w hw => ⟨h w hw, good_of_word (List.mem_filter.mp (h w hw)).2⟩
end
section
/-! what a program checks of the tables: that they are the code that the Statement holds -/
def xi_d (cc : ByteArray) (pc : Nat) (e : xi_E) (len : Nat) : Bool := decide (decode cc pc = .ok (e.1, len))
def xi_tg (pcs : Nat → Nat) (i : Nat) (off : Int) (t : Nat) : Bool := decide ((pcs i : Int) + off = (pcs t : Int))
def xi_dn (cc : ByteArray) (pcs : Nat → Nat) (i : Nat) (e : xi_E) (len : Nat) : Bool := xi_d cc (pcs i) e len && decide (pcs (i + 1) = pcs i + len)
def xi_fck (own : Nat) (ini : Bool) (idx w : Nat) (put : Bool) (n : List Nat) : Bool := match n with
  | [ci, j, f] => decide (xi_FL[w]? = some (own, idx, ci, j)) && decide (ci < 9) && decide (j < xi_nf ci) && decide (f = xi_kd ci j) && (!put || (!(xi_T ci j).2.2.2) || (ini && decide (ci = own)))
  | _ => false
def xi_at (t : Nat) : FieldType := match t with
  | 9 => .int
  | 10 => .byte
  | 11 => .long
  | 12 => .object "GuineaHours$Day"
  | 13 => .array .byte
  | _ => .array .int
/-- of a callee: its kind and the link -/
def xi_cck (own kd idx w : Nat) (n : List Nat) : Bool := match xi_tab[n.headD 0]? with
  | some q => decide (n.headD 0 < 257 ∧ ¬ n.headD 0 = 28 ∧ ¬ n.headD 0 = 108) && decide (q.1.2.2.2.2.2.1 = kd) && (decide (xi_ML[w]? = some (own, idx, n.headD 0)) || (decide (kd = 2) && decide (xi_MN[w - 1000]? = some (own, idx, n.headD 0)))) && (if kd = 0 then decide (n.length = 2) else decide (n.length = 3) && decide (n[2]? = some q.1.1) && decide (q.1.1 < 9))
  | none => false
def xi_ck (own : Nat) (ini : Bool) (cc : ByteArray) (ret : Option FieldType) (pcs ws : Nat → Nat) (i : Nat) (e : xi_E) : Bool := match e.1 with
  | .iconst n => xi_dn cc pcs i e 1 && decide (Int32.ofInt n = e.2.2.1)
  | .bipush n => xi_dn cc pcs i e 2 && decide ((Int8.ofInt n).toInt32 = e.2.2.1)
  | .sipush n => xi_dn cc pcs i e 3 && decide ((Int16.ofInt n).toInt32 = e.2.2.1)
  | .ldc_w k => xi_dn cc pcs i e 3 && decide (xi_CK[ws i]? = some (own, k, e.2.2.1))
  | .lconst n => xi_dn cc pcs i e 1 && decide (Int64.ofNat n = e.2.2.2)
  | .ldc2_w k => xi_dn cc pcs i e 3 && decide (xi_CL[ws i]? = some (own, k, e.2.2.2))
  | .iload k => xi_dn cc pcs i e 2 && decide (k = xi_k e)
  | .iload_n k => xi_dn cc pcs i e 1 && decide (k.val = xi_k e)
  | .lload k => xi_dn cc pcs i e 2 && decide (k = xi_k e)
  | .lload_n k => xi_dn cc pcs i e 1 && decide (k.val = xi_k e)
  | .aload_n k => xi_dn cc pcs i e 1 && decide (k.val = xi_k e)
  | .istore k => xi_dn cc pcs i e 2 && decide (k = xi_k e)
  | .istore_n k => xi_dn cc pcs i e 1 && decide (k.val = xi_k e)
  | .lstore k => xi_dn cc pcs i e 2 && decide (k = xi_k e)
  | .lstore_n k => xi_dn cc pcs i e 1 && decide (k.val = xi_k e)
  | .astore_n k => xi_dn cc pcs i e 1 && decide (k.val = xi_k e)
  | .iinc k n => xi_dn cc pcs i e 3 && decide (k = xi_k e) && decide (Int32.ofInt n = e.2.2.1)
  | .getfield idx => xi_dn cc pcs i e 3 && xi_fck own ini idx (ws i) false e.2.1
  | .putfield idx => xi_dn cc pcs i e 3 && xi_fck own ini idx (ws i) true e.2.1
  | .getstatic idx => xi_dn cc pcs i e 3 && decide (xi_FN[ws i]? = some (own, idx, xi_k e)) && decide (xi_k e < 2)
  | .new idx => xi_dn cc pcs i e 3 && decide (xi_KL[ws i]? = some (own, idx, xi_k e)) && decide (xi_k e < 9)
  | .newarray t => xi_dn cc pcs i e 2 && decide (9 ≤ xi_k e ∧ xi_k e ≤ 11 ∧ newarray.typeOf t = xi_at (xi_k e))
  | .anewarray idx => xi_dn cc pcs i e 3 && decide (xi_KL[ws i]? = some (own, idx, 1))
  | .multianewarray idx dim => xi_dn cc pcs i e 4 && decide (dim = 2) && ((decide (e.2.1 = [14, 9]) && decide (xi_KL[ws i]? = some (own, idx, 14))) || (decide (e.2.1 = [13, 10]) && decide (xi_KL[ws i]? = some (own, idx, 13))))
  | .goto off => xi_d cc (pcs i) e 3 && xi_tg pcs i off (xi_k e)
  | .ifCond _ off => xi_dn cc pcs i e 3 && xi_tg pcs i off (xi_k e)
  | .if_icmp _ off => xi_dn cc pcs i e 3 && xi_tg pcs i off (xi_k e)
  | .tableswitch dflt _ _ offs => xi_d cc (pcs i) e (pcs (i + 1) - pcs i) && xi_tg pcs i dflt (xi_k e) && decide (e.2.1.length = offs.size + 1) && (List.range offs.size).all (fun j => xi_tg pcs i (offs.getD j 0) (e.2.1.getD (j + 1) 0))
  | .ireturn => xi_d cc (pcs i) e 1 && ((decide (ret = some .int) && decide (xi_k e = 0)) || (decide (ret = some .boolean) && decide (xi_k e = 1)))
  | .lreturn => xi_d cc (pcs i) e 1 && decide (ret = some .long)
  | .return_ => xi_d cc (pcs i) e 1 && decide (ret = none)
  | .invokevirtual idx => xi_dn cc pcs i e 3 && xi_cck own 1 idx (ws i) e.2.1
  | .invokestatic idx => xi_dn cc pcs i e 3 && (match e.2.1 with
    | [] => decide (xi_ML[ws i]? = some (own, idx, 259))
    | [k] => (decide (k = 1) && decide (xi_ML[ws i]? = some (own, idx, 108))) || (decide (k = 2) && decide (xi_ML[ws i]? = some (own, idx, 28)))
    | n => xi_cck own 0 idx (ws i) n)
  | .invokespecial idx => xi_dn cc pcs i e 3 && (match e.2.1 with
    | [] => decide (xi_ML[ws i]? = some (own, idx, 258))
    | n => xi_cck own 2 idx (ws i) n)
  | _ => xi_dn cc pcs i e 1
def xi_pcs (k : List (Nat × Nat)) (i : Nat) : Nat := (k.getD i (0, 0)).1
def xi_wsf (k : List (Nat × Nat)) (i : Nat) : Nat := (k.getD i (0, 0)).2
def xi_cka (q : xi_M × Nat × Nat × List xi_E) : Bool := (List.range q.2.2.2.length).all (fun i => match q.2.2.2[i]? with
  | some e => xi_ck q.1.1 (decide (q.1.2.2.2.2.2.1 = 2)) q.1.2.2.2.1 q.1.2.2.2.2.1 (xi_pcs q.1.2.2.2.2.2.2) (xi_wsf q.1.2.2.2.2.2.2) i e
  | none => false)
/-- of a method's head -/
def xi_ckh (μ : Nat) (q : xi_M × Nat × Nat × List xi_E) : Bool := plainName (xi_yM q.1).cls && decide ((xi_yM q.1).cls ≠ "java/lang/invoke/MethodHandle") && decide ((xi_yM q.1).cls ≠ "java/lang/invoke/VarHandle") && decide (q.1.1 ∈ xi_inL) &&
  decide (q.2.1 ≤ 40) && decide (xi_pcs q.1.2.2.2.2.2.2 0 = 0) && decide ((parseMethodDescriptor (xi_yM q.1).desc).map (fun d => d.parameters.length) = some (if q.1.2.2.2.2.2.1 = 0 then q.2.2.1 else q.2.2.1 - 1)) &&
  ((decide (q.1.2.2.2.2.2.1 = 0) && decide (μ ∈ xi_sm)) || (decide (q.1.2.2.2.2.2.1 = 1) && decide (0 < q.2.2.1) && decide (μ ∈ xi_im) && decide (μ ∈ xi_s1 ++ xi_s2) && decide (q.1.1 < 9)) || (decide (q.1.2.2.2.2.2.1 = 2) && decide (0 < q.2.2.1) && decide (q.1.2.2.2.2.1 = none) && decide (q.1.2.1 = "<init>") && decide (μ ∈ xi_im)))
end
section
/-! the tables are the code that the Statement holds: by a program (kernel) -/
set_option maxRecDepth 100000 in
theorem xi_c_0 : [(xm_0, 2, 1, xc_0), (xm_1, 1, 1, xc_1), (xm_2, 1, 1, xc_2), (xm_3, 1, 1, xc_3), (xm_4, 2, 2, xc_4), (xm_5, 2, 2, xc_5), (xm_6, 2, 2, xc_6), (xm_7, 1, 1, xc_7)].all xi_cka = true := by decide +kernel
set_option maxRecDepth 100000 in
theorem xi_c_1 : [(xm_8, 4, 2, xc_8), (xm_9, 3, 3, xc_9), (xm_10, 1, 1, xc_10), (xm_11, 2, 2, xc_11), (xm_12, 3, 3, xc_12), (xm_13, 5, 4, xc_13), (xm_14, 4, 3, xc_14), (xm_15, 2, 2, xc_15), (xm_16, 4, 3, xc_16), (xm_17, 3, 2, xc_17), (xm_18, 6, 6, xc_18), (xm_19, 3, 3, xc_19)].all xi_cka = true := by decide +kernel
set_option maxRecDepth 100000 in
theorem xi_c_2 : [(xm_20, 7, 2, xc_20), (xm_21, 3, 3, xc_21), (xm_22, 1, 1, xc_22), (xm_23, 4, 2, xc_23), (xm_24, 6, 4, xc_24), (xm_25, 2, 2, xc_25), (xm_26, 3, 2, xc_26)].all xi_cka = true := by decide +kernel
set_option maxRecDepth 100000 in
theorem xi_c_3 : [(xm_27, 7, 3, xc_27), (xm_28, 2, 2, xc_28), (xm_29, 4, 3, xc_29), (xm_30, 7, 4, xc_30), (xm_31, 2, 1, xc_31)].all xi_cka = true := by decide +kernel
set_option maxRecDepth 100000 in
theorem xi_c_4 : [(xm_32, 5, 1, xc_32), (xm_33, 4, 4, xc_33), (xm_34, 5, 4, xc_34), (xm_35, 3, 3, xc_35), (xm_36, 2, 2, xc_36), (xm_37, 2, 2, xc_37), (xm_38, 2, 2, xc_38), (xm_39, 5, 3, xc_39), (xm_40, 4, 2, xc_40), (xm_41, 2, 1, xc_41)].all xi_cka = true := by decide +kernel
set_option maxRecDepth 100000 in
theorem xi_c_5 : [(xm_42, 2, 2, xc_42), (xm_43, 3, 3, xc_43), (xm_44, 3, 3, xc_44), (xm_45, 2, 2, xc_45), (xm_46, 4, 3, xc_46), (xm_47, 3, 3, xc_47), (xm_48, 2, 2, xc_48), (xm_49, 3, 3, xc_49), (xm_50, 4, 3, xc_50), (xm_51, 4, 2, xc_51), (xm_52, 4, 2, xc_52), (xm_53, 3, 2, xc_53)].all xi_cka = true := by decide +kernel
set_option maxRecDepth 100000 in
theorem xi_c_6 : [(xm_54, 3, 2, xc_54), (xm_55, 3, 3, xc_55), (xm_56, 3, 3, xc_56), (xm_57, 2, 2, xc_57), (xm_58, 2, 2, xc_58), (xm_59, 1, 1, xc_59), (xm_60, 2, 2, xc_60), (xm_61, 1, 1, xc_61), (xm_62, 1, 1, xc_62), (xm_63, 5, 4, xc_63), (xm_64, 1, 1, xc_64)].all xi_cka = true := by decide +kernel
set_option maxRecDepth 100000 in
theorem xi_c_7 : [(xm_65, 3, 2, xc_65), (xm_66, 3, 3, xc_66), (xm_67, 2, 2, xc_67), (xm_68, 2, 2, xc_68), (xm_69, 2, 2, xc_69), (xm_70, 1, 1, xc_70), (xm_71, 1, 1, xc_71), (xm_72, 1, 1, xc_72), (xm_73, 2, 2, xc_73), (xm_74, 4, 2, xc_74), (xm_75, 1, 1, xc_75)].all xi_cka = true := by decide +kernel
end
section
/-! the tables are the code that the Statement holds: by a program (kernel) -/
set_option maxRecDepth 100000 in
theorem xi_c_8 : [(xm_76, 2, 1, xc_76), (xm_77, 2, 2, xc_77), (xm_78, 2, 1, xc_78), (xm_79, 6, 4, xc_79), (xm_80, 3, 2, xc_80), (xm_81, 7, 3, xc_81)].all xi_cka = true := by decide +kernel
set_option maxRecDepth 100000 in
theorem xi_c_9 : [(xm_82, 5, 3, xc_82), (xm_83, 2, 2, xc_83), (xm_84, 4, 2, xc_84), (xm_85, 4, 3, xc_85), (xm_86, 2, 2, xc_86), (xm_87, 1, 1, xc_87), (xm_88, 2, 2, xc_88), (xm_89, 2, 2, xc_89)].all xi_cka = true := by decide +kernel
set_option maxRecDepth 100000 in
theorem xi_c_10 : [(xm_90, 3, 2, xc_90), (xm_91, 4, 2, xc_91), (xm_92, 3, 3, xc_92), (xm_93, 3, 3, xc_93), (xm_94, 3, 3, xc_94), (xm_95, 3, 3, xc_95)].all xi_cka = true := by decide +kernel
set_option maxRecDepth 100000 in
theorem xi_c_11 : [(xm_96, 2, 1, xc_96), (xm_97, 4, 4, xc_97), (xm_98, 4, 4, xc_98), (xm_99, 3, 2, xc_99), (xm_100, 3, 3, xc_100), (xm_101, 4, 3, xc_101), (xm_102, 3, 3, xc_102), (xm_103, 2, 2, xc_103)].all xi_cka = true := by decide +kernel
set_option maxRecDepth 100000 in
theorem xi_c_12 : [(xm_104, 7, 3, xc_104), (xm_105, 7, 3, xc_105), (xm_106, 3, 3, xc_106), (xm_107, 3, 3, xc_107), (xm_108, 2, 2, xc_108), (xm_109, 4, 2, xc_109), (xm_110, 4, 3, xc_110), (xm_111, 6, 4, xc_111)].all xi_cka = true := by decide +kernel
set_option maxRecDepth 100000 in
theorem xi_c_13 : [(xm_112, 5, 2, xc_112), (xm_113, 4, 3, xc_113), (xm_114, 3, 2, xc_114), (xm_115, 5, 3, xc_115), (xm_116, 4, 4, xc_116), (xm_117, 4, 4, xc_117)].all xi_cka = true := by decide +kernel
set_option maxRecDepth 100000 in
theorem xi_c_14 : [(xm_118, 3, 2, xc_118), (xm_119, 1, 1, xc_119), (xm_120, 3, 1, xc_120), (xm_121, 5, 2, xc_121), (xm_122, 2, 2, xc_122), (xm_123, 5, 2, xc_123), (xm_124, 4, 3, xc_124), (xm_125, 4, 4, xc_125)].all xi_cka = true := by decide +kernel
set_option maxRecDepth 100000 in
theorem xi_c_15 : [(xm_126, 8, 4, xc_126), (xm_127, 9, 4, xc_127), (xm_128, 5, 2, xc_128), (xm_129, 3, 3, xc_129), (xm_130, 7, 3, xc_130), (xm_131, 11, 2, xc_131), (xm_132, 3, 3, xc_132)].all xi_cka = true := by decide +kernel
end
section
/-! the tables are the code that the Statement holds: by a program (kernel) -/
set_option maxRecDepth 100000 in
theorem xi_c_16 : [(xm_133, 8, 4, xc_133), (xm_134, 4, 3, xc_134), (xm_135, 3, 3, xc_135), (xm_136, 7, 3, xc_136), (xm_137, 6, 4, xc_137), (xm_138, 4, 3, xc_138)].all xi_cka = true := by decide +kernel
set_option maxRecDepth 100000 in
theorem xi_c_17 : [(xm_139, 7, 3, xc_139), (xm_140, 4, 2, xc_140), (xm_141, 1, 1, xc_141), (xm_142, 1, 1, xc_142), (xm_143, 1, 1, xc_143), (xm_144, 2, 2, xc_144), (xm_145, 3, 1, xc_145), (xm_146, 3, 1, xc_146), (xm_147, 1, 1, xc_147), (xm_148, 2, 2, xc_148)].all xi_cka = true := by decide +kernel
set_option maxRecDepth 100000 in
theorem xi_c_18 : [(xm_149, 4, 1, xc_149), (xm_150, 7, 2, xc_150), (xm_151, 7, 2, xc_151)].all xi_cka = true := by decide +kernel
set_option maxRecDepth 100000 in
theorem xi_c_19 : [(xm_152, 7, 2, xc_152), (xm_153, 2, 1, xc_153), (xm_154, 4, 3, xc_154), (xm_155, 1, 1, xc_155), (xm_156, 3, 3, xc_156), (xm_157, 2, 2, xc_157), (xm_158, 4, 4, xc_158), (xm_159, 4, 3, xc_159)].all xi_cka = true := by decide +kernel
set_option maxRecDepth 100000 in
theorem xi_c_20 : [(xm_160, 2, 2, xc_160), (xm_161, 3, 3, xc_161), (xm_162, 3, 3, xc_162), (xm_163, 5, 4, xc_163), (xm_164, 3, 2, xc_164), (xm_165, 7, 6, xc_165), (xm_166, 6, 2, xc_166), (xm_167, 4, 3, xc_167), (xm_168, 1, 1, xc_168)].all xi_cka = true := by decide +kernel
set_option maxRecDepth 100000 in
theorem xi_c_21 : [(xm_169, 6, 4, xc_169), (xm_170, 2, 2, xc_170), (xm_171, 3, 2, xc_171), (xm_172, 2, 2, xc_172), (xm_173, 2, 2, xc_173), (xm_174, 2, 2, xc_174)].all xi_cka = true := by decide +kernel
set_option maxRecDepth 100000 in
theorem xi_c_22 : [(xm_175, 6, 2, xc_175), (xm_176, 1, 1, xc_176), (xm_177, 4, 2, xc_177), (xm_178, 3, 3, xc_178), (xm_179, 2, 2, xc_179), (xm_180, 3, 3, xc_180)].all xi_cka = true := by decide +kernel
set_option maxRecDepth 100000 in
theorem xi_c_23 : [(xm_181, 2, 2, xc_181), (xm_182, 3, 3, xc_182), (xm_183, 3, 3, xc_183), (xm_184, 2, 2, xc_184), (xm_185, 3, 3, xc_185), (xm_186, 5, 3, xc_186), (xm_187, 3, 3, xc_187), (xm_188, 5, 3, xc_188), (xm_189, 3, 2, xc_189), (xm_190, 3, 2, xc_190), (xm_191, 3, 3, xc_191)].all xi_cka = true := by decide +kernel
end
section
/-! the tables are the code that the Statement holds: by a program (kernel) -/
set_option maxRecDepth 100000 in
theorem xi_c_24 : [(xm_192, 5, 3, xc_192), (xm_193, 8, 4, xc_193), (xm_194, 2, 2, xc_194), (xm_195, 3, 1, xc_195), (xm_196, 2, 2, xc_196), (xm_197, 3, 3, xc_197), (xm_198, 5, 3, xc_198)].all xi_cka = true := by decide +kernel
set_option maxRecDepth 100000 in
theorem xi_c_25 : [(xm_199, 1, 1, xc_199), (xm_200, 1, 1, xc_200), (xm_201, 2, 2, xc_201), (xm_202, 1, 1, xc_202), (xm_203, 3, 1, xc_203), (xm_204, 1, 1, xc_204), (xm_205, 2, 1, xc_205), (xm_206, 3, 2, xc_206), (xm_207, 4, 3, xc_207), (xm_208, 4, 2, xc_208)].all xi_cka = true := by decide +kernel
set_option maxRecDepth 100000 in
theorem xi_c_26 : [(xm_209, 4, 1, xc_209), (xm_210, 2, 1, xc_210), (xm_211, 4, 2, xc_211), (xm_212, 4, 2, xc_212)].all xi_cka = true := by decide +kernel
set_option maxRecDepth 100000 in
theorem xi_c_27 : [(xm_213, 5, 2, xc_213), (xm_214, 3, 3, xc_214), (xm_215, 3, 3, xc_215), (xm_216, 3, 3, xc_216), (xm_217, 5, 4, xc_217), (xm_218, 3, 3, xc_218), (xm_219, 6, 3, xc_219)].all xi_cka = true := by decide +kernel
set_option maxRecDepth 100000 in
theorem xi_c_28 : [(xm_220, 4, 3, xc_220), (xm_221, 2, 2, xc_221), (xm_222, 8, 3, xc_222), (xm_223, 6, 2, xc_223), (xm_224, 4, 3, xc_224), (xm_225, 2, 2, xc_225), (xm_226, 6, 3, xc_226), (xm_227, 2, 2, xc_227)].all xi_cka = true := by decide +kernel
set_option maxRecDepth 100000 in
theorem xi_c_29 : [(xm_228, 7, 4, xc_228), (xm_229, 4, 2, xc_229), (xm_230, 8, 3, xc_230)].all xi_cka = true := by decide +kernel
set_option maxRecDepth 100000 in
theorem xi_c_30 : [(xm_231, 4, 4, xc_231), (xm_232, 3, 2, xc_232), (xm_233, 1, 1, xc_233), (xm_234, 2, 1, xc_234), (xm_235, 6, 2, xc_235), (xm_236, 2, 2, xc_236), (xm_237, 8, 2, xc_237)].all xi_cka = true := by decide +kernel
set_option maxRecDepth 100000 in
theorem xi_c_31 : [(xm_238, 4, 4, xc_238), (xm_239, 8, 4, xc_239), (xm_240, 5, 2, xc_240), (xm_241, 12, 4, xc_241), (xm_242, 6, 3, xc_242), (xm_243, 10, 4, xc_243), (xm_244, 3, 3, xc_244)].all xi_cka = true := by decide +kernel
end
section
/-! the tables are the code that the Statement holds: by a program (kernel) -/
set_option maxRecDepth 100000 in
theorem xi_c_32 : [(xm_245, 8, 4, xc_245), (xm_246, 8, 3, xc_246), (xm_247, 1, 1, xc_247), (xm_248, 1, 1, xc_248), (xm_249, 1, 1, xc_249), (xm_250, 2, 2, xc_250), (xm_251, 4, 2, xc_251), (xm_252, 1, 1, xc_252)].all xi_cka = true := by decide +kernel
set_option maxRecDepth 100000 in
theorem xi_c_33 : [(xm_253, 2, 2, xc_253), (xm_254, 3, 1, xc_254), (xm_255, 2, 2, xc_255), (xm_256, 3, 1, xc_256)].all xi_cka = true := by decide +kernel
end
section
/-! the law's own code, by pieces -/
def xi_lwq : xi_M × Nat × Nat × List xi_E := (xm_257, 4, 1, xc_257)
def xi_ckr (q : xi_M × Nat × Nat × List xi_E) (i : Nat) : Bool := match q.2.2.2[i]? with
  | some e => xi_ck q.1.1 (decide (q.1.2.2.2.2.2.1 = 2)) q.1.2.2.2.1 q.1.2.2.2.2.1 (xi_pcs q.1.2.2.2.2.2.2) (xi_wsf q.1.2.2.2.2.2.2) i e
  | none => false
set_option maxRecDepth 100000 in
theorem xi_lp_0 : (List.range 48).all (fun k => xi_ckr xi_lwq (0 + k)) = true := by decide +kernel
set_option maxRecDepth 100000 in
theorem xi_lp_1 : (List.range 48).all (fun k => xi_ckr xi_lwq (48 + k)) = true := by decide +kernel
set_option maxRecDepth 100000 in
theorem xi_lp_2 : (List.range 48).all (fun k => xi_ckr xi_lwq (96 + k)) = true := by decide +kernel
set_option maxRecDepth 100000 in
theorem xi_lp_3 : (List.range 48).all (fun k => xi_ckr xi_lwq (144 + k)) = true := by decide +kernel
set_option maxRecDepth 100000 in
theorem xi_lp_4 : (List.range 48).all (fun k => xi_ckr xi_lwq (192 + k)) = true := by decide +kernel
set_option maxRecDepth 100000 in
theorem xi_lp_5 : (List.range 48).all (fun k => xi_ckr xi_lwq (240 + k)) = true := by decide +kernel
end
section
/-! the law's own code, by pieces -/
set_option maxRecDepth 100000 in
theorem xi_lp_6 : (List.range 48).all (fun k => xi_ckr xi_lwq (288 + k)) = true := by decide +kernel
set_option maxRecDepth 100000 in
theorem xi_lp_7 : (List.range 48).all (fun k => xi_ckr xi_lwq (336 + k)) = true := by decide +kernel
set_option maxRecDepth 100000 in
theorem xi_lp_8 : (List.range 48).all (fun k => xi_ckr xi_lwq (384 + k)) = true := by decide +kernel
set_option maxRecDepth 100000 in
theorem xi_lp_9 : (List.range 48).all (fun k => xi_ckr xi_lwq (432 + k)) = true := by decide +kernel
set_option maxRecDepth 100000 in
theorem xi_lp_10 : (List.range 48).all (fun k => xi_ckr xi_lwq (480 + k)) = true := by decide +kernel
set_option maxRecDepth 100000 in
theorem xi_lp_11 : (List.range 48).all (fun k => xi_ckr xi_lwq (528 + k)) = true := by decide +kernel
end
section
/-! the law's own code, by pieces -/
set_option maxRecDepth 100000 in
theorem xi_lp_12 : (List.range 48).all (fun k => xi_ckr xi_lwq (576 + k)) = true := by decide +kernel
set_option maxRecDepth 100000 in
theorem xi_lp_13 : (List.range 48).all (fun k => xi_ckr xi_lwq (624 + k)) = true := by decide +kernel
set_option maxRecDepth 100000 in
theorem xi_lp_14 : (List.range 48).all (fun k => xi_ckr xi_lwq (672 + k)) = true := by decide +kernel
set_option maxRecDepth 100000 in
theorem xi_lp_15 : (List.range 48).all (fun k => xi_ckr xi_lwq (720 + k)) = true := by decide +kernel
set_option maxRecDepth 100000 in
theorem xi_lp_16 : (List.range 48).all (fun k => xi_ckr xi_lwq (768 + k)) = true := by decide +kernel
set_option maxRecDepth 100000 in
theorem xi_lp_17 : (List.range 48).all (fun k => xi_ckr xi_lwq (816 + k)) = true := by decide +kernel
end
section
/-! the law's own code, by pieces -/
set_option maxRecDepth 100000 in
theorem xi_lp_18 : (List.range 48).all (fun k => xi_ckr xi_lwq (864 + k)) = true := by decide +kernel
set_option maxRecDepth 100000 in
theorem xi_lp_19 : (List.range 48).all (fun k => xi_ckr xi_lwq (912 + k)) = true := by decide +kernel
set_option maxRecDepth 100000 in
theorem xi_lp_20 : (List.range 48).all (fun k => xi_ckr xi_lwq (960 + k)) = true := by decide +kernel
set_option maxRecDepth 100000 in
theorem xi_lp_21 : (List.range 48).all (fun k => xi_ckr xi_lwq (1008 + k)) = true := by decide +kernel
set_option maxRecDepth 100000 in
theorem xi_lp_22 : (List.range 48).all (fun k => xi_ckr xi_lwq (1056 + k)) = true := by decide +kernel
set_option maxRecDepth 100000 in
theorem xi_lp_23 : (List.range 29).all (fun k => xi_ckr xi_lwq (1104 + k)) = true := by decide +kernel
end
section
/-! new T[n][m], out of claim/NAMES.whole.lean.txt (its first block); va_AOA is wanting in the kit: here -/
def va_AOA (ty : FieldType) (U : State) : Prop := (Cond.arrayOver (.array ty)).before #[] U = true
theorem va_AOA.use {ty : FieldType} {B : Array Value} {U : State} (h : va_AOA ty U) : (Cond.arrayOver (.array ty)).before B U = true := h
/-! ===== BEGIN new T[n][m]: the outer array a place, the inner ones among the pooled ===== -/
/-- f, but v at every address of l -/
def vr_up {α : Type} (f : Nat → α) (l : List Nat) (v : α) : Nat → α := fun a => if a ∈ l then v else f a
theorem vr_up_in {α : Type} {f : Nat → α} {l : List Nat} {v : α} {a : Nat} (h : a ∈ l) : vr_up f l v a = v := if_pos h
theorem vr_up_ne {α : Type} {f : Nat → α} {l : List Nat} {v : α} {a : Nat} (h : a ∉ l) : vr_up f l v a = f a := if_neg h
theorem vr_rows {L l : List Nat} {f : Nat → va_E} {e : va_E} (h : ∀ a, a ∈ l → a ∉ L) : va_pl L f ++ l.map (fun a => (a, e)) = va_pl (L ++ l) (vr_up f l e) := by
  unfold va_pl
  rw [List.map_append]
  congr 1
  · apply List.map_congr_left
    intro a ha
    rw [vr_up_ne (fun q => h a q ha)]
  · apply List.map_congr_left
    intro a ha
    rw [vr_up_in ha]
theorem vr_lay {X rows : va_W} {x : Nat × va_E} {pl : va_W} {D : va_G} {cl : List vw_C} {H : Heap} (hP : va_P D cl (((X ++ pl) ++ [x]) ++ rows) H) : va_P D cl ((X ++ [x]) ++ (pl ++ rows)) H := by
  rw [List.append_assoc (X ++ pl)] at hP
  have h := va_P.swap hP
  rw [← List.append_assoc X] at h
  have h2 := va_P.swap h
  rw [List.append_assoc (X ++ [x])] at h2
  exact h2
theorem vr_layD {X rows : va_W} {x : Nat × va_E} {pl : va_W} {A : Nat → Prop} (hD : va_D A (((X ++ pl) ++ [x]) ++ rows)) : va_D A ((X ++ [x]) ++ (pl ++ rows)) := by
  rw [List.append_assoc (X ++ pl)] at hD
  have h := va_D.swap hD
  rw [← List.append_assoc X] at h
  have h2 := va_D.swap h
  rw [List.append_assoc (X ++ [x])] at h2
  exact h2
theorem vr_outer (c : ClassId) (N h0 : Nat) : ∀ i : Nat, Jvm.Free.Multi.outerC c N h0 i = arrV c N (fun j => va_rf (if j < i then some (h0 + 1 + j) else none))
  | 0 => by
    show ({ cls := c, slots := Array.replicate N .null, vm := .none } : Cell) = _
    rw [arrV_new]
    refine congrArg (arrV c N) (funext fun j => ?_)
    simp [va_rf]
  | i + 1 => by
    show (Jvm.Free.Multi.outerC c N h0 i).setSlot i (.ref (h0 + 1 + i)) = _
    rw [vr_outer c N h0 i, arrV_store]
    refine congrArg (arrV c N) (funext fun j => ?_)
    by_cases e : j = i
    · subst e
      simp [updV, va_rf]
    · by_cases h : j < i
      · simp [updV, e, h, Nat.lt_succ_of_lt h]
      · simp [updV, e, h, show ¬ j < i + 1 by omega]
section VGM
variable {p : Program} {l : Launch} {e : Env} {R : Room} {s : State} {m : MethodId} {args : Array Value} {below : List Frame} {meth : Method} {c : Code} {H : Heap} {locs : List Loc} {cells slots : Nat} {Q : State → Prop}
variable {cc : ByteArray} {pc : Nat} {ls : Array Slot} {rest : List Value} {D : va_G} {cl : List vw_C} {A : Nat → Prop} {a : Nat} {tys : List (ClassId × FieldType)} {ws : va_W} {H0 : Heap}
theorem va_mna {X : va_W} {L : List Nat} {f : Nat → va_E} {cc : ByteArray} (hexec : p.tables.exec = Jvm.exec) (hb : c.code = cc) {own : String} {index : Nat} {ty : FieldType} {cy : ClassId} (hown : s.vm.findClass own = some m.cls) (hclink : (Cond.classLink own index ("[" ++ (FieldType.array ty).toString)).before args s = true) (hover : va_AOA ty s) (harr : (Cond.arrayClass ty).before args s = true) (hcy : s.vm.findClass (FieldType.array ty).toString = some cy)
    (hK : va_K D cl tys s) (hP : va_P D cl (X ++ va_pl L f) H) (hD : va_D A (X ++ va_pl L f)) (hS : va_S A H0 H locs) (hA : ∀ q, H0.size ≤ q → A q) {n k : Int32} {N' K' : Nat} {z : vp_A} (hn : ¬ n < 0) (hk : ¬ k < 0) (hN : n.toNatClampNeg = N') (hM : k.toNatClampNeg = K')
    (hb1 : N' * 4 ≤ 536870912) (hb2 : K' * componentBytes ty ≤ 536870912) (hb3 : K' ≤ 536870912) (hdf : fits ty (defaultValue ty) = true) (hdd : (defaultValue ty).isDefault = true) (hcells : cells + (1 + N') ≤ R.cells) (hslots : slots + (N' + N' * K') ≤ R.slots) (hz : ∀ c : ClassId, Jvm.Free.Multi.innerC c K' (defaultValue ty) = vp_cell c z) (hdg : decode cc pc = .ok (.multianewarray index 2, 4))
    (kk : ∀ (q : Nat) (r : Nat → Nat) (cA : ClassId) (H1 : Heap), (∀ i j : Nat, i < N' → j < N' → r i = r j → i = j) → (∀ i : Nat, i < N' → r i ∉ L) → va_K D cl (tys ++ [(cA, .array ty)]) s →
      va_P D cl ((X ++ [(q, .inl (cA, N', .inr (.inr (.inr (.inr (fun i => if i < N' then some (r i) else none))))))]) ++ va_pl (L ++ (List.range N').map r) (vr_up f ((List.range N').map r) (.inl (cy, z)))) H1 → va_D A ((X ++ [(q, .inl (cA, N', .inr (.inr (.inr (.inr (fun i => if i < N' then some (r i) else none))))))]) ++ va_pl (L ++ (List.range N').map r) (vr_up f ((List.range N').map r) (.inl (cy, z)))) → va_S A H0 H1 locs →
      W p l e R s m args below meth c H1 locs (cells + 1 + N') (slots + N' + N' * K') Q (F0 m (pc + 4) ls (.ref q :: rest))) : W p l e R s m args below meth c H locs cells slots Q (F0 m pc ls (.int k :: .int n :: rest)) := by
  subst hN
  subst hM
  intro T hT Xs
  obtain ⟨vm₁, cA, comp, -, fA, fC, hO, -, X', step⟩ := Xs.multianewarray2F hexec hown hclink (va_AOA.use hover) harr (g := F0 m pc ls (.int k :: .int n :: rest)) rfl (by rw [hb]; exact hdg) rfl hn hk hb1 hb2 hb3 hdf hdd hcells hslots
  have ec : some cy = some comp := hcy.symm.trans fC
  cases ec
  generalize hF : Jvm.Free.Multi.fill (T.setVm vm₁) cA cy n.toNatClampNeg k.toNatClampNeg (defaultValue ty) n.toNatClampNeg = F at X' step
  have hTh : (T.setVm vm₁).heap = H := hT
  obtain ⟨f1, f2, -, -⟩ := Jvm.Free.Multi.fill_facts (T.setVm vm₁) cA cy n.toNatClampNeg k.toNatClampNeg (defaultValue ty) n.toNatClampNeg
  rw [hF, hTh] at f1 f2
  have hold : ∀ x : Nat, x < H.size → F.heap[x]? = H[x]? := fun x hx => by
    have := Jvm.Free.Multi.fill_old (T.setVm vm₁) cA cy n.toNatClampNeg k.toNatClampNeg (defaultValue ty) (a := x) (by rw [hTh]; exact hx) n.toNatClampNeg
    rw [hF, hTh] at this
    exact this
  have hrow : ∀ j : Nat, j < n.toNatClampNeg → F.heap[H.size + 1 + j]? = some (vp_cell cy z) := fun j hj => by
    have := Jvm.Free.Multi.fill_inner (T.setVm vm₁) cA cy n.toNatClampNeg k.toNatClampNeg (defaultValue ty) n.toNatClampNeg j hj
    rw [hF, hTh, hz] at this
    exact this
  have hout : Jvm.Free.Multi.outerC cA n.toNatClampNeg H.size n.toNatClampNeg = vp_cell cA (n.toNatClampNeg, .inr (.inr (.inr (.inr (fun i => if i < n.toNatClampNeg then some (H.size + 1 + i) else none))))) := by
    rw [vp_cell_q]
    exact vr_outer cA n.toNatClampNeg H.size n.toNatClampNeg
  rw [hout] at f2
  have hlt : ∀ a, a ∈ L → a < H.size := fun a ha => by
    obtain ⟨k9, hk9⟩ := va_pl_get (X := X) (f := f) ha
    exact (hP k9 _ hk9).lt
  have hnl : ∀ i : Nat, i < n.toNatClampNeg → H.size + 1 + i ∉ L := fun i _ h => by
    have := hlt _ h
    omega
  have hnm : ∀ a, a ∈ (List.range n.toNatClampNeg).map (fun i => H.size + 1 + i) → a ∉ L := fun a ha h => by
    obtain ⟨i, -, rfl⟩ := List.mem_map.mp ha
    have := hlt _ h
    omega
  have hP0 : va_P D cl (X ++ va_pl L f) F.heap := hP.kept (fun k9 x hx => hold x.1 ((hP k9 x hx).lt))
  have hP1 : va_P D cl ((X ++ va_pl L f) ++ [(H.size, .inl (cA, n.toNatClampNeg, .inr (.inr (.inr (.inr (fun i => if i < n.toNatClampNeg then some (H.size + 1 + i) else none))))))]) F.heap := hP0.app (fun k9 x hx => by
    have h0 : k9 < 1 := (List.getElem?_eq_some_iff.mp hx).1
    rw [show k9 = 0 by omega] at hx
    cases hx
    exact f2)
  have hP2 : va_P D cl (((X ++ va_pl L f) ++ [(H.size, .inl (cA, n.toNatClampNeg, .inr (.inr (.inr (.inr (fun i => if i < n.toNatClampNeg then some (H.size + 1 + i) else none))))))]) ++ ((List.range n.toNatClampNeg).map (fun i => H.size + 1 + i)).map (fun a => (a, .inl (cy, z)))) F.heap := hP1.app (fun k9 x hx => by
    obtain ⟨a, ha, rfl⟩ := List.mem_map.mp (List.mem_of_getElem? hx)
    obtain ⟨i, hi, rfl⟩ := List.mem_map.mp ha
    exact hrow i (List.mem_range.mp hi))
  have hD2 : va_D A (((X ++ va_pl L f) ++ [(H.size, .inl (cA, n.toNatClampNeg, .inr (.inr (.inr (.inr (fun i => if i < n.toNatClampNeg then some (H.size + 1 + i) else none))))))]) ++ ((List.range n.toNatClampNeg).map (fun i => H.size + 1 + i)).map (fun a => (a, .inl (cy, z)))) := by
    have hD1 := hD.push (e := .inl (cA, n.toNatClampNeg, .inr (.inr (.inr (.inr (fun i => if i < n.toNatClampNeg then some (H.size + 1 + i) else none)))))) hP rfl (hA _ hS.1)
    generalize hW1 : (X ++ va_pl L f) ++ [(H.size, .inl (cA, n.toNatClampNeg, .inr (.inr (.inr (.inr (fun i => if i < n.toNatClampNeg then some (H.size + 1 + i) else none))))))] = W1 at hD1 hP1 ⊢
    have hle : ∀ (k9 : Nat) (x : Nat × va_E), W1[k9]? = some x → x.1 ≤ H.size := fun k9 x hx => by
      rw [← hW1] at hx
      by_cases hl : k9 < (X ++ va_pl L f).length
      · rw [List.getElem?_append_left hl] at hx
        exact Nat.le_of_lt ((hP k9 x hx).lt)
      · rw [List.getElem?_append_right (by omega)] at hx
        have h0 : k9 - (X ++ va_pl L f).length < 1 := (List.getElem?_eq_some_iff.mp hx).1
        rw [show k9 - (X ++ va_pl L f).length = 0 by omega] at hx
        cases hx
        exact Nat.le_refl _
    have hr : ∀ (k9 : Nat) (x : Nat × va_E), (((List.range n.toNatClampNeg).map (fun i => H.size + 1 + i)).map (fun a => ((a, .inl (cy, z)) : Nat × va_E)))[k9]? = some x → x.1 = H.size + 1 + k9 := fun k9 x hx => by
      rw [List.getElem?_map, List.getElem?_map] at hx
      by_cases h9 : k9 < n.toNatClampNeg
      · rw [List.getElem?_range h9] at hx
        cases hx
        rfl
      · have hn0 : (List.range n.toNatClampNeg)[k9]? = none := List.getElem?_eq_none (by rw [List.length_range]; omega)
        rw [hn0] at hx
        cases hx
    refine ⟨fun i j x y hi hj hxy => ?_, fun k9 x hx => ?_⟩
    · by_cases h1 : i < W1.length <;> by_cases h2 : j < W1.length
      · rw [List.getElem?_append_left h1] at hi
        rw [List.getElem?_append_left h2] at hj
        exact hD1.1 i j x y hi hj hxy
      · rw [List.getElem?_append_left h1] at hi
        rw [List.getElem?_append_right (by omega)] at hj
        have := hle _ _ hi
        have := hr _ _ hj
        omega
      · rw [List.getElem?_append_right (by omega)] at hi
        rw [List.getElem?_append_left h2] at hj
        have := hle _ _ hj
        have := hr _ _ hi
        omega
      · rw [List.getElem?_append_right (by omega)] at hi hj
        have := hr _ _ hi
        have := hr _ _ hj
        omega
    · by_cases h1 : k9 < W1.length
      · rw [List.getElem?_append_left h1] at hx
        exact hD1.2 k9 x hx
      · rw [List.getElem?_append_right (by omega)] at hx
        have := hr _ _ hx
        exact hA _ (by have := hS.1; omega)
  have hAr : ArrOfT s cA (.array ty) := fun N9 z9 => by
    obtain ⟨-, k9, hk9, cm9, hkk9⟩ := (hO 0 0 0).1
    exact ⟨(fun q hq => by cases hq), k9, hk9, cm9, hkk9⟩
  have hK2 : va_K D cl (tys ++ [(cA, .array ty)]) s := ⟨hK.1, fun k9 x hx => by
    by_cases hl : k9 < tys.length
    · rw [List.getElem?_append_left hl] at hx
      exact hK.2 k9 x hx
    · rw [List.getElem?_append_right (by omega)] at hx
      have h0 : k9 - tys.length < 1 := (List.getElem?_eq_some_iff.mp hx).1
      rw [show k9 - tys.length = 0 by omega] at hx
      cases hx
      exact ⟨hAr, fA⟩⟩
  obtain ⟨t, a1, b1⟩ := kk H.size (fun i => H.size + 1 + i) cA F.heap (fun i j _ _ h => by have h9 : H.size + 1 + i = H.size + 1 + j := h; omega) hnl hK2 (by rw [← vr_rows hnm]; exact vr_lay hP2) (by rw [← vr_rows hnm]; exact vr_layD hD2) ⟨by rw [f1]; have := hS.1; omega, fun x h1 h2 => (hold x (Nat.lt_of_lt_of_le h1 hS.1)).trans (hS.2.1 x h1 h2), hS.2.2⟩ F rfl X'
  refine ⟨t, step t ?_, b1⟩
  have e : T.heap.size = H.size := by rw [hT]
  rw [e]
  exact a1
end VGM
/-! ===== END ===== -/
end
section
/-! the store as cells of the machine -/
def xi_cv (ρ : Nat → Nat) (v : Value) : Value := match v with
  | .ref k => .ref (ρ k)
  | v => v
theorem xi_cv_cat (ρ : Nat → Nat) (v : Value) : (xi_cv ρ v).category = v.category := by cases v <;> rfl
theorem xi_cv_rf (ρ : Nat → Nat) (r : Option Nat) : xi_cv ρ (va_rf r) = va_rf (r.map ρ) := by cases r <;> rfl
theorem xi_cv_sum (ρ : Nat → Nat) (st : List Value) : ((st.map (xi_cv ρ)).map fun v => v.category).sum = (st.map fun v => v.category).sum := by
  rw [List.map_map]
  congr 1
  apply List.map_congr_left
  intro v _
  exact xi_cv_cat ρ v
def xi_fs (ρ : Nat → Nat) (S : xi_S) (k t : Nat) : List Value := (List.range (xi_nf t)).map (fun j => xi_cv ρ (xi_gv S k j (xi_kd t j)))
def xi_ec (cs : Nat → ClassId) (ρ : Nat → Nat) (S : xi_S) (k : Nat) (q : Nat × Nat) : va_E :=
  if q.1 < 9 then .inr (q.1, xi_fs ρ S k q.1) else .inl (cs q.1, q.2, if q.1 < 11 then .inl (S.2.1 k) else if q.1 = 11 then .inr (.inl (S.2.2.1 k)) else .inr (.inr (.inr (.inr (fun j => (S.2.2.2 k j).map ρ)))))
def xi_ws (cs : Nat → ClassId) (ρ : Nat → Nat) (S : xi_S) : va_W := S.1.mapIdx (fun k q => (ρ k, xi_ec cs ρ S k q))
theorem xi_ws_at {cs : Nat → ClassId} {ρ : Nat → Nat} {S : xi_S} {k : Nat} {q : Nat × Nat} (h : S.1[k]? = some q) : (xi_ws cs ρ S)[k]? = some (ρ k, xi_ec cs ρ S k q) := by
  unfold xi_ws
  rw [List.getElem?_mapIdx, h]
  rfl
theorem xi_ws_of {cs : Nat → ClassId} {ρ : Nat → Nat} {S : xi_S} {k : Nat} {x : Nat × va_E} (h : (xi_ws cs ρ S)[k]? = some x) : ∃ q, S.1[k]? = some q ∧ x = (ρ k, xi_ec cs ρ S k q) := by
  unfold xi_ws at h
  rw [List.getElem?_mapIdx] at h
  cases hq : S.1[k]? with
  | none => rw [hq] at h; cases h
  | some q => rw [hq] at h; cases h; exact ⟨q, rfl, rfl⟩
theorem xi_ec_o {cs : Nat → ClassId} {ρ : Nat → Nat} {S : xi_S} {k t n : Nat} (h : t < 9) : xi_ec cs ρ S k (t, n) = .inr (t, xi_fs ρ S k t) := by simp [xi_ec, h]
theorem xi_ec_i {cs : Nat → ClassId} {ρ : Nat → Nat} {S : xi_S} {k t n : Nat} (h : 9 ≤ t) (h2 : t < 11) : xi_ec cs ρ S k (t, n) = .inl (cs t, n, .inl (S.2.1 k)) := by simp [xi_ec, h2, show ¬ t < 9 by omega]
theorem xi_ec_l {cs : Nat → ClassId} {ρ : Nat → Nat} {S : xi_S} {k n : Nat} : xi_ec cs ρ S k (11, n) = .inl (cs 11, n, .inr (.inl (S.2.2.1 k))) := by simp [xi_ec]
theorem xi_ec_r {cs : Nat → ClassId} {ρ : Nat → Nat} {S : xi_S} {k t n : Nat} (h : 12 ≤ t) : xi_ec cs ρ S k (t, n) = .inl (cs t, n, .inr (.inr (.inr (.inr (fun j => (S.2.2.2 k j).map ρ))))) := by simp [xi_ec, show ¬ t < 9 by omega, show ¬ t < 11 by omega, show ¬ t = 11 by omega]
theorem xi_ec_eq {cs : Nat → ClassId} {ρ ρ2 : Nat → Nat} {S S2 : xi_S} {k : Nat} (h1 : S2.2.1 k = S.2.1 k) (h2 : S2.2.2.1 k = S.2.2.1 k) (h3 : S2.2.2.2 k = S.2.2.2 k) (h4 : ∀ j r, S.2.2.2 k j = some r → ρ2 r = ρ r) (q : Nat × Nat) : xi_ec cs ρ2 S2 k q = xi_ec cs ρ S k q := by
  have hr : ∀ j, (S.2.2.2 k j).map ρ2 = (S.2.2.2 k j).map ρ := fun j => by
    cases hh : S.2.2.2 k j with
    | none => rfl
    | some r => simp [h4 j r hh]
  have hg : ∀ j f, xi_cv ρ2 (xi_gv S2 k j f) = xi_cv ρ (xi_gv S k j f) := fun j f => by
    unfold xi_gv
    rw [h1, h2, h3]
    split
    · rfl
    · rfl
    · rfl
    · rw [xi_cv_rf, xi_cv_rf, hr j]
  unfold xi_ec xi_fs
  simp only [h1, h2, h3, hg, hr]
theorem xi_ws_set {cs : Nat → ClassId} {ρ : Nat → Nat} {S S2 : xi_S} {k : Nat} {q : Nat × Nat} (hs : S2.1 = S.1) (h : S.1[k]? = some q) (h1 : ∀ a, a ≠ k → S2.2.1 a = S.2.1 a) (h2 : ∀ a, a ≠ k → S2.2.2.1 a = S.2.2.1 a) (h3 : ∀ a, a ≠ k → S2.2.2.2 a = S.2.2.2 a) : xi_ws cs ρ S2 = (xi_ws cs ρ S).set k (ρ k, xi_ec cs ρ S2 k q) := by
  apply List.ext_getElem?
  intro n
  rw [List.getElem?_set]
  unfold xi_ws
  rw [List.getElem?_mapIdx, List.getElem?_mapIdx, hs, List.length_mapIdx]
  by_cases hn : k = n
  · subst hn
    have hl := (List.getElem?_eq_some_iff.mp h).1
    rw [if_pos rfl, if_pos hl, h]
    rfl
  · rw [if_neg hn]
    cases hq : S.1[n]? with
    | none => rfl
    | some x => simp only [Option.map_some]; rw [xi_ec_eq (h1 n (fun e => hn e.symm)) (h2 n (fun e => hn e.symm)) (h3 n (fun e => hn e.symm)) (fun _ _ _ => rfl)]
theorem xi_up_ne {α : Type} {f : Nat → Nat → α} {k j : Nat} {v : α} {a : Nat} (h : a ≠ k) : xi_up f k j v a = f a := by simp [xi_up, h]
theorem xi_up_at {α : Type} {f : Nat → Nat → α} {k j : Nat} {v : α} (b : Nat) : xi_up f k j v k b = if b = j then v else f k b := by simp [xi_up]
theorem xi_ua_ne {α : Type} {f : Nat → Nat → α} {k : Nat} {g : Nat → α} {a : Nat} (h : a ≠ k) : xi_ua f k g a = f a := by simp [xi_ua, h]
theorem xi_ua_at {α : Type} {f : Nat → Nat → α} {k : Nat} {g : Nat → α} : xi_ua f k g k = g := by simp [xi_ua]
theorem xi_fs_len {ρ : Nat → Nat} {S : xi_S} {k t : Nat} : (xi_fs ρ S k t).length = xi_nf t := by simp [xi_fs]
theorem xi_fs_at {ρ : Nat → Nat} {S : xi_S} {k t j : Nat} (h : j < xi_nf t) : (xi_fs ρ S k t)[j]? = some (xi_cv ρ (xi_gv S k j (xi_kd t j))) := by
  unfold xi_fs
  rw [List.getElem?_map, List.getElem?_range h]
  rfl
/-- one field changed -/
theorem xi_fs_set {ρ : Nat → Nat} {S S2 : xi_S} {k t j : Nat} {v : Value} (h : j < xi_nf t) (hv : xi_cv ρ (xi_gv S2 k j (xi_kd t j)) = v) (ho : ∀ b, b ≠ j → S2.2.1 k b = S.2.1 k b ∧ S2.2.2.1 k b = S.2.2.1 k b ∧ S2.2.2.2 k b = S.2.2.2 k b) : xi_fs ρ S2 k t = (xi_fs ρ S k t).set j v := by
  apply List.ext_getElem?
  intro n
  rw [List.getElem?_set, xi_fs_len]
  by_cases hn : j = n
  · subst hn
    rw [if_pos rfl, if_pos h, xi_fs_at h, hv]
  · rw [if_neg hn]
    by_cases hl : n < xi_nf t
    · rw [xi_fs_at hl, xi_fs_at hl]
      obtain ⟨e1, e2, e3⟩ := ho n (fun e => hn e.symm)
      unfold xi_gv
      rw [e1, e2, e3]
    · rw [List.getElem?_eq_none (by rw [xi_fs_len]; omega), List.getElem?_eq_none (by rw [xi_fs_len]; omega)]
/-- references stay within -/
def xi_wf (S : xi_S) : Prop := ∀ k j r, k < S.1.length → S.2.2.2 k j = some r → r < S.1.length
def xi_wv (N : Nat) (v : Value) : Prop := match v with
  | .ref k => k < N ∨ 1000000 ≤ k
  | .double _ => False
  | _ => True
def xi_wst (N : Nat) (st : List Value) : Prop := ∀ v ∈ st, xi_wv N v
def xi_wls (N : Nat) (ls : xi_L) : Prop := ∀ v, some v ∈ ls → xi_wv N v
theorem xi_wv.mono {N N2 : Nat} (h : N ≤ N2) {v : Value} (hv : xi_wv N v) : xi_wv N2 v := by
  cases v with
  | ref k => exact (show k < N ∨ 1000000 ≤ k from hv).elim (fun h1 => Or.inl (Nat.lt_of_lt_of_le h1 h)) Or.inr
  | _ => exact hv
theorem xi_wst.mono {N N2 : Nat} (h : N ≤ N2) {st : List Value} (hv : xi_wst N st) : xi_wst N2 st := fun v hm => (hv v hm).mono h
theorem xi_wls.mono {N N2 : Nat} (h : N ≤ N2) {st : xi_L} (hv : xi_wls N st) : xi_wls N2 st := fun v hm => (hv v hm).mono h
theorem xi_wst.cons {N : Nat} {v : Value} {st : List Value} (h : xi_wv N v) (hs : xi_wst N st) : xi_wst N (v :: st) := by
  intro x hx
  rcases List.mem_cons.mp hx with rfl | hx
  · exact h
  · exact hs x hx
theorem xi_wst.tail {N : Nat} {v : Value} {st : List Value} (hs : xi_wst N (v :: st)) : xi_wst N st := fun x hx => hs x (List.mem_cons_of_mem _ hx)
theorem xi_wst.head {N : Nat} {v : Value} {st : List Value} (hs : xi_wst N (v :: st)) : xi_wv N v := hs v List.mem_cons_self
theorem xi_cv_eq {N : Nat} {ρ ρ2 : Nat → Nat} (h : ∀ k, k < N ∨ 1000000 ≤ k → ρ2 k = ρ k) {v : Value} (hv : xi_wv N v) : xi_cv ρ2 v = xi_cv ρ v := by
  cases v <;> simp_all [xi_cv, xi_wv]
theorem xi_cv_map {N : Nat} {ρ ρ2 : Nat → Nat} (h : ∀ k, k < N ∨ 1000000 ≤ k → ρ2 k = ρ k) {st : List Value} (hv : xi_wst N st) : st.map (xi_cv ρ2) = st.map (xi_cv ρ) := List.map_congr_left fun v hm => xi_cv_eq h (hv v hm)
/-- the locals -/
def xi_lr (ρ : Nat → Nat) (N : Nat) (ls : xi_L) (lsC : Array Slot) (nL : Nat) : Prop := ls.length = nL ∧ lsC.size = nL ∧ lv_wf lsC ∧ xi_wls N ls ∧ ∀ (j : Nat) (v : Value), ls[j]? = some (some v) → lsC[j]? = some (Slot.val (xi_cv ρ v))
def xi_lv (ρ : Nat → Nat) (ls : xi_L) : List (Nat × Value) := (List.range ls.length).filterMap (fun j => match ls[j]? with
  | some (some v) => some (j, xi_cv ρ v)
  | _ => none)
theorem xi_lv_mem {ρ : Nat → Nat} {ls : xi_L} {q : Nat × Value} : q ∈ xi_lv ρ ls ↔ ∃ v, ls[q.1]? = some (some v) ∧ q.2 = xi_cv ρ v := by
  unfold xi_lv
  rw [List.mem_filterMap]
  constructor
  · rintro ⟨j, -, h⟩
    split at h
    · next v hv => cases h; exact ⟨v, hv, rfl⟩
    · cases h
  · rintro ⟨v, hv, h2⟩
    refine ⟨q.1, List.mem_range.mpr (List.getElem?_eq_some_iff.mp hv).1, ?_⟩
    rw [hv]
    show some (q.1, xi_cv ρ v) = some q
    rw [← h2]
theorem xi_lr.has {ρ : Nat → Nat} {N : Nat} {ls : xi_L} {lsC : Array Slot} {nL : Nat} (h : xi_lr ρ N ls lsC nL) : lv_has lsC nL (xi_lv ρ ls) := by
  refine ⟨h.2.1, h.2.2.1, fun q hq => ?_⟩
  obtain ⟨v, hv, h2⟩ := xi_lv_mem.mp hq
  rw [h2]
  exact h.2.2.2.2 q.1 v hv
theorem xi_lr.of {ρ : Nat → Nat} {N : Nat} {ls : xi_L} {lsC : Array Slot} {nL : Nat} {lv : List (Nat × Value)} (hn : ls.length = nL) (hw : xi_wls N ls) (h : lv_has lsC nL lv) (hm : ∀ q ∈ xi_lv ρ ls, q ∈ lv) : xi_lr ρ N ls lsC nL :=
  ⟨hn, h.1, h.2.1, hw, fun j v hv => h.2.2 (j, xi_cv ρ v) (hm _ (xi_lv_mem.mpr ⟨v, hv, rfl⟩))⟩
theorem xi_sl_len (ls : xi_L) (k : Nat) (v : Value) : (xi_sl ls k v).length = ls.length := by
  unfold xi_sl
  split
  · simp
  · split <;> simp
theorem xi_sl_at {ls : xi_L} {k : Nat} {v : Value} {j : Nat} {u : Value} (h : (xi_sl ls k v)[j]? = some (some u)) : (j = k ∧ u = v) ∨ (j ≠ k ∧ ls[j]? = some (some u) ∧ ¬ (j + 1 = k ∧ u.category = 2 ∧ ∃ z, u = .long z)) := by
  unfold xi_sl at h
  split at h
  · rw [List.getElem?_set] at h
    by_cases hj : 0 = j
    · subst hj
      simp at h
      exact Or.inl ⟨rfl, h.2.symm⟩
    · rw [if_neg hj] at h
      exact Or.inr ⟨fun e => hj e.symm, h, fun e => by omega⟩
  · next k =>
    split at h
    · next z hz =>
      rw [List.getElem?_set, List.getElem?_set] at h
      by_cases hj : k + 1 = j
      · subst hj
        simp at h
        exact Or.inl ⟨rfl, h.2.symm⟩
      · rw [if_neg hj] at h
        by_cases hj2 : k = j
        · rw [if_pos hj2] at h
          split at h <;> cases h
        · rw [if_neg hj2] at h
          exact Or.inr ⟨fun e => hj e.symm, h, fun e => by omega⟩
    · next hz =>
      rw [List.getElem?_set] at h
      by_cases hj : k + 1 = j
      · subst hj
        simp at h
        exact Or.inl ⟨rfl, h.2.symm⟩
      · rw [if_neg hj] at h
        refine Or.inr ⟨fun e => hj e.symm, h, ?_⟩
        rintro ⟨e, -, z, rfl⟩
        have : j = k := by omega
        subst this
        exact hz z h
end
section
/-! A STEP of the interpreter is a step of the machine -/
def xi_ts (cs : Nat → ClassId) : List (ClassId × FieldType) := [(cs 9, .int), (cs 10, .byte), (cs 11, .long), (cs 12, .object "GuineaHours$Day"), (cs 13, .array .byte), (cs 14, .array .int)]
theorem xi_ts_at (cs : Nat → ClassId) {t : Nat} (h : 9 ≤ t) (h2 : t ≤ 14) : (xi_ts cs)[t - 9]? = some (cs t, xi_at t) := by
  rcases (show t = 9 ∨ t = 10 ∨ t = 11 ∨ t = 12 ∨ t = 13 ∨ t = 14 by omega) with rfl | rfl | rfl | rfl | rfl | rfl <;> rfl
def xi_ro (scr : xi_X) (ρ : Nat → Nat) (A : Nat → Prop) (s : State) (H : Heap) : Prop :=
  va_T .byte (ρ 1000000) 6 (fun i => .int (xi_letters i)) A s H ∧ va_T .int (ρ 1000001) 6 (fun i => .int (xi_extra i)) A s H ∧ va_T .int (ρ 1000002) scr.1 (fun i => .int (scr.2 i)) A s H ∧
  va_Z "GuineaHours" "KIND_LETTERS" "[B" (.ref (ρ 1000000)) A s H ∧ va_Z "GuineaHours" "KIND_EXTRA" "[I" (.ref (ρ 1000001)) A s H
def xi_sz (S : xi_S) : Nat := (S.1.map (fun q => q.2)).sum
/-- the store stands in the heap -/
def xi_wr (D : va_G) (cs : Nat → ClassId) (scr : xi_X) (A : Nat → Prop) (s : State) (ρ0 : Nat → Nat) (N0 L0 cells slots : Nat) (ρ : Nat → Nat) (S : xi_S) (H : Heap) (locs : List Loc) : Prop :=
  va_K D xi_cl (xi_ts cs) s ∧ va_P D xi_cl (xi_ws cs ρ S) H ∧ va_D A (xi_ws cs ρ S) ∧ va_S A s.heap H locs ∧ (∀ q, s.heap.size ≤ q → A q) ∧ xi_ro scr ρ0 A s s.heap ∧ xi_wf S ∧ (∀ k, k < N0 ∨ 1000000 ≤ k → ρ k = ρ0 k) ∧ S.1.length = N0 + cells ∧ xi_sz S = L0 + slots
/-- from here the machine comes to Q -/
def xi_G (p : Program) (l : Launch) (en : Env) (R : Room) (s : State) (m : MethodId) (args : Array Value) (below : List Frame) (meth : Method) (c : Code) (Q : State → Prop) (D : va_G) (cs : Nat → ClassId) (scr : xi_X) (A : Nat → Prop) (nL : Nat) (ρ0 : Nat → Nat) (N0 L0 : Nat) (pc : Nat) (ls : xi_L) (st : List Value) (S : xi_S) : Prop :=
  ∀ (ρ : Nat → Nat) (H : Heap) (locs : List Loc) (cells slots : Nat) (lsC : Array Slot), xi_wr D cs scr A s ρ0 N0 L0 cells slots ρ S H locs → xi_lr ρ S.1.length ls lsC nL → xi_wst S.1.length st →
    W p l en R s m args below meth c H locs cells slots Q (F0 m pc lsC (st.map (xi_cv ρ)))
section XIS
variable {p : Program} {l : Launch} {en : Env} {R : Room} {s : State} {m : MethodId} {args : Array Value} {below : List Frame} {meth : Method} {c : Code} {Q : State → Prop} {D : va_G} {cs : Nat → ClassId} {scr : xi_X} {A : Nat → Prop} {nL : Nat} {ρ0 : Nat → Nat} {N0 L0 : Nat} {cc : ByteArray} {pcs : Nat → Nat} {i i2 : Nat} {ls ls2 : xi_L} {st st2 : List Value} {S S2 : xi_S} {nf : List Nat} {k1 : Int32} {k2 : Int64}
theorem xi_dn_of {e : xi_E} {len : Nat} (h : xi_dn cc pcs i e len = true) : decode cc (pcs i) = .ok (e.1, len) ∧ pcs (i + 1) = pcs i + len := by
  simpa [xi_dn, xi_d] using h
theorem xi_s_iconst (hx : p.tables.exec = Jvm.exec) (hb : c.code = cc) {n : Int} (hd : xi_dn cc pcs i (.iconst n, nf, k1, k2) 1 = true) (hv : Int32.ofInt n = k1) (h : xi_stp scr (.iconst n, nf, k1, k2) i ls st S = some (i2, ls2, st2, S2)) (k : xi_G p l en R s m args below meth c Q D cs scr A nL ρ0 N0 L0 (pcs i2) ls2 (st2) S2) : xi_G p l en R s m args below meth c Q D cs scr A nL ρ0 N0 L0 (pcs i) ls (st) S := by
  obtain ⟨hd, hn⟩ := xi_dn_of hd
  simp only [xi_stp, Option.some.injEq, Prod.mk.injEq] at h
  obtain ⟨rfl, rfl, rfl, rfl⟩ := h
  intro ρ H locs cells slots lsC hw hl hs
  rw [hn] at k
  exact lv_iconst hx hb hd hv (k ρ H locs cells slots lsC hw hl (hs.cons trivial))
theorem xi_s_bipush (hx : p.tables.exec = Jvm.exec) (hb : c.code = cc) {n : Int} (hd : xi_dn cc pcs i (.bipush n, nf, k1, k2) 2 = true) (hv : (Int8.ofInt n).toInt32 = k1) (h : xi_stp scr (.bipush n, nf, k1, k2) i ls st S = some (i2, ls2, st2, S2)) (k : xi_G p l en R s m args below meth c Q D cs scr A nL ρ0 N0 L0 (pcs i2) ls2 (st2) S2) : xi_G p l en R s m args below meth c Q D cs scr A nL ρ0 N0 L0 (pcs i) ls (st) S := by
  obtain ⟨hd, hn⟩ := xi_dn_of hd
  simp only [xi_stp, Option.some.injEq, Prod.mk.injEq] at h
  obtain ⟨rfl, rfl, rfl, rfl⟩ := h
  intro ρ H locs cells slots lsC hw hl hs
  rw [hn] at k
  exact lv_bipush hx hb hd hv (k ρ H locs cells slots lsC hw hl (hs.cons trivial))
theorem xi_s_sipush (hx : p.tables.exec = Jvm.exec) (hb : c.code = cc) {n : Int} (hd : xi_dn cc pcs i (.sipush n, nf, k1, k2) 3 = true) (hv : (Int16.ofInt n).toInt32 = k1) (h : xi_stp scr (.sipush n, nf, k1, k2) i ls st S = some (i2, ls2, st2, S2)) (k : xi_G p l en R s m args below meth c Q D cs scr A nL ρ0 N0 L0 (pcs i2) ls2 (st2) S2) : xi_G p l en R s m args below meth c Q D cs scr A nL ρ0 N0 L0 (pcs i) ls (st) S := by
  obtain ⟨hd, hn⟩ := xi_dn_of hd
  simp only [xi_stp, Option.some.injEq, Prod.mk.injEq] at h
  obtain ⟨rfl, rfl, rfl, rfl⟩ := h
  intro ρ H locs cells slots lsC hw hl hs
  rw [hn] at k
  exact lv_sipush hx hb hd hv (k ρ H locs cells slots lsC hw hl (hs.cons trivial))
theorem xi_s_lconst (hx : p.tables.exec = Jvm.exec) (hb : c.code = cc) {n : Fin 2} (hd : xi_dn cc pcs i (.lconst n, nf, k1, k2) 1 = true) (hv : Int64.ofNat (n : Nat) = k2) (h : xi_stp scr (.lconst n, nf, k1, k2) i ls st S = some (i2, ls2, st2, S2)) (k : xi_G p l en R s m args below meth c Q D cs scr A nL ρ0 N0 L0 (pcs i2) ls2 (st2) S2) : xi_G p l en R s m args below meth c Q D cs scr A nL ρ0 N0 L0 (pcs i) ls (st) S := by
  obtain ⟨hd, hn⟩ := xi_dn_of hd
  simp only [xi_stp, Option.some.injEq, Prod.mk.injEq] at h
  obtain ⟨rfl, rfl, rfl, rfl⟩ := h
  intro ρ H locs cells slots lsC hw hl hs
  rw [hn] at k
  exact lv_lconst hx hb hd hv (k ρ H locs cells slots lsC hw hl (hs.cons trivial))
theorem xi_s_ldcw (hx : p.tables.exec = Jvm.exec) (hb : c.code = cc) {own : String} (hown : s.vm.findClass own = some m.cls) {n : Nat} (hd : xi_dn cc pcs i (.ldc_w n, nf, k1, k2) 3 = true) (hv : (Jvm.Cond.constant own n k1).before args s = true) (h : xi_stp scr (.ldc_w n, nf, k1, k2) i ls st S = some (i2, ls2, st2, S2)) (k : xi_G p l en R s m args below meth c Q D cs scr A nL ρ0 N0 L0 (pcs i2) ls2 (st2) S2) : xi_G p l en R s m args below meth c Q D cs scr A nL ρ0 N0 L0 (pcs i) ls (st) S := by
  obtain ⟨hd, hn⟩ := xi_dn_of hd
  simp only [xi_stp, Option.some.injEq, Prod.mk.injEq] at h
  obtain ⟨rfl, rfl, rfl, rfl⟩ := h
  intro ρ H locs cells slots lsC hw hl hs
  rw [hn] at k
  exact lv_ldcw hx hb hown hv hd (k ρ H locs cells slots lsC hw hl (hs.cons trivial))
theorem xi_s_ldc2 (hx : p.tables.exec = Jvm.exec) (hb : c.code = cc) {own : String} (hown : s.vm.findClass own = some m.cls) {n : Nat} (hd : xi_dn cc pcs i (.ldc2_w n, nf, k1, k2) 3 = true) (hv : (Jvm.Cond.constantLong own n k2).before args s = true) (h : xi_stp scr (.ldc2_w n, nf, k1, k2) i ls st S = some (i2, ls2, st2, S2)) (k : xi_G p l en R s m args below meth c Q D cs scr A nL ρ0 N0 L0 (pcs i2) ls2 (st2) S2) : xi_G p l en R s m args below meth c Q D cs scr A nL ρ0 N0 L0 (pcs i) ls (st) S := by
  obtain ⟨hd, hn⟩ := xi_dn_of hd
  simp only [xi_stp, Option.some.injEq, Prod.mk.injEq] at h
  obtain ⟨rfl, rfl, rfl, rfl⟩ := h
  intro ρ H locs cells slots lsC hw hl hs
  rw [hn] at k
  exact lv_ldc2 hx hb hown hv hd (k ρ H locs cells slots lsC hw hl (hs.cons trivial))
theorem xi_s_iload (hx : p.tables.exec = Jvm.exec) (hb : c.code = cc) {n : Nat} (hd : xi_dn cc pcs i (.iload n, nf, k1, k2) 2 = true) (hv : n = xi_k (.iload n, nf, k1, k2)) (h : xi_stp scr (.iload n, nf, k1, k2) i ls st S = some (i2, ls2, st2, S2)) (k : xi_G p l en R s m args below meth c Q D cs scr A nL ρ0 N0 L0 (pcs i2) ls2 (st2) S2) : xi_G p l en R s m args below meth c Q D cs scr A nL ρ0 N0 L0 (pcs i) ls (st) S := by
  obtain ⟨hd, hn⟩ := xi_dn_of hd
  simp only [xi_stp, xi_lod, ← hv] at h
  split at h
  · next x hj =>
    simp only [Option.some.injEq, Prod.mk.injEq] at h
    obtain ⟨rfl, rfl, rfl, rfl⟩ := h
    intro ρ H locs cells slots lsC hw hl hs
    rw [hn] at k
    exact lv_iload hx hb hd (hl.2.2.2.2 _ _ hj) (k ρ H locs cells slots lsC hw hl (hs.cons trivial))
  · cases h
theorem xi_s_iload_n (hx : p.tables.exec = Jvm.exec) (hb : c.code = cc) {n : Fin 4} (hd : xi_dn cc pcs i (.iload_n n, nf, k1, k2) 1 = true) (hv : n.val = xi_k (.iload_n n, nf, k1, k2)) (h : xi_stp scr (.iload_n n, nf, k1, k2) i ls st S = some (i2, ls2, st2, S2)) (k : xi_G p l en R s m args below meth c Q D cs scr A nL ρ0 N0 L0 (pcs i2) ls2 (st2) S2) : xi_G p l en R s m args below meth c Q D cs scr A nL ρ0 N0 L0 (pcs i) ls (st) S := by
  obtain ⟨hd, hn⟩ := xi_dn_of hd
  simp only [xi_stp, xi_lod, ← hv] at h
  split at h
  · next x hj =>
    simp only [Option.some.injEq, Prod.mk.injEq] at h
    obtain ⟨rfl, rfl, rfl, rfl⟩ := h
    intro ρ H locs cells slots lsC hw hl hs
    rw [hn] at k
    exact lv_iload_n hx hb hd rfl (hl.2.2.2.2 _ _ hj) (k ρ H locs cells slots lsC hw hl (hs.cons trivial))
  · cases h
theorem xi_s_lload (hx : p.tables.exec = Jvm.exec) (hb : c.code = cc) {n : Nat} (hd : xi_dn cc pcs i (.lload n, nf, k1, k2) 2 = true) (hv : n = xi_k (.lload n, nf, k1, k2)) (h : xi_stp scr (.lload n, nf, k1, k2) i ls st S = some (i2, ls2, st2, S2)) (k : xi_G p l en R s m args below meth c Q D cs scr A nL ρ0 N0 L0 (pcs i2) ls2 (st2) S2) : xi_G p l en R s m args below meth c Q D cs scr A nL ρ0 N0 L0 (pcs i) ls (st) S := by
  obtain ⟨hd, hn⟩ := xi_dn_of hd
  simp only [xi_stp, xi_loL, ← hv] at h
  split at h
  · next x hj =>
    simp only [Option.some.injEq, Prod.mk.injEq] at h
    obtain ⟨rfl, rfl, rfl, rfl⟩ := h
    intro ρ H locs cells slots lsC hw hl hs
    rw [hn] at k
    exact lv_lload hx hb hd (hl.2.2.2.2 _ _ hj) (k ρ H locs cells slots lsC hw hl (hs.cons trivial))
  · cases h
theorem xi_s_lload_n (hx : p.tables.exec = Jvm.exec) (hb : c.code = cc) {n : Fin 4} (hd : xi_dn cc pcs i (.lload_n n, nf, k1, k2) 1 = true) (hv : n.val = xi_k (.lload_n n, nf, k1, k2)) (h : xi_stp scr (.lload_n n, nf, k1, k2) i ls st S = some (i2, ls2, st2, S2)) (k : xi_G p l en R s m args below meth c Q D cs scr A nL ρ0 N0 L0 (pcs i2) ls2 (st2) S2) : xi_G p l en R s m args below meth c Q D cs scr A nL ρ0 N0 L0 (pcs i) ls (st) S := by
  obtain ⟨hd, hn⟩ := xi_dn_of hd
  simp only [xi_stp, xi_loL, ← hv] at h
  split at h
  · next x hj =>
    simp only [Option.some.injEq, Prod.mk.injEq] at h
    obtain ⟨rfl, rfl, rfl, rfl⟩ := h
    intro ρ H locs cells slots lsC hw hl hs
    rw [hn] at k
    exact lv_lload_n hx hb hd rfl (hl.2.2.2.2 _ _ hj) (k ρ H locs cells slots lsC hw hl (hs.cons trivial))
  · cases h
theorem xi_s_aload_n (hx : p.tables.exec = Jvm.exec) (hb : c.code = cc) {n : Fin 4} (hd : xi_dn cc pcs i (.aload_n n, nf, k1, k2) 1 = true) (hv : n.val = xi_k (.aload_n n, nf, k1, k2)) (h : xi_stp scr (.aload_n n, nf, k1, k2) i ls st S = some (i2, ls2, st2, S2)) (k : xi_G p l en R s m args below meth c Q D cs scr A nL ρ0 N0 L0 (pcs i2) ls2 (st2) S2) : xi_G p l en R s m args below meth c Q D cs scr A nL ρ0 N0 L0 (pcs i) ls (st) S := by
  obtain ⟨hd, hn⟩ := xi_dn_of hd
  simp only [xi_stp, xi_loA, ← hv] at h
  split at h
  · next x hj =>
    simp only [Option.some.injEq, Prod.mk.injEq] at h
    obtain ⟨rfl, rfl, rfl, rfl⟩ := h
    intro ρ H locs cells slots lsC hw hl hs
    rw [hn] at k
    exact lv_aload_n hx hb hd rfl (hl.2.2.2.2 _ _ hj) (k ρ H locs cells slots lsC hw hl (hs.cons (hl.2.2.2.1 _ (List.mem_of_getElem? hj))))
  · cases h
theorem xi_lr_sl {ρ : Nat → Nat} {N : Nat} {lsC ls' : Array Slot} {k : Nat} {v : Value} (hl : xi_lr ρ N ls lsC nL) (hv : xi_wv N v) (hc : v.category = 1) (hl2 : lv_has ls' nL ((k, xi_cv ρ v) :: (xi_lv ρ ls).filter (fun q => !(q.1 == k) && !(q.1 + 1 == k && q.2.category == 2)))) : xi_lr ρ N (xi_sl ls k v) ls' nL := by
  refine xi_lr.of (by rw [xi_sl_len]; exact hl.1) (fun u hu => ?_) hl2 (fun q hq => ?_)
  · obtain ⟨j, hj⟩ := List.getElem?_of_mem hu
    rcases xi_sl_at hj with ⟨-, rfl⟩ | ⟨-, h, -⟩
    · exact hv
    · exact hl.2.2.2.1 u (List.mem_of_getElem? h)
  · obtain ⟨u, hu, h2⟩ := xi_lv_mem.mp hq
    rcases xi_sl_at hu with ⟨h3, rfl⟩ | ⟨h3, h, h4⟩
    · rw [← h3, ← h2]
      exact List.mem_cons_self
    · refine List.mem_cons_of_mem _ (List.mem_filter.mpr ⟨xi_lv_mem.mpr ⟨u, h, h2⟩, ?_⟩)
      rw [h2, xi_cv_cat]
      have hb : ¬ (q.1 + 1 = k ∧ u.category = 2) := fun e => by
        refine h4 ⟨e.1, e.2, ?_⟩
        cases u with
        | long z => exact ⟨z, rfl⟩
        | double z => exact (show False from hl.2.2.2.1 _ (List.mem_of_getElem? h)).elim
        | _ => cases e.2
      simp only [Bool.and_eq_true, Bool.not_eq_true', beq_eq_false_iff_ne, ne_eq, Bool.and_eq_false_iff]
      refine ⟨h3, ?_⟩
      by_cases h5 : q.1 + 1 = k
      · exact Or.inr (fun e => hb ⟨h5, e⟩)
      · exact Or.inl h5
theorem xi_s_istore (hx : p.tables.exec = Jvm.exec) (hb : c.code = cc) {n : Nat} (hd : xi_dn cc pcs i (.istore n, nf, k1, k2) 2 = true) (hv : n = xi_k (.istore n, nf, k1, k2)) (h : xi_stp scr (.istore n, nf, k1, k2) i ls st S = some (i2, ls2, st2, S2)) (k : xi_G p l en R s m args below meth c Q D cs scr A nL ρ0 N0 L0 (pcs i2) ls2 (st2) S2) : xi_G p l en R s m args below meth c Q D cs scr A nL ρ0 N0 L0 (pcs i) ls (st) S := by
  obtain ⟨hd, hn⟩ := xi_dn_of hd
  simp only [xi_stp, xi_sto, ← hv] at h
  split at h
  · next x r =>
    split at h
    · next hlt =>
      simp only [Option.some.injEq, Prod.mk.injEq] at h
      obtain ⟨rfl, rfl, rfl, rfl⟩ := h
      intro ρ H locs cells slots lsC hw hl hs
      rw [hn] at k
      exact lv_istore hx hb hd hl.has (by rw [← hl.1]; exact hlt) rfl (fun ls' hl2 => k ρ H locs cells slots ls' hw (xi_lr_sl (v := .int x) hl trivial rfl hl2) hs.tail)
    · cases h
  · cases h
theorem xi_s_istore_n (hx : p.tables.exec = Jvm.exec) (hb : c.code = cc) {n : Fin 4} (hd : xi_dn cc pcs i (.istore_n n, nf, k1, k2) 1 = true) (hv : n.val = xi_k (.istore_n n, nf, k1, k2)) (h : xi_stp scr (.istore_n n, nf, k1, k2) i ls st S = some (i2, ls2, st2, S2)) (k : xi_G p l en R s m args below meth c Q D cs scr A nL ρ0 N0 L0 (pcs i2) ls2 (st2) S2) : xi_G p l en R s m args below meth c Q D cs scr A nL ρ0 N0 L0 (pcs i) ls (st) S := by
  obtain ⟨hd, hn⟩ := xi_dn_of hd
  simp only [xi_stp, xi_sto, ← hv] at h
  split at h
  · next x r =>
    split at h
    · next hlt =>
      simp only [Option.some.injEq, Prod.mk.injEq] at h
      obtain ⟨rfl, rfl, rfl, rfl⟩ := h
      intro ρ H locs cells slots lsC hw hl hs
      rw [hn] at k
      exact lv_istore_n hx hb hd rfl hl.has (by rw [← hl.1]; exact hlt) rfl (fun ls' hl2 => k ρ H locs cells slots ls' hw (xi_lr_sl (v := .int x) hl trivial rfl hl2) hs.tail)
    · cases h
  · cases h
theorem xi_s_astore_n (hx : p.tables.exec = Jvm.exec) (hb : c.code = cc) {n : Fin 4} (hd : xi_dn cc pcs i (.astore_n n, nf, k1, k2) 1 = true) (hv : n.val = xi_k (.astore_n n, nf, k1, k2)) (h : xi_stp scr (.astore_n n, nf, k1, k2) i ls st S = some (i2, ls2, st2, S2)) (k : xi_G p l en R s m args below meth c Q D cs scr A nL ρ0 N0 L0 (pcs i2) ls2 (st2) S2) : xi_G p l en R s m args below meth c Q D cs scr A nL ρ0 N0 L0 (pcs i) ls (st) S := by
  obtain ⟨hd, hn⟩ := xi_dn_of hd
  simp only [xi_stp, xi_stA, ← hv] at h
  split at h
  · next x r =>
    split at h
    · next hlt =>
      simp only [Option.some.injEq, Prod.mk.injEq] at h
      obtain ⟨rfl, rfl, rfl, rfl⟩ := h
      intro ρ H locs cells slots lsC hw hl hs
      rw [hn] at k
      exact lv_astore_n hx hb hd rfl hl.has (by rw [← hl.1]; exact hlt) rfl (fun ls' hl2 => k ρ H locs cells slots ls' hw (xi_lr_sl (v := .ref x) hl hs.head rfl hl2) hs.tail)
    · cases h
  · cases h
theorem xi_lr_sL {ρ : Nat → Nat} {N : Nat} {lsC ls' : Array Slot} {k : Nat} {v : Value} (hl : xi_lr ρ N ls lsC nL) (hv : xi_wv N v) (hl2 : lv_has ls' nL ((k, xi_cv ρ v) :: (xi_lv ρ ls).filter (fun q => !(q.1 == k) && (!(q.1 == k + 1) && !(q.1 + 1 == k && q.2.category == 2))))) : xi_lr ρ N (xi_sL ls k v) ls' nL := by
  have key : ∀ (j : Nat) (u : Value), (xi_sL ls k v)[j]? = some (some u) → j ≠ k + 1 ∧ (xi_sl ls k v)[j]? = some (some u) := by
    intro j u h
    unfold xi_sL at h
    rw [List.getElem?_set] at h
    by_cases e : k + 1 = j
    · rw [if_pos e] at h
      split at h <;> cases h
    · rw [if_neg e] at h
      exact ⟨fun e2 => e e2.symm, h⟩
  refine xi_lr.of (by unfold xi_sL; rw [List.length_set, xi_sl_len]; exact hl.1) (fun u hu => ?_) hl2 (fun q hq => ?_)
  · obtain ⟨j, hj⟩ := List.getElem?_of_mem hu
    rcases xi_sl_at (key j u hj).2 with ⟨-, rfl⟩ | ⟨-, h, -⟩
    · exact hv
    · exact hl.2.2.2.1 u (List.mem_of_getElem? h)
  · obtain ⟨u, hu, h2⟩ := xi_lv_mem.mp hq
    obtain ⟨h6, hu⟩ := key _ _ hu
    rcases xi_sl_at hu with ⟨h3, rfl⟩ | ⟨h3, h, h4⟩
    · rw [← h3, ← h2]
      exact List.mem_cons_self
    · refine List.mem_cons_of_mem _ (List.mem_filter.mpr ⟨xi_lv_mem.mpr ⟨u, h, h2⟩, ?_⟩)
      rw [h2, xi_cv_cat]
      have hb : ¬ (q.1 + 1 = k ∧ u.category = 2) := fun e => by
        refine h4 ⟨e.1, e.2, ?_⟩
        cases u with
        | long z => exact ⟨z, rfl⟩
        | double z => exact (show False from hl.2.2.2.1 _ (List.mem_of_getElem? h)).elim
        | _ => cases e.2
      simp only [Bool.and_eq_true, Bool.not_eq_true', beq_eq_false_iff_ne, ne_eq, Bool.and_eq_false_iff]
      refine ⟨h3, h6, ?_⟩
      by_cases h5 : q.1 + 1 = k
      · exact Or.inr (fun e => hb ⟨h5, e⟩)
      · exact Or.inl h5
theorem xi_s_lstore (hx : p.tables.exec = Jvm.exec) (hb : c.code = cc) {n : Nat} (hd : xi_dn cc pcs i (.lstore n, nf, k1, k2) 2 = true) (hv : n = xi_k (.lstore n, nf, k1, k2)) (h : xi_stp scr (.lstore n, nf, k1, k2) i ls st S = some (i2, ls2, st2, S2)) (k : xi_G p l en R s m args below meth c Q D cs scr A nL ρ0 N0 L0 (pcs i2) ls2 (st2) S2) : xi_G p l en R s m args below meth c Q D cs scr A nL ρ0 N0 L0 (pcs i) ls (st) S := by
  obtain ⟨hd, hn⟩ := xi_dn_of hd
  simp only [xi_stp, xi_stL, ← hv] at h
  split at h
  · next x r =>
    split at h
    · next hlt =>
      simp only [Option.some.injEq, Prod.mk.injEq] at h
      obtain ⟨rfl, rfl, rfl, rfl⟩ := h
      intro ρ H locs cells slots lsC hw hl hs
      rw [hn] at k
      exact lv_lstore hx hb hd hl.has (by rw [← hl.1]; exact hlt) rfl (fun ls' hl2 => k ρ H locs cells slots ls' hw (xi_lr_sL (v := .long x) hl trivial hl2) hs.tail)
    · cases h
  · cases h
theorem xi_s_lstore_n (hx : p.tables.exec = Jvm.exec) (hb : c.code = cc) {n : Fin 4} (hd : xi_dn cc pcs i (.lstore_n n, nf, k1, k2) 1 = true) (hv : n.val = xi_k (.lstore_n n, nf, k1, k2)) (h : xi_stp scr (.lstore_n n, nf, k1, k2) i ls st S = some (i2, ls2, st2, S2)) (k : xi_G p l en R s m args below meth c Q D cs scr A nL ρ0 N0 L0 (pcs i2) ls2 (st2) S2) : xi_G p l en R s m args below meth c Q D cs scr A nL ρ0 N0 L0 (pcs i) ls (st) S := by
  obtain ⟨hd, hn⟩ := xi_dn_of hd
  simp only [xi_stp, xi_stL, ← hv] at h
  split at h
  · next x r =>
    split at h
    · next hlt =>
      simp only [Option.some.injEq, Prod.mk.injEq] at h
      obtain ⟨rfl, rfl, rfl, rfl⟩ := h
      intro ρ H locs cells slots lsC hw hl hs
      rw [hn] at k
      exact lv_lstore_n hx hb hd rfl hl.has (by rw [← hl.1]; exact hlt) rfl (fun ls' hl2 => k ρ H locs cells slots ls' hw (xi_lr_sL (v := .long x) hl trivial hl2) hs.tail)
    · cases h
  · cases h
theorem xi_s_iinc (hx : p.tables.exec = Jvm.exec) (hb : c.code = cc) {n : Nat} {z : Int} (hd : xi_dn cc pcs i (.iinc n z, nf, k1, k2) 3 = true) (hv : n = xi_k (.iinc n z, nf, k1, k2)) (hz : Int32.ofInt z = k1) (h : xi_stp scr (.iinc n z, nf, k1, k2) i ls st S = some (i2, ls2, st2, S2)) (k : xi_G p l en R s m args below meth c Q D cs scr A nL ρ0 N0 L0 (pcs i2) ls2 (st2) S2) : xi_G p l en R s m args below meth c Q D cs scr A nL ρ0 N0 L0 (pcs i) ls (st) S := by
  obtain ⟨hd, hn⟩ := xi_dn_of hd
  simp only [xi_stp, xi_inc, ← hv] at h
  split at h
  · next x hj =>
    simp only [Option.some.injEq, Prod.mk.injEq] at h
    obtain ⟨rfl, rfl, rfl, rfl⟩ := h
    intro ρ H locs cells slots lsC hw hl hs
    rw [hn] at k
    have hlt := (List.getElem?_eq_some_iff.mp hj).1
    obtain ⟨kk, hkk⟩ := List.getElem?_of_mem (xi_lv_mem (ρ := ρ) (ls := ls) (q := (n, .int x)) |>.mpr ⟨_, hj, rfl⟩)
    refine lv_iinc hx hb hd hl.has (k := kk) hkk (by rw [hz]) (by rw [← hl.1]; exact hlt) rfl (fun ls' hl2 => ?_)
    refine k ρ H locs cells slots ls' hw (xi_lr.of (by rw [List.length_set]; exact hl.1) (fun u hu => ?_) hl2 (fun q hq => ?_)) hs
    · obtain ⟨j, hj2⟩ := List.getElem?_of_mem hu
      rw [List.getElem?_set] at hj2
      split at hj2
      · cases hj2
        trivial
      · exact hl.2.2.2.1 u (List.mem_of_getElem? hj2)
    · obtain ⟨u, hu, h2⟩ := xi_lv_mem.mp hq
      rw [List.getElem?_set] at hu
      by_cases e : n = q.1
      · rw [if_pos e, if_pos hlt] at hu
        cases hu
        rw [e]
        have : q = (q.1, Value.int (x + k1)) := by rw [show Value.int (x + k1) = q.2 from h2.symm]
        rw [this]
        exact List.mem_cons_self
      · rw [if_neg e] at hu
        refine List.mem_cons_of_mem _ (List.mem_filter.mpr ⟨xi_lv_mem.mpr ⟨u, hu, h2⟩, ?_⟩)
        simp only [Bool.and_eq_true, Bool.not_eq_true', beq_eq_false_iff_ne, ne_eq, Bool.and_eq_false_iff]
        refine ⟨fun e2 => e e2.symm, ?_⟩
        by_cases h5 : q.1 + 1 = n
        · refine Or.inr (fun e3 => ?_)
          rw [h2, xi_cv_cat] at e3
          have h7 := hl.2.2.1.1 q.1 (xi_cv ρ u) (hl.2.2.2.2 q.1 u hu) (by rw [xi_cv_cat]; exact e3)
          rw [h5, hl.2.2.2.2 n _ hj] at h7
          cases h7
        · exact Or.inl h5
  · cases h
theorem xi_s_iadd (hx : p.tables.exec = Jvm.exec) (hb : c.code = cc) (hd : xi_dn cc pcs i (.iadd, nf, k1, k2) 1 = true) (h : xi_stp scr (.iadd, nf, k1, k2) i ls st S = some (i2, ls2, st2, S2)) (k : xi_G p l en R s m args below meth c Q D cs scr A nL ρ0 N0 L0 (pcs i2) ls2 (st2) S2) : xi_G p l en R s m args below meth c Q D cs scr A nL ρ0 N0 L0 (pcs i) ls (st) S := by
  obtain ⟨hd, hn⟩ := xi_dn_of hd
  simp only [xi_stp, xi_ii] at h
  split at h
  · simp only [Option.some.injEq, Prod.mk.injEq] at h
    obtain ⟨rfl, rfl, rfl, rfl⟩ := h
    intro ρ H locs cells slots lsC hw hl hs
    rw [hn] at k
    exact lv_iadd hx hb hd (k ρ H locs cells slots lsC hw hl (hs.tail.tail.cons trivial))
  · cases h
theorem xi_s_isub (hx : p.tables.exec = Jvm.exec) (hb : c.code = cc) (hd : xi_dn cc pcs i (.isub, nf, k1, k2) 1 = true) (h : xi_stp scr (.isub, nf, k1, k2) i ls st S = some (i2, ls2, st2, S2)) (k : xi_G p l en R s m args below meth c Q D cs scr A nL ρ0 N0 L0 (pcs i2) ls2 (st2) S2) : xi_G p l en R s m args below meth c Q D cs scr A nL ρ0 N0 L0 (pcs i) ls (st) S := by
  obtain ⟨hd, hn⟩ := xi_dn_of hd
  simp only [xi_stp, xi_ii] at h
  split at h
  · simp only [Option.some.injEq, Prod.mk.injEq] at h
    obtain ⟨rfl, rfl, rfl, rfl⟩ := h
    intro ρ H locs cells slots lsC hw hl hs
    rw [hn] at k
    exact lv_isub hx hb hd (k ρ H locs cells slots lsC hw hl (hs.tail.tail.cons trivial))
  · cases h
theorem xi_s_imul (hx : p.tables.exec = Jvm.exec) (hb : c.code = cc) (hd : xi_dn cc pcs i (.imul, nf, k1, k2) 1 = true) (h : xi_stp scr (.imul, nf, k1, k2) i ls st S = some (i2, ls2, st2, S2)) (k : xi_G p l en R s m args below meth c Q D cs scr A nL ρ0 N0 L0 (pcs i2) ls2 (st2) S2) : xi_G p l en R s m args below meth c Q D cs scr A nL ρ0 N0 L0 (pcs i) ls (st) S := by
  obtain ⟨hd, hn⟩ := xi_dn_of hd
  simp only [xi_stp, xi_ii] at h
  split at h
  · simp only [Option.some.injEq, Prod.mk.injEq] at h
    obtain ⟨rfl, rfl, rfl, rfl⟩ := h
    intro ρ H locs cells slots lsC hw hl hs
    rw [hn] at k
    exact lv_imul hx hb hd (k ρ H locs cells slots lsC hw hl (hs.tail.tail.cons trivial))
  · cases h
theorem xi_s_iand (hx : p.tables.exec = Jvm.exec) (hb : c.code = cc) (hd : xi_dn cc pcs i (.iand, nf, k1, k2) 1 = true) (h : xi_stp scr (.iand, nf, k1, k2) i ls st S = some (i2, ls2, st2, S2)) (k : xi_G p l en R s m args below meth c Q D cs scr A nL ρ0 N0 L0 (pcs i2) ls2 (st2) S2) : xi_G p l en R s m args below meth c Q D cs scr A nL ρ0 N0 L0 (pcs i) ls (st) S := by
  obtain ⟨hd, hn⟩ := xi_dn_of hd
  simp only [xi_stp, xi_ii] at h
  split at h
  · simp only [Option.some.injEq, Prod.mk.injEq] at h
    obtain ⟨rfl, rfl, rfl, rfl⟩ := h
    intro ρ H locs cells slots lsC hw hl hs
    rw [hn] at k
    exact lv_iand hx hb hd (k ρ H locs cells slots lsC hw hl (hs.tail.tail.cons trivial))
  · cases h
theorem xi_s_ior (hx : p.tables.exec = Jvm.exec) (hb : c.code = cc) (hd : xi_dn cc pcs i (.ior, nf, k1, k2) 1 = true) (h : xi_stp scr (.ior, nf, k1, k2) i ls st S = some (i2, ls2, st2, S2)) (k : xi_G p l en R s m args below meth c Q D cs scr A nL ρ0 N0 L0 (pcs i2) ls2 (st2) S2) : xi_G p l en R s m args below meth c Q D cs scr A nL ρ0 N0 L0 (pcs i) ls (st) S := by
  obtain ⟨hd, hn⟩ := xi_dn_of hd
  simp only [xi_stp, xi_ii] at h
  split at h
  · simp only [Option.some.injEq, Prod.mk.injEq] at h
    obtain ⟨rfl, rfl, rfl, rfl⟩ := h
    intro ρ H locs cells slots lsC hw hl hs
    rw [hn] at k
    exact lv_ior hx hb hd (k ρ H locs cells slots lsC hw hl (hs.tail.tail.cons trivial))
  · cases h
theorem xi_s_ixor (hx : p.tables.exec = Jvm.exec) (hb : c.code = cc) (hd : xi_dn cc pcs i (.ixor, nf, k1, k2) 1 = true) (h : xi_stp scr (.ixor, nf, k1, k2) i ls st S = some (i2, ls2, st2, S2)) (k : xi_G p l en R s m args below meth c Q D cs scr A nL ρ0 N0 L0 (pcs i2) ls2 (st2) S2) : xi_G p l en R s m args below meth c Q D cs scr A nL ρ0 N0 L0 (pcs i) ls (st) S := by
  obtain ⟨hd, hn⟩ := xi_dn_of hd
  simp only [xi_stp, xi_ii] at h
  split at h
  · simp only [Option.some.injEq, Prod.mk.injEq] at h
    obtain ⟨rfl, rfl, rfl, rfl⟩ := h
    intro ρ H locs cells slots lsC hw hl hs
    rw [hn] at k
    exact lv_ixor hx hb hd (k ρ H locs cells slots lsC hw hl (hs.tail.tail.cons trivial))
  · cases h
theorem xi_s_ishl (hx : p.tables.exec = Jvm.exec) (hb : c.code = cc) (hd : xi_dn cc pcs i (.ishl, nf, k1, k2) 1 = true) (h : xi_stp scr (.ishl, nf, k1, k2) i ls st S = some (i2, ls2, st2, S2)) (k : xi_G p l en R s m args below meth c Q D cs scr A nL ρ0 N0 L0 (pcs i2) ls2 (st2) S2) : xi_G p l en R s m args below meth c Q D cs scr A nL ρ0 N0 L0 (pcs i) ls (st) S := by
  obtain ⟨hd, hn⟩ := xi_dn_of hd
  simp only [xi_stp, xi_ii] at h
  split at h
  · simp only [Option.some.injEq, Prod.mk.injEq] at h
    obtain ⟨rfl, rfl, rfl, rfl⟩ := h
    intro ρ H locs cells slots lsC hw hl hs
    rw [hn] at k
    exact lv_ishl hx hb hd (k ρ H locs cells slots lsC hw hl (hs.tail.tail.cons trivial))
  · cases h
theorem xi_s_ishr (hx : p.tables.exec = Jvm.exec) (hb : c.code = cc) (hd : xi_dn cc pcs i (.ishr, nf, k1, k2) 1 = true) (h : xi_stp scr (.ishr, nf, k1, k2) i ls st S = some (i2, ls2, st2, S2)) (k : xi_G p l en R s m args below meth c Q D cs scr A nL ρ0 N0 L0 (pcs i2) ls2 (st2) S2) : xi_G p l en R s m args below meth c Q D cs scr A nL ρ0 N0 L0 (pcs i) ls (st) S := by
  obtain ⟨hd, hn⟩ := xi_dn_of hd
  simp only [xi_stp, xi_ii] at h
  split at h
  · simp only [Option.some.injEq, Prod.mk.injEq] at h
    obtain ⟨rfl, rfl, rfl, rfl⟩ := h
    intro ρ H locs cells slots lsC hw hl hs
    rw [hn] at k
    exact lv_ishr hx hb hd (k ρ H locs cells slots lsC hw hl (hs.tail.tail.cons trivial))
  · cases h
theorem xi_s_iushr (hx : p.tables.exec = Jvm.exec) (hb : c.code = cc) (hd : xi_dn cc pcs i (.iushr, nf, k1, k2) 1 = true) (h : xi_stp scr (.iushr, nf, k1, k2) i ls st S = some (i2, ls2, st2, S2)) (k : xi_G p l en R s m args below meth c Q D cs scr A nL ρ0 N0 L0 (pcs i2) ls2 (st2) S2) : xi_G p l en R s m args below meth c Q D cs scr A nL ρ0 N0 L0 (pcs i) ls (st) S := by
  obtain ⟨hd, hn⟩ := xi_dn_of hd
  simp only [xi_stp, xi_ii] at h
  split at h
  · simp only [Option.some.injEq, Prod.mk.injEq] at h
    obtain ⟨rfl, rfl, rfl, rfl⟩ := h
    intro ρ H locs cells slots lsC hw hl hs
    rw [hn] at k
    exact lv_iushr hx hb hd rfl (k ρ H locs cells slots lsC hw hl (hs.tail.tail.cons trivial))
  · cases h
theorem xi_s_ladd (hx : p.tables.exec = Jvm.exec) (hb : c.code = cc) (hd : xi_dn cc pcs i (.ladd, nf, k1, k2) 1 = true) (h : xi_stp scr (.ladd, nf, k1, k2) i ls st S = some (i2, ls2, st2, S2)) (k : xi_G p l en R s m args below meth c Q D cs scr A nL ρ0 N0 L0 (pcs i2) ls2 (st2) S2) : xi_G p l en R s m args below meth c Q D cs scr A nL ρ0 N0 L0 (pcs i) ls (st) S := by
  obtain ⟨hd, hn⟩ := xi_dn_of hd
  simp only [xi_stp, xi_ll] at h
  split at h
  · simp only [Option.some.injEq, Prod.mk.injEq] at h
    obtain ⟨rfl, rfl, rfl, rfl⟩ := h
    intro ρ H locs cells slots lsC hw hl hs
    rw [hn] at k
    exact lv_ladd hx hb hd (k ρ H locs cells slots lsC hw hl (hs.tail.tail.cons trivial))
  · cases h
theorem xi_s_lsub (hx : p.tables.exec = Jvm.exec) (hb : c.code = cc) (hd : xi_dn cc pcs i (.lsub, nf, k1, k2) 1 = true) (h : xi_stp scr (.lsub, nf, k1, k2) i ls st S = some (i2, ls2, st2, S2)) (k : xi_G p l en R s m args below meth c Q D cs scr A nL ρ0 N0 L0 (pcs i2) ls2 (st2) S2) : xi_G p l en R s m args below meth c Q D cs scr A nL ρ0 N0 L0 (pcs i) ls (st) S := by
  obtain ⟨hd, hn⟩ := xi_dn_of hd
  simp only [xi_stp, xi_ll] at h
  split at h
  · simp only [Option.some.injEq, Prod.mk.injEq] at h
    obtain ⟨rfl, rfl, rfl, rfl⟩ := h
    intro ρ H locs cells slots lsC hw hl hs
    rw [hn] at k
    exact lv_lsub hx hb hd (k ρ H locs cells slots lsC hw hl (hs.tail.tail.cons trivial))
  · cases h
theorem xi_s_lmul (hx : p.tables.exec = Jvm.exec) (hb : c.code = cc) (hd : xi_dn cc pcs i (.lmul, nf, k1, k2) 1 = true) (h : xi_stp scr (.lmul, nf, k1, k2) i ls st S = some (i2, ls2, st2, S2)) (k : xi_G p l en R s m args below meth c Q D cs scr A nL ρ0 N0 L0 (pcs i2) ls2 (st2) S2) : xi_G p l en R s m args below meth c Q D cs scr A nL ρ0 N0 L0 (pcs i) ls (st) S := by
  obtain ⟨hd, hn⟩ := xi_dn_of hd
  simp only [xi_stp, xi_ll] at h
  split at h
  · simp only [Option.some.injEq, Prod.mk.injEq] at h
    obtain ⟨rfl, rfl, rfl, rfl⟩ := h
    intro ρ H locs cells slots lsC hw hl hs
    rw [hn] at k
    exact lv_lmul hx hb hd (k ρ H locs cells slots lsC hw hl (hs.tail.tail.cons trivial))
  · cases h
theorem xi_s_lcmp (hx : p.tables.exec = Jvm.exec) (hb : c.code = cc) (hd : xi_dn cc pcs i (.lcmp, nf, k1, k2) 1 = true) (h : xi_stp scr (.lcmp, nf, k1, k2) i ls st S = some (i2, ls2, st2, S2)) (k : xi_G p l en R s m args below meth c Q D cs scr A nL ρ0 N0 L0 (pcs i2) ls2 (st2) S2) : xi_G p l en R s m args below meth c Q D cs scr A nL ρ0 N0 L0 (pcs i) ls (st) S := by
  obtain ⟨hd, hn⟩ := xi_dn_of hd
  simp only [xi_stp, xi_cmp] at h
  split at h
  · simp only [Option.some.injEq, Prod.mk.injEq] at h
    obtain ⟨rfl, rfl, rfl, rfl⟩ := h
    intro ρ H locs cells slots lsC hw hl hs
    rw [hn] at k
    exact W.lcmp hx hb hd (k ρ H locs cells slots lsC hw hl (hs.tail.tail.cons trivial))
  · cases h
theorem xi_s_idiv (hx : p.tables.exec = Jvm.exec) (hb : c.code = cc) (hd : xi_dn cc pcs i (.idiv, nf, k1, k2) 1 = true) (h : xi_stp scr (.idiv, nf, k1, k2) i ls st S = some (i2, ls2, st2, S2)) (k : xi_G p l en R s m args below meth c Q D cs scr A nL ρ0 N0 L0 (pcs i2) ls2 (st2) S2) : xi_G p l en R s m args below meth c Q D cs scr A nL ρ0 N0 L0 (pcs i) ls (st) S := by
  obtain ⟨hd, hn⟩ := xi_dn_of hd
  simp only [xi_stp, xi_id] at h
  split at h
  · split at h
    · cases h
    · next hne =>
      simp only [Option.some.injEq, Prod.mk.injEq] at h
      obtain ⟨rfl, rfl, rfl, rfl⟩ := h
      intro ρ H locs cells slots lsC hw hl hs
      rw [hn] at k
      exact lv_idiv hx hb hd hne (k ρ H locs cells slots lsC hw hl (hs.tail.tail.cons trivial))
  · cases h
theorem xi_s_irem (hx : p.tables.exec = Jvm.exec) (hb : c.code = cc) (hd : xi_dn cc pcs i (.irem, nf, k1, k2) 1 = true) (h : xi_stp scr (.irem, nf, k1, k2) i ls st S = some (i2, ls2, st2, S2)) (k : xi_G p l en R s m args below meth c Q D cs scr A nL ρ0 N0 L0 (pcs i2) ls2 (st2) S2) : xi_G p l en R s m args below meth c Q D cs scr A nL ρ0 N0 L0 (pcs i) ls (st) S := by
  obtain ⟨hd, hn⟩ := xi_dn_of hd
  simp only [xi_stp, xi_id] at h
  split at h
  · split at h
    · cases h
    · next hne =>
      simp only [Option.some.injEq, Prod.mk.injEq] at h
      obtain ⟨rfl, rfl, rfl, rfl⟩ := h
      intro ρ H locs cells slots lsC hw hl hs
      rw [hn] at k
      exact lv_irem hx hb hd hne (k ρ H locs cells slots lsC hw hl (hs.tail.tail.cons trivial))
  · cases h
theorem xi_s_ldiv (hx : p.tables.exec = Jvm.exec) (hb : c.code = cc) (hd : xi_dn cc pcs i (.ldiv, nf, k1, k2) 1 = true) (h : xi_stp scr (.ldiv, nf, k1, k2) i ls st S = some (i2, ls2, st2, S2)) (k : xi_G p l en R s m args below meth c Q D cs scr A nL ρ0 N0 L0 (pcs i2) ls2 (st2) S2) : xi_G p l en R s m args below meth c Q D cs scr A nL ρ0 N0 L0 (pcs i) ls (st) S := by
  obtain ⟨hd, hn⟩ := xi_dn_of hd
  simp only [xi_stp, xi_ld] at h
  split at h
  · split at h
    · cases h
    · next hne =>
      simp only [Option.some.injEq, Prod.mk.injEq] at h
      obtain ⟨rfl, rfl, rfl, rfl⟩ := h
      intro ρ H locs cells slots lsC hw hl hs
      rw [hn] at k
      exact lv_ldiv hx hb hd hne (k ρ H locs cells slots lsC hw hl (hs.tail.tail.cons trivial))
  · cases h
theorem xi_s_lrem (hx : p.tables.exec = Jvm.exec) (hb : c.code = cc) (hd : xi_dn cc pcs i (.lrem, nf, k1, k2) 1 = true) (h : xi_stp scr (.lrem, nf, k1, k2) i ls st S = some (i2, ls2, st2, S2)) (k : xi_G p l en R s m args below meth c Q D cs scr A nL ρ0 N0 L0 (pcs i2) ls2 (st2) S2) : xi_G p l en R s m args below meth c Q D cs scr A nL ρ0 N0 L0 (pcs i) ls (st) S := by
  obtain ⟨hd, hn⟩ := xi_dn_of hd
  simp only [xi_stp, xi_ld] at h
  split at h
  · split at h
    · cases h
    · next hne =>
      simp only [Option.some.injEq, Prod.mk.injEq] at h
      obtain ⟨rfl, rfl, rfl, rfl⟩ := h
      intro ρ H locs cells slots lsC hw hl hs
      rw [hn] at k
      exact lv_lrem hx hb hd hne (k ρ H locs cells slots lsC hw hl (hs.tail.tail.cons trivial))
  · cases h
theorem xi_s_i2l (hx : p.tables.exec = Jvm.exec) (hb : c.code = cc) (hd : xi_dn cc pcs i (.i2l, nf, k1, k2) 1 = true) (h : xi_stp scr (.i2l, nf, k1, k2) i ls st S = some (i2, ls2, st2, S2)) (k : xi_G p l en R s m args below meth c Q D cs scr A nL ρ0 N0 L0 (pcs i2) ls2 (st2) S2) : xi_G p l en R s m args below meth c Q D cs scr A nL ρ0 N0 L0 (pcs i) ls (st) S := by
  obtain ⟨hd, hn⟩ := xi_dn_of hd
  simp only [xi_stp, xi_i2l] at h
  split at h
  · simp only [Option.some.injEq, Prod.mk.injEq] at h
    obtain ⟨rfl, rfl, rfl, rfl⟩ := h
    intro ρ H locs cells slots lsC hw hl hs
    rw [hn] at k
    exact lv_i2l hx hb hd rfl (k ρ H locs cells slots lsC hw hl (hs.tail.cons trivial))
  · cases h
theorem xi_s_l2i (hx : p.tables.exec = Jvm.exec) (hb : c.code = cc) (hd : xi_dn cc pcs i (.l2i, nf, k1, k2) 1 = true) (h : xi_stp scr (.l2i, nf, k1, k2) i ls st S = some (i2, ls2, st2, S2)) (k : xi_G p l en R s m args below meth c Q D cs scr A nL ρ0 N0 L0 (pcs i2) ls2 (st2) S2) : xi_G p l en R s m args below meth c Q D cs scr A nL ρ0 N0 L0 (pcs i) ls (st) S := by
  obtain ⟨hd, hn⟩ := xi_dn_of hd
  simp only [xi_stp, xi_l2i] at h
  split at h
  · simp only [Option.some.injEq, Prod.mk.injEq] at h
    obtain ⟨rfl, rfl, rfl, rfl⟩ := h
    intro ρ H locs cells slots lsC hw hl hs
    rw [hn] at k
    exact lv_l2i hx hb hd rfl (k ρ H locs cells slots lsC hw hl (hs.tail.cons trivial))
  · cases h
theorem xi_s_i2b (hx : p.tables.exec = Jvm.exec) (hb : c.code = cc) (hd : xi_dn cc pcs i (.i2b, nf, k1, k2) 1 = true) (h : xi_stp scr (.i2b, nf, k1, k2) i ls st S = some (i2, ls2, st2, S2)) (k : xi_G p l en R s m args below meth c Q D cs scr A nL ρ0 N0 L0 (pcs i2) ls2 (st2) S2) : xi_G p l en R s m args below meth c Q D cs scr A nL ρ0 N0 L0 (pcs i) ls (st) S := by
  obtain ⟨hd, hn⟩ := xi_dn_of hd
  simp only [xi_stp, xi_i2b] at h
  split at h
  · simp only [Option.some.injEq, Prod.mk.injEq] at h
    obtain ⟨rfl, rfl, rfl, rfl⟩ := h
    intro ρ H locs cells slots lsC hw hl hs
    rw [hn] at k
    exact lv_i2b hx hb hd rfl (k ρ H locs cells slots lsC hw hl (hs.tail.cons trivial))
  · cases h
theorem xi_s_dup (hx : p.tables.exec = Jvm.exec) (hb : c.code = cc) (hd : xi_dn cc pcs i (.dup, nf, k1, k2) 1 = true) (h : xi_stp scr (.dup, nf, k1, k2) i ls st S = some (i2, ls2, st2, S2)) (k : xi_G p l en R s m args below meth c Q D cs scr A nL ρ0 N0 L0 (pcs i2) ls2 (st2) S2) : xi_G p l en R s m args below meth c Q D cs scr A nL ρ0 N0 L0 (pcs i) ls (st) S := by
  obtain ⟨hd, hn⟩ := xi_dn_of hd
  simp only [xi_stp, xi_dup] at h
  split at h
  · split at h
    · next hc =>
      simp only [Option.some.injEq, Prod.mk.injEq] at h
      obtain ⟨rfl, rfl, rfl, rfl⟩ := h
      intro ρ H locs cells slots lsC hw hl hs
      rw [hn] at k
      exact lv_dup hx hb hd (by rw [xi_cv_cat]; exact hc) (k ρ H locs cells slots lsC hw hl (hs.cons hs.head))
    · cases h
  · cases h
theorem xi_s_pop (hx : p.tables.exec = Jvm.exec) (hb : c.code = cc) (hd : xi_dn cc pcs i (.pop, nf, k1, k2) 1 = true) (h : xi_stp scr (.pop, nf, k1, k2) i ls st S = some (i2, ls2, st2, S2)) (k : xi_G p l en R s m args below meth c Q D cs scr A nL ρ0 N0 L0 (pcs i2) ls2 (st2) S2) : xi_G p l en R s m args below meth c Q D cs scr A nL ρ0 N0 L0 (pcs i) ls (st) S := by
  obtain ⟨hd, hn⟩ := xi_dn_of hd
  simp only [xi_stp, xi_pop] at h
  split at h
  · split at h
    · next hc =>
      simp only [Option.some.injEq, Prod.mk.injEq] at h
      obtain ⟨rfl, rfl, rfl, rfl⟩ := h
      intro ρ H locs cells slots lsC hw hl hs
      rw [hn] at k
      exact lv_pop hx hb hd (by rw [xi_cv_cat]; exact hc) (k ρ H locs cells slots lsC hw hl (hs.tail))
    · cases h
  · cases h
theorem xi_s_dup2 (hx : p.tables.exec = Jvm.exec) (hb : c.code = cc) (hd : xi_dn cc pcs i (.dup2, nf, k1, k2) 1 = true) (h : xi_stp scr (.dup2, nf, k1, k2) i ls st S = some (i2, ls2, st2, S2)) (k : xi_G p l en R s m args below meth c Q D cs scr A nL ρ0 N0 L0 (pcs i2) ls2 (st2) S2) : xi_G p l en R s m args below meth c Q D cs scr A nL ρ0 N0 L0 (pcs i) ls (st) S := by
  obtain ⟨hd, hn⟩ := xi_dn_of hd
  simp only [xi_stp, xi_dup2] at h
  split at h
  · split at h
    · next hc =>
      simp only [Option.some.injEq, Prod.mk.injEq] at h
      obtain ⟨rfl, rfl, rfl, rfl⟩ := h
      intro ρ H locs cells slots lsC hw hl hs
      rw [hn] at k
      exact lv_dup2_11 hx hb hd (by rw [xi_cv_cat]; exact hc.1) (by rw [xi_cv_cat]; exact hc.2) (k ρ H locs cells slots lsC hw hl ((hs.cons hs.tail.head).cons hs.head))
    · cases h
  · cases h
end XIS
end
section
/-! the heap's instructions -/
theorem xi_FL_mem {w own idx ci j : Nat} (h : xi_FL[w]? = some (own, idx, ci, j)) : Cond.fieldLink (xi_cA own) idx (xi_T ci j).1 (xi_T ci j).2.1 (xi_T ci j).2.2.1 ∈ xi_tb :=
  xi_tb_of (List.mem_append_right _ (xi_pk_mem _ _ _ xi_w_FL _ (List.mem_map.mpr ⟨_, List.mem_of_getElem? h, rfl⟩))) rfl
theorem xi_KL_mem {w own idx k : Nat} (h : xi_KL[w]? = some (own, idx, k)) : Cond.classLink (xi_cA own) idx (xi_kn k) ∈ xi_tb :=
  xi_tb_of (List.mem_append_right _ (xi_pk_mem _ _ _ xi_w_KL _ (List.mem_map.mpr ⟨_, List.mem_of_getElem? h, rfl⟩))) rfl
theorem xi_FN_mem {w own idx k : Nat} (h : xi_FN[w]? = some (own, idx, k)) : Cond.fieldLinkNest (xi_cA own) idx "GuineaHours" (if k = 0 then "KIND_LETTERS" else "KIND_EXTRA") (if k = 0 then "[B" else "[I") "GuineaHours" ∈ xi_tb :=
  xi_tb_of (List.mem_append_right _ (xi_pk_mem _ _ _ xi_w_FN _ (List.mem_map.mpr ⟨_, List.mem_of_getElem? h, rfl⟩))) rfl
theorem xi_CK_mem {w own idx : Nat} {v : Int32} (h : xi_CK[w]? = some (own, idx, v)) : Cond.constant (xi_cA own) idx v ∈ xi_tb :=
  xi_tb_of (List.mem_append_right _ (xi_pk_mem _ _ _ xi_w_CK _ (List.mem_map.mpr ⟨_, List.mem_of_getElem? h, rfl⟩))) rfl
theorem xi_CL_mem {w own idx : Nat} {v : Int64} (h : xi_CL[w]? = some (own, idx, v)) : Cond.constantLong (xi_cA own) idx v ∈ xi_tb :=
  xi_tb_of (List.mem_append_right _ (xi_pk_mem _ _ _ xi_w_CL _ (List.mem_map.mpr ⟨_, List.mem_of_getElem? h, rfl⟩))) rfl
theorem xi_ML_mem {w own idx μ : Nat} (h : xi_ML[w]? = some (own, idx, μ)) : Cond.methodLink (xi_cA own) idx (xi_y μ) ∈ xi_tb :=
  xi_tb_of (List.mem_append_right _ (xi_pk_mem _ _ _ xi_w_ML _ (List.mem_map.mpr ⟨_, List.mem_of_getElem? h, rfl⟩))) rfl
theorem xi_MN_mem {w own idx μ : Nat} (h : xi_MN[w]? = some (own, idx, μ)) : Cond.methodLinkNest (xi_cA own) idx (xi_y μ) "GuineaHours" ∈ xi_tb :=
  xi_tb_of (List.mem_append_right _ (xi_pk_mem _ _ _ xi_w_MN _ (List.mem_map.mpr ⟨_, List.mem_of_getElem? h, rfl⟩))) rfl
theorem xi_gv_wv {S : xi_S} {k j f : Nat} (hwf : xi_wf S) (hk : k < S.1.length) : xi_wv S.1.length (xi_gv S k j f) := by
  unfold xi_gv
  split
  · trivial
  · trivial
  · trivial
  · cases hh : S.2.2.2 k j with
    | none => trivial
    | some r => exact Or.inl (hwf k j r hk hh)
theorem xi_and1 {x : Int32} (h : x &&& 1 = x) : x = 0 ∨ x = 1 := by
  have h2 : x.toBitVec &&& 1#32 = x.toBitVec := congrArg Int32.toBitVec h
  have h3 : x.toBitVec.toNat % 2 = x.toBitVec.toNat := by
    have := congrArg BitVec.toNat h2
    rw [BitVec.toNat_and] at this
    rw [← Nat.and_one_is_mod]
    exact this
  have h4 : x.toBitVec.toNat = 0 ∨ x.toBitVec.toNat = 1 := by omega
  rcases h4 with h4 | h4
  · exact Or.inl (Int32.toBitVec_inj.mp (BitVec.eq_of_toNat_eq h4))
  · exact Or.inr (Int32.toBitVec_inj.mp (BitVec.eq_of_toNat_eq h4))

theorem xi_cA_eq {ci : Nat} (h : ci < 9) : xi_cn ci = xi_cA ci := by
  rcases (show ci = 0 ∨ ci = 1 ∨ ci = 2 ∨ ci = 3 ∨ ci = 4 ∨ ci = 5 ∨ ci = 6 ∨ ci = 7 ∨ ci = 8 by omega) with rfl | rfl | rfl | rfl | rfl | rfl | rfl | rfl | rfl <;> rfl
theorem xi_up_ne2 {α : Type} {f : Nat → Nat → α} {k j : Nat} {v : α} {b : Nat} (h : b ≠ j) : xi_up f k j v k b = f k b := by simp [xi_up, h]
theorem xi_up_self {α : Type} {f : Nat → Nat → α} {k j : Nat} {v : α} : xi_up f k j v k j = v := by simp [xi_up]
section XIS
variable {p : Program} {l : Launch} {en : Env} {R : Room} {s : State} {m : MethodId} {args : Array Value} {below : List Frame} {meth : Method} {c : Code} {Q : State → Prop} {D : va_G} {cs : Nat → ClassId} {scr : xi_X} {A : Nat → Prop} {nL : Nat} {ρ0 : Nat → Nat} {N0 L0 : Nat} {cc : ByteArray} {pcs : Nat → Nat} {i i2 : Nat} {ls ls2 : xi_L} {st st2 : List Value} {S S2 : xi_S} {nf : List Nat} {k1 : Int32} {k2 : Int64}

theorem xi_fck_of {own : Nat} {ini put : Bool} {n w : Nat} (h : xi_fck own ini n w put nf = true) : ∃ ci j, nf = [ci, j, xi_kd ci j] ∧ ci < 9 ∧ j < xi_nf ci ∧ xi_FL[w]? = some (own, n, ci, j) := by
  rcases nf with _ | ⟨ci, _ | ⟨j, _ | ⟨f, _ | ⟨z, y⟩⟩⟩⟩
  · simp [xi_fck] at h
  · simp [xi_fck] at h
  · simp [xi_fck] at h
  · simp only [xi_fck, Bool.and_eq_true, decide_eq_true_eq] at h
    obtain ⟨⟨⟨⟨h1, h2⟩, h3⟩, h4⟩, -⟩ := h
    exact ⟨ci, j, by rw [h4], h2, h3, h1⟩
  · simp [xi_fck] at h
theorem xi_get_of {ci j f : Nat} (h : xi_get [ci, j, f] i ls st S = some (i2, ls2, st2, S2)) : ∃ a r nn, st = .ref a :: r ∧ S.1[a]? = some (ci, nn) ∧ i2 = i + 1 ∧ ls2 = ls ∧ st2 = xi_gv S a j f :: r ∧ S2 = S := by
  rcases st with _ | ⟨v, r⟩
  · simp [xi_get] at h
  · cases v with
    | ref a =>
      simp only [xi_get] at h
      cases hq : S.1[a]? with
      | none => rw [hq] at h; cases h
      | some q =>
        obtain ⟨t, nn⟩ := q
        rw [hq] at h
        simp only at h
        by_cases ht : t = ci
        · rw [if_pos ht] at h
          simp only [Option.some.injEq, Prod.mk.injEq] at h
          exact ⟨a, r, nn, rfl, by rw [hq, ht], h.1.symm, h.2.1.symm, h.2.2.1.symm, h.2.2.2.symm⟩
        · rw [if_neg ht] at h
          cases h
    | _ => simp [xi_get] at h
theorem xi_put_of {ci j f : Nat} (h : xi_put [ci, j, f] i ls st S = some (i2, ls2, st2, S2)) : ∃ v a r nn, st = v :: .ref a :: r ∧ S.1[a]? = some (ci, nn) ∧ i2 = i + 1 ∧ ls2 = ls ∧ st2 = r ∧ xi_pv S a j f v = some S2 := by
  rcases st with _ | ⟨v, _ | ⟨u, r⟩⟩
  · simp [xi_put] at h
  · simp [xi_put] at h
  · cases u with
    | ref a =>
      simp only [xi_put] at h
      cases hq : S.1[a]? with
      | none => rw [hq] at h; cases h
      | some q =>
        obtain ⟨t, nn⟩ := q
        rw [hq] at h
        simp only at h
        by_cases ht : t = ci
        · rw [if_pos ht] at h
          cases hp : xi_pv S a j f v with
          | none => rw [hp] at h; cases h
          | some S3 =>
            rw [hp] at h
            simp only [Option.some.injEq, Prod.mk.injEq] at h
            exact ⟨v, a, r, nn, rfl, by rw [hq, ht], h.1.symm, h.2.1.symm, h.2.2.1.symm, by rw [hp, h.2.2.2]⟩
        · rw [if_neg ht] at h
          cases h
    | _ => simp [xi_put] at h
theorem xi_s_getfield (hx : p.tables.exec = Jvm.exec) (hb : c.code = cc) (hts : ∀ w ∈ xi_tb, w.before args s = true) {own : Nat} (hown : s.vm.findClass (xi_cA own) = some m.cls) {ini : Bool} {n w : Nat} (hd : xi_dn cc pcs i (.getfield n, nf, k1, k2) 3 = true) (hck : xi_fck own ini n w false nf = true) (h : xi_stp scr (.getfield n, nf, k1, k2) i ls st S = some (i2, ls2, st2, S2)) (k : xi_G p l en R s m args below meth c Q D cs scr A nL ρ0 N0 L0 (pcs i2) ls2 (st2) S2) : xi_G p l en R s m args below meth c Q D cs scr A nL ρ0 N0 L0 (pcs i) ls (st) S := by
  obtain ⟨hd, hn⟩ := xi_dn_of hd
  obtain ⟨ci, j, rfl, hci, hj, hFL⟩ := xi_fck_of hck
  obtain ⟨a, r, nn, rfl, hq, rfl, rfl, rfl, rfl⟩ := xi_get_of h
  intro ρ H locs cells slots lsC hw hl hs
  rw [hn] at k
  have he := xi_ws_at (cs := cs) (ρ := ρ) hq
  rw [xi_ec_o hci] at he
  exact va_get (C := xi_cn ci) (T := xi_T ci) (N := xi_nf ci) (ref := (xi_T ci j).1) hx hb hts (xi_in hci) hown hw.1 hw.2.1 a he (xi_cl_at hci) j hj (hts _ (xi_FL_mem hFL)) (fun _ h => h) (xi_fs_at hj) hd (k ρ H locs cells slots lsC hw hl (hs.tail.cons (xi_gv_wv hw.2.2.2.2.2.2.1 (List.getElem?_eq_some_iff.mp hq).1)))
theorem xi_put_core (hx : p.tables.exec = Jvm.exec) (hb : c.code = cc) (hts : ∀ w ∈ xi_tb, w.before args s = true) {own : Nat} (hown : s.vm.findClass (xi_cA own) = some m.cls) {ini : Bool} (hini : ini = true → meth.name = "<init>") {n w a ci j nn : Nat} {v : Value} {r : List Value} (hd : decode cc (pcs i) = .ok (.putfield n, 3)) (hck : xi_fck own ini n w true [ci, j, xi_kd ci j] = true) (hq : S.1[a]? = some (ci, nn)) (hs1 : S2.1 = S.1) (hne : ∀ b, b ≠ a → S2.2.1 b = S.2.1 b ∧ S2.2.2.1 b = S.2.2.1 b ∧ S2.2.2.2 b = S.2.2.2 b) (hnj : ∀ b, b ≠ j → S2.2.1 a b = S.2.1 a b ∧ S2.2.2.1 a b = S.2.2.1 a b ∧ S2.2.2.2 a b = S.2.2.2 a b)
    (hval : xi_gv S2 a j (xi_kd ci j) = v) (hnar : ∀ ρ, narrow (xi_ft ci j) (xi_cv ρ v) = xi_cv ρ v) (hfit : ∀ ρ, fits (xi_ft ci j) (xi_cv ρ v) = true) (hwf : xi_wf S → xi_wf S2) (k : xi_G p l en R s m args below meth c Q D cs scr A nL ρ0 N0 L0 (pcs i + 3) ls (r) S2) : xi_G p l en R s m args below meth c Q D cs scr A nL ρ0 N0 L0 (pcs i) ls (v :: .ref a :: r) S := by
  simp only [xi_fck, Bool.and_eq_true, decide_eq_true_eq, Bool.not_true, Bool.false_or, Bool.or_eq_true, Bool.not_eq_true'] at hck
  obtain ⟨⟨⟨⟨hFL, hci⟩, hj⟩, -⟩, hfin⟩ := hck
  intro ρ H locs cells slots lsC hw hl hs
  have he := xi_ws_at (cs := cs) (ρ := ρ) hq
  rw [xi_ec_o hci] at he
  have hws : xi_ws cs ρ S2 = (xi_ws cs ρ S).set a (ρ a, .inr (ci, (xi_fs ρ S a ci).set j (xi_cv ρ v))) := by
    rw [xi_ws_set hs1 hq (fun b hb => (hne b hb).1) (fun b hb => (hne b hb).2.1) (fun b hb => (hne b hb).2.2), xi_ec_o hci, xi_fs_set hj (by rw [hval]) hnj]
  have hlen : j < (xi_fs ρ S a ci).length := by rw [xi_fs_len]; exact hj
  have hrest : ∀ (H1 : Heap) (locs1 : List Loc), va_P D xi_cl ((xi_ws cs ρ S).set a (ρ a, .inr (ci, (xi_fs ρ S a ci).set j (xi_cv ρ v)))) H1 → va_D A ((xi_ws cs ρ S).set a (ρ a, .inr (ci, (xi_fs ρ S a ci).set j (xi_cv ρ v)))) → va_S A s.heap H1 locs1 → W p l en R s m args below meth c H1 locs1 cells slots Q (F0 m (pcs i + 3) lsC (r.map (xi_cv ρ))) := by
    intro H1 locs1 hP1 hD1 hS1
    rw [← hws] at hP1 hD1
    refine k ρ H1 locs1 cells slots lsC ⟨hw.1, hP1, hD1, hS1, hw.2.2.2.2.1, hw.2.2.2.2.2.1, hwf hw.2.2.2.2.2.2.1, hw.2.2.2.2.2.2.2.1, by rw [hs1]; exact hw.2.2.2.2.2.2.2.2.1, ?_⟩ (by rw [hs1]; exact hl) (by rw [hs1]; exact hs.tail.tail)
    unfold xi_sz
    rw [hs1]
    exact hw.2.2.2.2.2.2.2.2.2
  cases hb2 : (xi_T ci j).2.2.2 with
  | false =>
    exact va_put (C := xi_cn ci) (T := xi_T ci) (N := xi_nf ci) (ref := (xi_T ci j).1) hx hb hts (xi_in hci) (xi_ft ci) (xi_ty ci hci) (xi_nm ci hci) hown hw.1 hw.2.1 hw.2.2.1 hw.2.2.2.1 a he (xi_cl_at hci) j hj (hts _ (xi_FL_mem hFL)) (fun _ h => h) hb2 (xi_ty ci hci j hj) (hnar ρ) (hfit ρ) hlen hd hrest
  | true =>
    rcases hfin with hfin | ⟨hi, hco⟩
    · rw [hb2] at hfin
      cases hfin
    · subst hco
      exact va_putF (C := xi_cn ci) (T := xi_T ci) (N := xi_nf ci) (ref := (xi_T ci j).1) hx hb hts (xi_in hci) (xi_ft ci) (xi_ty ci hci) (xi_nm ci hci) hown hw.1 hw.2.1 hw.2.2.1 hw.2.2.2.1 a he (xi_cl_at hci) j hj (hts _ (xi_FL_mem hFL)) (fun _ h => h) hb2 (hini hi) (by rw [xi_decl ci hci j hj]; exact xi_cA_eq hci) (xi_ty ci hci j hj) (hnar ρ) (hfit ρ) hlen hd hrest
/-- what a field's kind asks of a value -/
theorem xi_pv_of {ci a j : Nat} {v : Value} (hci : ci < 9) (hj : j < xi_nf ci) (h : xi_pv S a j (xi_kd ci j) v = some S2) : S2.1 = S.1 ∧ (∀ b, b ≠ a → S2.2.1 b = S.2.1 b ∧ S2.2.2.1 b = S.2.2.1 b ∧ S2.2.2.2 b = S.2.2.2 b) ∧ (∀ b, b ≠ j → S2.2.1 a b = S.2.1 a b ∧ S2.2.2.1 a b = S.2.2.1 a b ∧ S2.2.2.2 a b = S.2.2.2 a b) ∧
    xi_gv S2 a j (xi_kd ci j) = v ∧ (∀ ρ, narrow (xi_ft ci j) (xi_cv ρ v) = xi_cv ρ v) ∧ (∀ ρ, fits (xi_ft ci j) (xi_cv ρ v) = true) ∧ (xi_wf S → xi_wf S2) := by
  rcases xi_kd_ok ci hci j hj with ⟨hk, ht⟩ | ⟨hk, ht⟩ | ⟨hk, ht⟩ | ⟨hk, ht⟩
  · rw [hk] at h ⊢
    cases v with
    | int x =>
      cases h
      refine ⟨rfl, fun b hb => ⟨xi_up_ne hb, rfl, rfl⟩, fun b hb => ⟨xi_up_ne2 hb, rfl, rfl⟩, ?_, fun ρ => by rw [ht]; rfl, fun ρ => by rw [ht]; rfl, fun hwf => hwf⟩
      show Value.int (xi_up _ _ _ _ _ _) = _
      rw [xi_up_self]
    | _ => cases h
  · rw [hk] at h ⊢
    cases v with
    | long x =>
      cases h
      refine ⟨rfl, fun b hb => ⟨rfl, xi_up_ne hb, rfl⟩, fun b hb => ⟨rfl, xi_up_ne2 hb, rfl⟩, ?_, fun ρ => by rw [ht]; rfl, fun ρ => by rw [ht]; rfl, fun hwf => hwf⟩
      show Value.long (xi_up _ _ _ _ _ _) = _
      rw [xi_up_self]
    | _ => cases h
  · rw [hk] at h ⊢
    cases v with
    | int x =>
      simp only [xi_pv] at h
      by_cases hx1 : x &&& 1 = x
      · rw [if_pos hx1] at h
        cases h
        refine ⟨rfl, fun b hb => ⟨xi_up_ne hb, rfl, rfl⟩, fun b hb => ⟨xi_up_ne2 hb, rfl, rfl⟩, ?_, fun ρ => by rw [ht]; show Value.int (x &&& 1) = Value.int x; rw [hx1], fun ρ => by rw [ht]; show (x == 0 || x == 1) = true; rcases xi_and1 hx1 with rfl | rfl <;> rfl, fun hwf => hwf⟩
        show Value.int (xi_up _ _ _ _ _ _) = _
        rw [xi_up_self]
      · rw [if_neg hx1] at h
        cases h
    | _ => cases h
  · rw [hk] at h ⊢
    cases v with
    | ref x =>
      simp only [xi_pv] at h
      by_cases hlt : x < S.1.length
      · rw [if_pos hlt] at h
        cases h
        refine ⟨rfl, fun b hb => ⟨rfl, rfl, xi_up_ne hb⟩, fun b hb => ⟨rfl, rfl, xi_up_ne2 hb⟩, ?_, fun ρ => by cases xi_ft ci j <;> rfl, fun ρ => ?_, ?_⟩
        · show va_rf (xi_up _ _ _ _ _ _) = _
          rw [xi_up_self]
          rfl
        · revert ht
          cases xi_ft ci j <;> intro ht <;> first | rfl | cases ht
        · intro hwf b j2 r2 hb hr
          have hr : xi_up S.2.2.2 a j (some x) b j2 = some r2 := hr
          by_cases e : b = a
          · subst e
            by_cases e2 : j2 = j
            · subst e2
              rw [xi_up_self] at hr
              cases hr
              exact hlt
            · rw [xi_up_ne2 e2] at hr
              exact hwf b j2 r2 hb hr
          · rw [xi_up_ne e] at hr
            exact hwf b j2 r2 hb hr
      · rw [if_neg hlt] at h
        cases h
    | _ => cases h
theorem xi_s_putfield (hx : p.tables.exec = Jvm.exec) (hb : c.code = cc) (hts : ∀ w ∈ xi_tb, w.before args s = true) {own : Nat} (hown : s.vm.findClass (xi_cA own) = some m.cls) {ini : Bool} (hini : ini = true → meth.name = "<init>") {n w : Nat} (hd : xi_dn cc pcs i (.putfield n, nf, k1, k2) 3 = true) (hck : xi_fck own ini n w true nf = true) (h : xi_stp scr (.putfield n, nf, k1, k2) i ls st S = some (i2, ls2, st2, S2)) (k : xi_G p l en R s m args below meth c Q D cs scr A nL ρ0 N0 L0 (pcs i2) ls2 (st2) S2) : xi_G p l en R s m args below meth c Q D cs scr A nL ρ0 N0 L0 (pcs i) ls (st) S := by
  obtain ⟨hd, hn⟩ := xi_dn_of hd
  obtain ⟨ci, j, rfl, hci, hj, hFL⟩ := xi_fck_of hck
  obtain ⟨v, a, r, nn, rfl, hq, rfl, rfl, rfl, hp⟩ := xi_put_of h
  rw [hn] at k
  obtain ⟨h1, h2, h3, h4, h5, h6, h7⟩ := xi_pv_of hci hj hp
  exact xi_put_core hx hb hts hown hini hd hck hq h1 h2 h3 h4 h5 h6 h7 k
end XIS
end
section
/-! arrays, and new cells -/
theorem xi_ar_lo {scr : xi_X} {S : xi_S} {a t n : Nat} {f : Nat → Int32} (h : xi_ar scr S a = some (t, n, f)) (hlt : a < 1000000) : S.1[a]? = some (t, n) ∧ f = S.2.1 a := by
  unfold xi_ar at h
  rw [if_pos hlt] at h
  cases hq : S.1[a]? with
  | none => rw [hq] at h; cases h
  | some q =>
    obtain ⟨t2, n2⟩ := q
    rw [hq] at h
    cases h
    exact ⟨rfl, rfl⟩
theorem xi_ar_hi {scr : xi_X} {S : xi_S} {a t n : Nat} {f : Nat → Int32} (h : xi_ar scr S a = some (t, n, f)) (hge : ¬ a < 1000000) : xi_ros scr (a - 1000000) = some (t, n, f) := by
  unfold xi_ar at h
  rw [if_neg hge] at h
  exact h
theorem xi_ro_at {scr : xi_X} {ρ : Nat → Nat} {A : Nat → Prop} {s : State} {H : Heap} (hro : xi_ro scr ρ A s H) {j t n : Nat} {f : Nat → Int32} (h : xi_ros scr j = some (t, n, f)) : va_T (xi_at t) (ρ (1000000 + j)) n (fun i => .int (f i)) A s H := by
  match j, h with
  | 0, h => cases h; exact hro.1
  | 1, h => cases h; exact hro.2.1
  | 2, h => cases h; exact hro.2.2.1
  | j + 3, h => cases h
theorem xi_ald_of {scr : xi_X} {tag i i2 : Nat} {ls ls2 : xi_L} {st st2 : List Value} {S S2 : xi_S} (h : xi_ald scr tag i ls st S = some (i2, ls2, st2, S2)) : ∃ j a r n f, st = .int j :: .ref a :: r ∧ xi_ar scr S a = some (tag, n, f) ∧ vp_in j n ∧ i2 = i + 1 ∧ ls2 = ls ∧ st2 = .int (f j.toNatClampNeg) :: r ∧ S2 = S := by
  rcases st with _ | ⟨v, _ | ⟨u, r⟩⟩
  · simp [xi_ald] at h
  · cases v <;> simp [xi_ald] at h
  · cases v with
    | int j =>
      cases u with
      | ref a =>
        simp only [xi_ald] at h
        cases hq : xi_ar scr S a with
        | none => rw [hq] at h; cases h
        | some q =>
          obtain ⟨t, n, f⟩ := q
          rw [hq] at h
          simp only at h
          by_cases ht : t = tag
          · rw [if_pos ht] at h
            by_cases hin : j < 0 ∨ n ≤ j.toNatClampNeg
            · rw [if_pos hin] at h
              cases h
            · rw [if_neg hin] at h
              cases h
              exact ⟨j, a, r, n, f, rfl, by rw [hq, ht], hin, rfl, rfl, rfl, rfl⟩
          · rw [if_neg ht] at h
            cases h
      | _ => simp [xi_ald] at h
    | _ => simp [xi_ald] at h
theorem xi_upd {f : Nat → Nat → Int32} {k j : Nat} {x : Int32} : xi_up f k j x k = upd (f k) j x := by
  funext b
  simp [xi_up, upd]
theorem xi_updL {f : Nat → Nat → Int64} {k j : Nat} {x : Int64} : xi_up f k j x k = vp_updL (f k) j x := by
  funext b
  simp [xi_up, vp_updL]
theorem xi_updq {f : Nat → Nat → Option Nat} {ρ : Nat → Nat} {k j a : Nat} : (fun b => (xi_up f k j (some a) k b).map ρ) = va_up (fun b => (f k b).map ρ) j (some (ρ a)) := by
  funext b
  by_cases h : b = j <;> simp [xi_up, va_up, h]
theorem xi_RA_eq {s : State} {c1 c2 : ClassId} {ty : FieldType} (h1 : va_RA s c1 ty) (h2 : va_RA s c2 ty) : c1 = c2 := by
  cases ty with
  | object C =>
    obtain ⟨_, _, _, _, _, h1⟩ := h1
    obtain ⟨_, _, _, _, _, h2⟩ := h2
    exact Option.some.inj (h1.symm.trans h2)
  | _ => exact Option.some.inj ((show s.vm.findClass _ = some c1 from h1).symm.trans h2)
theorem xi_w_ai : Cond.arrayClass .int ∈ xi_tb := xi_tb_of (List.mem_append_right _ (List.mem_of_getElem? (i := 60) (by decide +kernel))) rfl
theorem xi_w_ab : Cond.arrayClass .byte ∈ xi_tb := xi_tb_of (List.mem_append_right _ (List.mem_of_getElem? (i := 61) (by decide +kernel))) rfl
theorem xi_w_aj : Cond.arrayClass .long ∈ xi_tb := xi_tb_of (List.mem_append_right _ (List.mem_of_getElem? (i := 184) (by decide +kernel))) rfl
theorem xi_w_od : Cond.arrayOver (.object "GuineaHours$Day") ∈ xi_tb := xi_tb_of (List.mem_append_right _ (List.mem_of_getElem? (i := 87) (by decide +kernel))) rfl
theorem xi_w_oi : Cond.arrayOver (.array .int) ∈ xi_tb := xi_tb_of (List.mem_append_right _ (List.mem_of_getElem? (i := 23) (by decide +kernel))) rfl
theorem xi_w_ob : Cond.arrayOver (.array .byte) ∈ xi_tb := xi_tb_of (List.mem_append_right _ (List.mem_of_getElem? (i := 25) (by decide +kernel))) rfl

section XIS
variable {p : Program} {l : Launch} {en : Env} {R : Room} {s : State} {m : MethodId} {args : Array Value} {below : List Frame} {meth : Method} {c : Code} {Q : State → Prop} {D : va_G} {cs : Nat → ClassId} {scr : xi_X} {A : Nat → Prop} {nL : Nat} {ρ0 : Nat → Nat} {N0 L0 : Nat} {cc : ByteArray} {pcs : Nat → Nat} {i i2 : Nat} {ls ls2 : xi_L} {st st2 : List Value} {S S2 : xi_S} {nf : List Nat} {k1 : Int32} {k2 : Int64}

theorem xi_s_iaload (hx : p.tables.exec = Jvm.exec) (hb : c.code = cc) (hd : xi_dn cc pcs i (.iaload, nf, k1, k2) 1 = true) (h : xi_stp scr (.iaload, nf, k1, k2) i ls st S = some (i2, ls2, st2, S2)) (k : xi_G p l en R s m args below meth c Q D cs scr A nL ρ0 N0 L0 (pcs i2) ls2 (st2) S2) : xi_G p l en R s m args below meth c Q D cs scr A nL ρ0 N0 L0 (pcs i) ls (st) S := by
  obtain ⟨hd, hn⟩ := xi_dn_of hd
  obtain ⟨j, a, r, n, f, rfl, hq, hin, rfl, rfl, rfl, rfl⟩ := xi_ald_of h
  intro ρ H locs cells slots lsC hw hl hs
  rw [hn] at k
  have kk := k ρ H locs cells slots lsC hw hl (hs.tail.tail.cons trivial)
  by_cases hlt : a < 1000000
  · obtain ⟨hq2, rfl⟩ := xi_ar_lo hq hlt
    have he := xi_ws_at (cs := cs) (ρ := ρ) hq2
    rw [xi_ec_i (by omega) (by omega)] at he
    exact va_iald hx hb hw.1 hw.2.1 a (9 - 9) he rfl hin hd kk
  · have hT := xi_ro_at hw.2.2.2.2.2.1 (xi_ar_hi hq hlt)
    rw [show 1000000 + (a - 1000000) = a from Nat.add_sub_cancel' (Nat.not_lt.mp hlt), ← hw.2.2.2.2.2.2.2.1 a (Or.inr (Nat.not_lt.mp hlt))] at hT
    exact va_ti hx hb hT hw.2.2.2.1 hin rfl hd kk
theorem xi_s_baload (hx : p.tables.exec = Jvm.exec) (hb : c.code = cc) (hd : xi_dn cc pcs i (.baload, nf, k1, k2) 1 = true) (h : xi_stp scr (.baload, nf, k1, k2) i ls st S = some (i2, ls2, st2, S2)) (k : xi_G p l en R s m args below meth c Q D cs scr A nL ρ0 N0 L0 (pcs i2) ls2 (st2) S2) : xi_G p l en R s m args below meth c Q D cs scr A nL ρ0 N0 L0 (pcs i) ls (st) S := by
  obtain ⟨hd, hn⟩ := xi_dn_of hd
  obtain ⟨j, a, r, n, f, rfl, hq, hin, rfl, rfl, rfl, rfl⟩ := xi_ald_of h
  intro ρ H locs cells slots lsC hw hl hs
  rw [hn] at k
  have kk := k ρ H locs cells slots lsC hw hl (hs.tail.tail.cons trivial)
  by_cases hlt : a < 1000000
  · obtain ⟨hq2, rfl⟩ := xi_ar_lo hq hlt
    have he := xi_ws_at (cs := cs) (ρ := ρ) hq2
    rw [xi_ec_i (by omega) (by omega)] at he
    exact va_bald hx hb hw.1 hw.2.1 a (10 - 9) he rfl hin hd kk
  · have hT := xi_ro_at hw.2.2.2.2.2.1 (xi_ar_hi hq hlt)
    rw [show 1000000 + (a - 1000000) = a from Nat.add_sub_cancel' (Nat.not_lt.mp hlt), ← hw.2.2.2.2.2.2.2.1 a (Or.inr (Nat.not_lt.mp hlt))] at hT
    exact va_tb hx hb hT hw.2.2.2.1 hin rfl hd kk
theorem xi_s_laload (hx : p.tables.exec = Jvm.exec) (hb : c.code = cc) (hd : xi_dn cc pcs i (.laload, nf, k1, k2) 1 = true) (h : xi_stp scr (.laload, nf, k1, k2) i ls st S = some (i2, ls2, st2, S2)) (k : xi_G p l en R s m args below meth c Q D cs scr A nL ρ0 N0 L0 (pcs i2) ls2 (st2) S2) : xi_G p l en R s m args below meth c Q D cs scr A nL ρ0 N0 L0 (pcs i) ls (st) S := by
  obtain ⟨hd, hn⟩ := xi_dn_of hd
  have h : xi_lald i ls st S = some (i2, ls2, st2, S2) := h
  rcases st with _ | ⟨v, _ | ⟨u, r⟩⟩
  · simp [xi_lald] at h
  · cases v <;> simp [xi_lald] at h
  · cases v with
    | int j =>
      cases u with
      | ref a =>
        simp only [xi_lald] at h
        cases hq : S.1[a]? with
        | none => rw [hq] at h; cases h
        | some q =>
          obtain ⟨t, n⟩ := q
          rw [hq] at h
          simp only at h
          by_cases ht : t = 11
          · rw [if_pos ht] at h
            by_cases hin : j < 0 ∨ n ≤ j.toNatClampNeg
            · rw [if_pos hin] at h
              cases h
            · rw [if_neg hin] at h
              cases h
              subst ht
              intro ρ H locs cells slots lsC hw hl hs
              rw [hn] at k
              have he := xi_ws_at (cs := cs) (ρ := ρ) hq
              rw [xi_ec_l] at he
              exact va_lald hx hb hw.1 hw.2.1 a 2 he rfl hin hd (k ρ H locs cells slots lsC hw hl (hs.tail.tail.cons trivial))
          · rw [if_neg ht] at h
            cases h
      | _ => simp [xi_lald] at h
    | _ => simp [xi_lald] at h
theorem xi_s_aaload (hx : p.tables.exec = Jvm.exec) (hb : c.code = cc) (hd : xi_dn cc pcs i (.aaload, nf, k1, k2) 1 = true) (h : xi_stp scr (.aaload, nf, k1, k2) i ls st S = some (i2, ls2, st2, S2)) (k : xi_G p l en R s m args below meth c Q D cs scr A nL ρ0 N0 L0 (pcs i2) ls2 (st2) S2) : xi_G p l en R s m args below meth c Q D cs scr A nL ρ0 N0 L0 (pcs i) ls (st) S := by
  obtain ⟨hd, hn⟩ := xi_dn_of hd
  have h : xi_aald i ls st S = some (i2, ls2, st2, S2) := h
  rcases st with _ | ⟨v, _ | ⟨u, r⟩⟩
  · simp [xi_aald] at h
  · cases v <;> simp [xi_aald] at h
  · cases v with
    | int j =>
      cases u with
      | ref a =>
        simp only [xi_aald] at h
        cases hq : S.1[a]? with
        | none => rw [hq] at h; cases h
        | some q =>
          obtain ⟨t, n⟩ := q
          rw [hq] at h
          simp only at h
          by_cases ht : 12 ≤ t ∧ t ≤ 14
          · rw [if_pos ht] at h
            by_cases hin : j < 0 ∨ n ≤ j.toNatClampNeg
            · rw [if_pos hin] at h
              cases h
            · rw [if_neg hin] at h
              cases h
              intro ρ H locs cells slots lsC hw hl hs
              rw [hn] at k
              have he := xi_ws_at (cs := cs) (ρ := ρ) hq
              rw [xi_ec_r ht.1] at he
              have hlt : j.toNatClampNeg < n := Nat.not_le.mp fun q => hin (Or.inr q)
              have hty : (xi_at t).isReference = true := by
                rcases (show t = 12 ∨ t = 13 ∨ t = 14 by omega) with rfl | rfl | rfl <;> rfl
              have kk := k ρ H locs cells slots lsC hw hl (hs.tail.tail.cons (by
                cases hh : S.2.2.2 a j.toNatClampNeg with
                | none => trivial
                | some r2 => exact Or.inl (hw.2.2.2.2.2.2.1 a _ r2 (List.getElem?_eq_some_iff.mp hq).1 hh)))
              rw [List.map_cons, xi_cv_rf] at kk
              exact W.aald (v := va_rf ((S.2.2.2 a j.toNatClampNeg).map ρ)) (ty := xi_at t) hx hb (hw.2.1 a _ he) ((hw.1.2 (t - 9) _ (xi_ts_at cs (by omega) ht.2)).1 n (fun b => va_rf ((S.2.2.2 a b).map ρ))) hty (fun q => by cases q) (by show ¬ (j < 0 ∨ (arrV _ _ _).slots.size ≤ _); rw [arrV_size]; exact hin) (by show (arrV _ _ _).slots[_]? = _; rw [arrV_read _ _ hlt]) rfl rfl hd kk
          · rw [if_neg ht] at h
            cases h
      | _ => simp [xi_aald] at h
    | _ => simp [xi_aald] at h
theorem xi_s_iastore (hx : p.tables.exec = Jvm.exec) (hb : c.code = cc) (hd : xi_dn cc pcs i (.iastore, nf, k1, k2) 1 = true) (h : xi_stp scr (.iastore, nf, k1, k2) i ls st S = some (i2, ls2, st2, S2)) (k : xi_G p l en R s m args below meth c Q D cs scr A nL ρ0 N0 L0 (pcs i2) ls2 (st2) S2) : xi_G p l en R s m args below meth c Q D cs scr A nL ρ0 N0 L0 (pcs i) ls (st) S := by
  obtain ⟨hd, hn⟩ := xi_dn_of hd
  have h : xi_ast 9 i ls st S = some (i2, ls2, st2, S2) := h
  rcases st with _ | ⟨v, _ | ⟨u, _ | ⟨z, r⟩⟩⟩
  · simp [xi_ast] at h
  · cases v <;> simp [xi_ast] at h
  · cases v <;> cases u <;> simp [xi_ast] at h
  · cases v with
    | int x =>
      cases u with
      | int j =>
        cases z with
        | ref a =>
          simp only [xi_ast] at h
          cases hq : S.1[a]? with
          | none => rw [hq] at h; cases h
          | some q =>
            obtain ⟨t, n⟩ := q
            rw [hq] at h
            simp only at h
            by_cases ht : t = 9
            · rw [if_pos ht] at h
              by_cases hin : j < 0 ∨ n ≤ j.toNatClampNeg
              · rw [if_pos hin] at h
                cases h
              · rw [if_neg hin] at h
                cases h
                subst ht
                intro ρ H locs cells slots lsC hw hl hs
                rw [hn] at k
                have he := xi_ws_at (cs := cs) (ρ := ρ) hq
                rw [xi_ec_i (by omega) (by omega)] at he
                refine va_iast hx hb hw.1 hw.2.1 hw.2.2.1 hw.2.2.2.1 a (9 - 9) he rfl hin hd (fun H1 locs1 hP1 hD1 hS1 => ?_)
                have hws : xi_ws cs ρ (S.1, xi_up S.2.1 a j.toNatClampNeg (x), S.2.2) = (xi_ws cs ρ S).set a (ρ a, .inl (cs 9, n, .inl (upd (S.2.1 a) j.toNatClampNeg (x)))) := by
                  rw [xi_ws_set (S := S) (S2 := (S.1, xi_up S.2.1 a j.toNatClampNeg (x), S.2.2)) rfl hq (fun b hb => xi_up_ne hb) (fun b hb => rfl) (fun b hb => rfl), xi_ec_i (by omega) (by omega), ← xi_upd]
                rw [← hws] at hP1 hD1
                exact k ρ H1 locs1 cells slots lsC ⟨hw.1, hP1, hD1, hS1, hw.2.2.2.2.1, hw.2.2.2.2.2.1, hw.2.2.2.2.2.2.1, hw.2.2.2.2.2.2.2.1, hw.2.2.2.2.2.2.2.2.1, hw.2.2.2.2.2.2.2.2.2⟩ hl hs.tail.tail.tail
            · rw [if_neg ht] at h
              cases h
        | _ => simp [xi_ast] at h
      | _ => cases z <;> simp [xi_ast] at h
    | _ => cases u <;> cases z <;> simp [xi_ast] at h
theorem xi_s_bastore (hx : p.tables.exec = Jvm.exec) (hb : c.code = cc) (hd : xi_dn cc pcs i (.bastore, nf, k1, k2) 1 = true) (h : xi_stp scr (.bastore, nf, k1, k2) i ls st S = some (i2, ls2, st2, S2)) (k : xi_G p l en R s m args below meth c Q D cs scr A nL ρ0 N0 L0 (pcs i2) ls2 (st2) S2) : xi_G p l en R s m args below meth c Q D cs scr A nL ρ0 N0 L0 (pcs i) ls (st) S := by
  obtain ⟨hd, hn⟩ := xi_dn_of hd
  have h : xi_ast 10 i ls st S = some (i2, ls2, st2, S2) := h
  rcases st with _ | ⟨v, _ | ⟨u, _ | ⟨z, r⟩⟩⟩
  · simp [xi_ast] at h
  · cases v <;> simp [xi_ast] at h
  · cases v <;> cases u <;> simp [xi_ast] at h
  · cases v with
    | int x =>
      cases u with
      | int j =>
        cases z with
        | ref a =>
          simp only [xi_ast] at h
          cases hq : S.1[a]? with
          | none => rw [hq] at h; cases h
          | some q =>
            obtain ⟨t, n⟩ := q
            rw [hq] at h
            simp only at h
            by_cases ht : t = 10
            · rw [if_pos ht] at h
              by_cases hin : j < 0 ∨ n ≤ j.toNatClampNeg
              · rw [if_pos hin] at h
                cases h
              · rw [if_neg hin] at h
                cases h
                subst ht
                intro ρ H locs cells slots lsC hw hl hs
                rw [hn] at k
                have he := xi_ws_at (cs := cs) (ρ := ρ) hq
                rw [xi_ec_i (by omega) (by omega)] at he
                refine va_bast hx hb hw.1 hw.2.1 hw.2.2.1 hw.2.2.2.1 a (10 - 9) he rfl hin hd (fun H1 locs1 hP1 hD1 hS1 => ?_)
                rw [vp_nar_byte] at hP1 hD1
                have hws : xi_ws cs ρ (S.1, xi_up S.2.1 a j.toNatClampNeg (x.toInt8.toInt32), S.2.2) = (xi_ws cs ρ S).set a (ρ a, .inl (cs 10, n, .inl (upd (S.2.1 a) j.toNatClampNeg (x.toInt8.toInt32)))) := by
                  rw [xi_ws_set (S := S) (S2 := (S.1, xi_up S.2.1 a j.toNatClampNeg (x.toInt8.toInt32), S.2.2)) rfl hq (fun b hb => xi_up_ne hb) (fun b hb => rfl) (fun b hb => rfl), xi_ec_i (by omega) (by omega), ← xi_upd]
                rw [← hws] at hP1 hD1
                exact k ρ H1 locs1 cells slots lsC ⟨hw.1, hP1, hD1, hS1, hw.2.2.2.2.1, hw.2.2.2.2.2.1, hw.2.2.2.2.2.2.1, hw.2.2.2.2.2.2.2.1, hw.2.2.2.2.2.2.2.2.1, hw.2.2.2.2.2.2.2.2.2⟩ hl hs.tail.tail.tail
            · rw [if_neg ht] at h
              cases h
        | _ => simp [xi_ast] at h
      | _ => cases z <;> simp [xi_ast] at h
    | _ => cases u <;> cases z <;> simp [xi_ast] at h
theorem xi_s_lastore (hx : p.tables.exec = Jvm.exec) (hb : c.code = cc) (hd : xi_dn cc pcs i (.lastore, nf, k1, k2) 1 = true) (h : xi_stp scr (.lastore, nf, k1, k2) i ls st S = some (i2, ls2, st2, S2)) (k : xi_G p l en R s m args below meth c Q D cs scr A nL ρ0 N0 L0 (pcs i2) ls2 (st2) S2) : xi_G p l en R s m args below meth c Q D cs scr A nL ρ0 N0 L0 (pcs i) ls (st) S := by
  obtain ⟨hd, hn⟩ := xi_dn_of hd
  have h : xi_last i ls st S = some (i2, ls2, st2, S2) := h
  rcases st with _ | ⟨v, _ | ⟨u, _ | ⟨z, r⟩⟩⟩
  · simp [xi_last] at h
  · cases v <;> simp [xi_last] at h
  · cases v <;> cases u <;> simp [xi_last] at h
  · cases v with
    | long x =>
      cases u with
      | int j =>
        cases z with
        | ref a =>
          simp only [xi_last] at h
          cases hq : S.1[a]? with
          | none => rw [hq] at h; cases h
          | some q =>
            obtain ⟨t, n⟩ := q
            rw [hq] at h
            simp only at h
            by_cases ht : t = 11
            · rw [if_pos ht] at h
              by_cases hin : j < 0 ∨ n ≤ j.toNatClampNeg
              · rw [if_pos hin] at h
                cases h
              · rw [if_neg hin] at h
                cases h
                subst ht
                intro ρ H locs cells slots lsC hw hl hs
                rw [hn] at k
                have he := xi_ws_at (cs := cs) (ρ := ρ) hq
                rw [xi_ec_l] at he
                refine va_last hx hb hw.1 hw.2.1 hw.2.2.1 hw.2.2.2.1 a 2 he rfl hin hd (fun H1 locs1 hP1 hD1 hS1 => ?_)
                have hws : xi_ws cs ρ (S.1, S.2.1, xi_up S.2.2.1 a j.toNatClampNeg x, S.2.2.2) = (xi_ws cs ρ S).set a (ρ a, .inl (cs 11, n, .inr (.inl (vp_updL (S.2.2.1 a) j.toNatClampNeg x)))) := by
                  rw [xi_ws_set (S := S) (S2 := (S.1, S.2.1, xi_up S.2.2.1 a j.toNatClampNeg x, S.2.2.2)) rfl hq (fun b hb => rfl) (fun b hb => xi_up_ne hb) (fun b hb => rfl), xi_ec_l, ← xi_updL]
                rw [← hws] at hP1 hD1
                exact k ρ H1 locs1 cells slots lsC ⟨hw.1, hP1, hD1, hS1, hw.2.2.2.2.1, hw.2.2.2.2.2.1, hw.2.2.2.2.2.2.1, hw.2.2.2.2.2.2.2.1, hw.2.2.2.2.2.2.2.2.1, hw.2.2.2.2.2.2.2.2.2⟩ hl hs.tail.tail.tail
            · rw [if_neg ht] at h
              cases h
        | _ => simp [xi_last] at h
      | _ => cases z <;> simp [xi_last] at h
    | _ => cases u <;> cases z <;> simp [xi_last] at h
theorem xi_s_aastore (hx : p.tables.exec = Jvm.exec) (hb : c.code = cc) (hd : xi_dn cc pcs i (.aastore, nf, k1, k2) 1 = true) (h : xi_stp scr (.aastore, nf, k1, k2) i ls st S = some (i2, ls2, st2, S2)) (k : xi_G p l en R s m args below meth c Q D cs scr A nL ρ0 N0 L0 (pcs i2) ls2 (st2) S2) : xi_G p l en R s m args below meth c Q D cs scr A nL ρ0 N0 L0 (pcs i) ls (st) S := by
  obtain ⟨hd, hn⟩ := xi_dn_of hd
  have h : xi_aast i ls st S = some (i2, ls2, st2, S2) := h
  rcases st with _ | ⟨v, _ | ⟨u, _ | ⟨z, r⟩⟩⟩
  · simp [xi_aast] at h
  · cases v <;> simp [xi_aast] at h
  · cases v <;> cases u <;> simp [xi_aast] at h
  · cases v with
    | ref x =>
      cases u with
      | int j =>
        cases z with
        | ref a =>
          simp only [xi_aast] at h
          cases hq : S.1[a]? with
          | none => rw [hq] at h; cases h
          | some q =>
            cases hq2 : S.1[x]? with
            | none => rw [hq, hq2] at h; cases h
            | some q2 =>
              obtain ⟨t, n⟩ := q
              obtain ⟨t2, n2⟩ := q2
              rw [hq, hq2] at h
              simp only at h
              by_cases ht : t = 12 ∧ t2 = 1
              · rw [if_pos ht] at h
                by_cases hin : j < 0 ∨ n ≤ j.toNatClampNeg
                · rw [if_pos hin] at h
                  cases h
                · rw [if_neg hin] at h
                  cases h
                  obtain ⟨rfl, rfl⟩ := ht
                  intro ρ H locs cells slots lsC hw hl hs
                  rw [hn] at k
                  have he := xi_ws_at (cs := cs) (ρ := ρ) hq
                  rw [xi_ec_r (by omega)] at he
                  have he2 := xi_ws_at (cs := cs) (ρ := ρ) hq2
                  rw [xi_ec_o (by omega)] at he2
                  refine va_astq (r := (xi_cn 1, xi_T 1, xi_nf 1)) hx hb hw.1 hw.2.1 hw.2.2.1 hw.2.2.2.1 a 3 x 1 he rfl he2 rfl hin hd (fun H1 locs1 hP1 hD1 hS1 => ?_)
                  have hws : xi_ws cs ρ (S.1, S.2.1, S.2.2.1, xi_up S.2.2.2 a j.toNatClampNeg (some x)) = (xi_ws cs ρ S).set a (ρ a, .inl (cs 12, n, .inr (.inr (.inr (.inr (va_up (fun b => (S.2.2.2 a b).map ρ) j.toNatClampNeg (some (ρ x)))))))) := by
                    rw [xi_ws_set (S := S) (S2 := (S.1, S.2.1, S.2.2.1, xi_up S.2.2.2 a j.toNatClampNeg (some x))) rfl hq (fun b hb => rfl) (fun b hb => rfl) (fun b hb => xi_up_ne hb), xi_ec_r (by omega), ← xi_updq]
                  rw [← hws] at hP1 hD1
                  refine k ρ H1 locs1 cells slots lsC ⟨hw.1, hP1, hD1, hS1, hw.2.2.2.2.1, hw.2.2.2.2.2.1, ?_, hw.2.2.2.2.2.2.2.1, hw.2.2.2.2.2.2.2.2.1, hw.2.2.2.2.2.2.2.2.2⟩ hl hs.tail.tail.tail
                  intro b j2 r2 hb hr
                  have hr : xi_up S.2.2.2 a j.toNatClampNeg (some x) b j2 = some r2 := hr
                  by_cases e : b = a
                  · subst e
                    by_cases e2 : j2 = j.toNatClampNeg
                    · subst e2
                      rw [xi_up_self] at hr
                      cases hr
                      exact (List.getElem?_eq_some_iff.mp hq2).1
                    · rw [xi_up_ne2 e2] at hr
                      exact hw.2.2.2.2.2.2.1 b j2 r2 hb hr
                  · rw [xi_up_ne e] at hr
                    exact hw.2.2.2.2.2.2.1 b j2 r2 hb hr
              · rw [if_neg ht] at h
                cases h
        | _ => simp [xi_aast] at h
      | _ => cases z <;> simp [xi_aast] at h
    | _ => cases u <;> cases z <;> simp [xi_aast] at h
theorem xi_s_arraylength (hx : p.tables.exec = Jvm.exec) (hb : c.code = cc) (hd : xi_dn cc pcs i (.arraylength, nf, k1, k2) 1 = true) (h : xi_stp scr (.arraylength, nf, k1, k2) i ls st S = some (i2, ls2, st2, S2)) (k : xi_G p l en R s m args below meth c Q D cs scr A nL ρ0 N0 L0 (pcs i2) ls2 (st2) S2) : xi_G p l en R s m args below meth c Q D cs scr A nL ρ0 N0 L0 (pcs i) ls (st) S := by
  obtain ⟨hd, hn⟩ := xi_dn_of hd
  have h : xi_alen scr i ls st S = some (i2, ls2, st2, S2) := h
  rcases st with _ | ⟨v, r⟩
  · simp [xi_alen] at h
  · cases v with
    | ref a =>
      simp only [xi_alen] at h
      cases hq : xi_ar scr S a with
      | none => rw [hq] at h; cases h
      | some q =>
        obtain ⟨t, n, f⟩ := q
        rw [hq] at h
        simp only at h
        by_cases ht : 9 ≤ t ∧ t ≤ 14
        · rw [if_pos ht] at h
          cases h
          intro ρ H locs cells slots lsC hw hl hs
          rw [hn] at k
          have kk := k ρ H locs cells slots lsC hw hl (hs.tail.cons trivial)
          by_cases hlt : a < 1000000
          · obtain ⟨hq2, rfl⟩ := xi_ar_lo hq hlt
            have he := xi_ws_at (cs := cs) (ρ := ρ) hq2
            have he2 : ∃ y : vp_A, xi_ec cs ρ S a (t, n) = .inl (cs t, y) ∧ y.1 = n := by
              unfold xi_ec
              rw [if_neg (by simp; omega)]
              exact ⟨_, rfl, rfl⟩
            obtain ⟨y, hy, hy1⟩ := he2
            rw [hy] at he
            exact va_alen hx hb hw.1 hw.2.1 a (t - 9) he (xi_ts_at cs ht.1 ht.2) (by rw [hy1]) hd kk
          · have hT := xi_ro_at hw.2.2.2.2.2.1 (xi_ar_hi hq hlt)
            rw [show 1000000 + (a - 1000000) = a from Nat.add_sub_cancel' (Nat.not_lt.mp hlt), ← hw.2.2.2.2.2.2.2.1 a (Or.inr (Nat.not_lt.mp hlt))] at hT
            exact va_tlen hx hb hT hw.2.2.2.1 rfl hd kk
        · rw [if_neg ht] at h
          cases h
    | _ => simp [xi_alen] at h
theorem xi_s_getstatic (hx : p.tables.exec = Jvm.exec) (hb : c.code = cc) (hts : ∀ w ∈ xi_tb, w.before args s = true) {own : Nat} (hown : s.vm.findClass (xi_cA own) = some m.cls) {n w : Nat} (hd : xi_dn cc pcs i (.getstatic n, nf, k1, k2) 3 = true) (hF : xi_FN[w]? = some (own, n, xi_k (.getstatic n, nf, k1, k2))) (hlt : xi_k (.getstatic n, nf, k1, k2) < 2) (h : xi_stp scr (.getstatic n, nf, k1, k2) i ls st S = some (i2, ls2, st2, S2)) (k : xi_G p l en R s m args below meth c Q D cs scr A nL ρ0 N0 L0 (pcs i2) ls2 (st2) S2) : xi_G p l en R s m args below meth c Q D cs scr A nL ρ0 N0 L0 (pcs i) ls (st) S := by
  obtain ⟨hd, hn⟩ := xi_dn_of hd
  simp only [xi_stp, Option.some.injEq, Prod.mk.injEq] at h
  obtain ⟨rfl, rfl, rfl, rfl⟩ := h
  intro ρ H locs cells slots lsC hw hl hs
  rw [hn] at k
  have kk := k ρ H locs cells slots lsC hw hl (hs.cons (Or.inr (Nat.le_add_right _ _)))
  generalize xi_k (.getstatic n, nf, k1, k2) = z at hF hlt kk
  have hlink := hts _ (xi_FN_mem hF)
  rw [List.map_cons] at kk
  have hro := hw.2.2.2.2.2.1
  have hρ := hw.2.2.2.2.2.2.2.1 (1000000 + z) (Or.inr (by omega))
  rcases (show z = 0 ∨ z = 1 by omega) with rfl | rfl
  · exact va_getsN hx hb (v := .ref (ρ0 1000000)) hro.2.2.2.1 hw.2.2.2.1 hown hlink (fun _ h => h) hd (by rw [← hρ]; exact kk)
  · exact va_getsN hx hb (v := .ref (ρ0 1000001)) hro.2.2.2.2 hw.2.2.2.1 hown hlink (fun _ h => h) hd (by rw [← hρ]; exact kk)
end XIS
end
section
/-! new cells -/
theorem xi_ws_app {cs : Nat → ClassId} {ρ ρ2 : Nat → Nat} {S S2 : xi_S} {q : Nat × Nat} (hs : S2.1 = S.1 ++ [q]) (hwf : xi_wf S) (h1 : ∀ a, a < S.1.length → S2.2.1 a = S.2.1 a) (h2 : ∀ a, a < S.1.length → S2.2.2.1 a = S.2.2.1 a) (h3 : ∀ a, a < S.1.length → S2.2.2.2 a = S.2.2.2 a) (hρ : ∀ a, a < S.1.length → ρ2 a = ρ a) : xi_ws cs ρ2 S2 = xi_ws cs ρ S ++ [(ρ2 S.1.length, xi_ec cs ρ2 S2 S.1.length q)] := by
  apply List.ext_getElem?
  intro n
  have hl : (xi_ws cs ρ S).length = S.1.length := by unfold xi_ws; rw [List.length_mapIdx]
  by_cases hn : n < S.1.length
  · rw [List.getElem?_append_left (by rw [hl]; exact hn)]
    unfold xi_ws
    rw [List.getElem?_mapIdx, List.getElem?_mapIdx, hs, List.getElem?_append_left hn]
    cases hq : S.1[n]? with
    | none => rfl
    | some x =>
      simp only [Option.map_some]
      rw [hρ n hn, xi_ec_eq (h1 n hn) (h2 n hn) (h3 n hn) (fun j r hr => hρ r (hwf n j r hn hr))]
  · rw [List.getElem?_append_right (by rw [hl]; omega), hl]
    unfold xi_ws
    rw [List.getElem?_mapIdx, hs, List.getElem?_append_right (by omega)]
    by_cases h0 : n = S.1.length
    · subst h0
      simp
    · have : ∃ d, n - S.1.length = d + 1 := ⟨n - S.1.length - 1, by omega⟩
      obtain ⟨d, hd⟩ := this
      rw [hd]
      rfl
theorem xi_lr.ext {ρ ρ2 : Nat → Nat} {N N2 : Nat} {ls : xi_L} {lsC : Array Slot} {nL : Nat} (h : xi_lr ρ N ls lsC nL) (hN : N ≤ N2) (hρ : ∀ k, k < N ∨ 1000000 ≤ k → ρ2 k = ρ k) : xi_lr ρ2 N2 ls lsC nL :=
  ⟨h.1, h.2.1, h.2.2.1, h.2.2.2.1.mono hN, fun j v hv => by rw [xi_cv_eq hρ (h.2.2.2.1 v (List.mem_of_getElem? hv))]; exact h.2.2.2.2 j v hv⟩
theorem xi_sum_app (S : List (Nat × Nat)) (q : Nat × Nat) : ((S ++ [q]).map (fun q => q.2)).sum = (S.map (fun q => q.2)).sum + q.2 := by simp
def xi_df (f : Nat) : Value := match f with
  | 0 => .int 0
  | 1 => .long 0
  | 3 => .int 0
  | _ => .null
theorem xi_df_ok : ∀ ci, ci < 9 → ∀ j, j < xi_nf ci → defaultValue (xi_ft ci j) = xi_df (xi_kd ci j) := by decide +kernel
/-- the store with one more cell -/
def xi_S1 (S : xi_S) (q : Nat × Nat) : xi_S := (S.1 ++ [q], xi_ua S.2.1 S.1.length (fun _ => 0), xi_ua S.2.2.1 S.1.length (fun _ => 0), xi_ua S.2.2.2 S.1.length (fun _ => none))
theorem xi_S1_wf {S : xi_S} {q : Nat × Nat} (h : xi_wf S) : xi_wf (xi_S1 S q) := by
  intro k j r hk hr
  have hk : k < (S.1 ++ [q]).length := hk
  rw [List.length_append, List.length_singleton] at hk
  have hr : xi_ua S.2.2.2 S.1.length (fun _ => none) k j = some r := hr
  show r < (S.1 ++ [q]).length
  rw [List.length_append, List.length_singleton]
  by_cases e : k = S.1.length
  · subst e
    rw [xi_ua_at] at hr
    cases hr
  · rw [xi_ua_ne e] at hr
    exact Nat.lt_succ_of_lt (h k j r (by omega) hr)
theorem xi_fs_new {ρ : Nat → Nat} {S : xi_S} {t n : Nat} : xi_fs ρ (xi_S1 S (t, n)) S.1.length t = (List.range (xi_nf t)).map (fun j => xi_df (xi_kd t j)) := by
  unfold xi_fs
  apply List.map_congr_left
  intro j _
  unfold xi_gv xi_df xi_S1
  simp only [xi_ua_at]
  split <;> (simp_all <;> rfl)

section XIS
variable {p : Program} {l : Launch} {en : Env} {R : Room} {s : State} {m : MethodId} {args : Array Value} {below : List Frame} {meth : Method} {c : Code} {Q : State → Prop} {D : va_G} {cs : Nat → ClassId} {scr : xi_X} {A : Nat → Prop} {nL : Nat} {ρ0 : Nat → Nat} {N0 L0 : Nat} {cc : ByteArray} {pcs : Nat → Nat} {i i2 : Nat} {ls ls2 : xi_L} {st st2 : List Value} {S S2 : xi_S} {nf : List Nat} {k1 : Int32} {k2 : Int64}

/-- behind the making of a cell -/
theorem xi_new_core {t N2 n : Nat} {r : List Value} {e0 : va_E} {ρ : Nat → Nat} {H1 : Heap} {locs : List Loc} {cells slots q : Nat} {lsC : Array Slot} {H : Heap} (hN : S.1.length < 1000000) (hw : xi_wr D cs scr A s ρ0 N0 L0 cells slots ρ S H locs) (hl : xi_lr ρ S.1.length ls lsC nL) (hs : xi_wst S.1.length r)
    (he : ∀ ρ2 : Nat → Nat, xi_ec cs ρ2 (xi_S1 S (t, N2)) S.1.length (t, N2) = e0) (hP1 : va_P D xi_cl (xi_ws cs ρ S ++ [(q, e0)]) H1) (hD1 : va_D A (xi_ws cs ρ S ++ [(q, e0)])) (hS1 : va_S A s.heap H1 locs) (k : xi_G p l en R s m args below meth c Q D cs scr A nL ρ0 N0 L0 (pcs i + n) ls (.ref S.1.length :: r) (xi_S1 S (t, N2))) :
    W p l en R s m args below meth c H1 locs (cells + 1) (slots + N2) Q (F0 m (pcs i + n) lsC (.ref q :: r.map (xi_cv ρ))) := by
  obtain ⟨ρ2, hρ2⟩ : ∃ ρ2 : Nat → Nat, ρ2 = fun x => if x = S.1.length then q else ρ x := ⟨_, rfl⟩
  have hq : ρ2 S.1.length = q := by rw [hρ2]; simp
  have hlt : ∀ a, a < S.1.length ∨ 1000000 ≤ a → ρ2 a = ρ a := fun a ha => by rw [hρ2]; simp only; rw [if_neg (by omega)]
  have hws : xi_ws cs ρ2 (xi_S1 S (t, N2)) = xi_ws cs ρ S ++ [(q, e0)] := by
    rw [xi_ws_app (S := S) (S2 := xi_S1 S (t, N2)) rfl hw.2.2.2.2.2.2.1 (fun a ha => xi_ua_ne (by omega)) (fun a ha => xi_ua_ne (by omega)) (fun a ha => xi_ua_ne (by omega)) (fun a ha => hlt a (Or.inl ha)), hq, he]
  rw [← hws] at hP1 hD1
  have hlen : (xi_S1 S (t, N2)).1.length = S.1.length + 1 := by show (S.1 ++ [(t, N2)]).length = _; simp
  have hz : xi_sz (xi_S1 S (t, N2)) = L0 + (slots + N2) := by
    show ((S.1 ++ [(t, N2)]).map (fun q => q.2)).sum = _
    rw [xi_sum_app]
    have := hw.2.2.2.2.2.2.2.2.2
    unfold xi_sz at this
    omega
  have hn := hw.2.2.2.2.2.2.2.2.1
  have kk := k ρ2 H1 locs (cells + 1) (slots + N2) lsC ⟨hw.1, hP1, hD1, hS1, hw.2.2.2.2.1, hw.2.2.2.2.2.1, xi_S1_wf hw.2.2.2.2.2.2.1, fun a ha => by rw [hlt a (by omega)]; exact hw.2.2.2.2.2.2.2.1 a ha, by rw [hlen]; omega, hz⟩ (by rw [hlen]; exact hl.ext (by omega) hlt) (by rw [hlen]; exact (hs.mono (Nat.le_succ _)).cons (Or.inl (Nat.lt_succ_self _)))
  rw [List.map_cons, xi_cv_map hlt hs] at kk
  rw [show xi_cv ρ2 (.ref S.1.length) = .ref q by show Value.ref (ρ2 S.1.length) = _; rw [hq]] at kk
  exact kk
theorem xi_s_new (hx : p.tables.exec = Jvm.exec) (hb : c.code = cc) (hts : ∀ w ∈ xi_tb, w.before args s = true) {own : Nat} (hown : s.vm.findClass (xi_cA own) = some m.cls) {n w : Nat} (hd : xi_dn cc pcs i (.new n, nf, k1, k2) 3 = true) (hF : xi_KL[w]? = some (own, n, xi_k (.new n, nf, k1, k2))) (hk9 : xi_k (.new n, nf, k1, k2) < 9) (hN : S.1.length < 1000000) (hB : S2.1.length ≤ N0 + R.cells ∧ xi_sz S2 ≤ L0 + R.slots) (h : xi_stp scr (.new n, nf, k1, k2) i ls st S = some (i2, ls2, st2, S2)) (k : xi_G p l en R s m args below meth c Q D cs scr A nL ρ0 N0 L0 (pcs i2) ls2 (st2) S2) : xi_G p l en R s m args below meth c Q D cs scr A nL ρ0 N0 L0 (pcs i) ls (st) S := by
  obtain ⟨hd, hn⟩ := xi_dn_of hd
  have h : xi_new nf i ls st S = some (i2, ls2, st2, S2) := h
  rcases nf with _ | ⟨ci, _ | ⟨z, y⟩⟩
  · simp [xi_new] at h
  · have hF : xi_KL[w]? = some (own, n, ci) := hF
    have hk9 : ci < 9 := hk9
    simp only [xi_new] at h
    rw [if_pos hk9] at h
    cases h
    intro ρ H locs cells slots lsC hw hl hs
    rw [hn] at k
    have hlink := hts _ (xi_KL_mem hF)
    have hkn : xi_kn ci = xi_cn ci := by unfold xi_kn; rw [if_neg (by omega), if_neg (by omega)]
    rw [hkn] at hlink
    have hB1 : S.1.length + 1 ≤ N0 + R.cells := by have := hB.1; simpa using this
    have hB2 : xi_sz S + xi_nf ci ≤ L0 + R.slots := by have := hB.2; unfold xi_sz at this ⊢; rw [xi_sum_app] at this; exact this
    have hn1 := hw.2.2.2.2.2.2.2.2.1
    have hn2 := hw.2.2.2.2.2.2.2.2.2
    refine va_new (C := xi_cn ci) (T := xi_T ci) (N := xi_nf ci) (ci := ci) (fs := (List.range (xi_nf ci)).map (fun j => xi_df (xi_kd ci j))) hx hb hts (xi_in hk9) (xi_ft ci) (xi_ty ci hk9) hown hlink (hts _ (xi_tb_of (List.mem_of_getElem? (xi_ip_ok ci hk9).1) rfl)) (hts _ (xi_tb_of (List.mem_of_getElem? (xi_ip_ok ci hk9).2) rfl)) hw.1 hw.2.1 hw.2.2.1 hw.2.2.2.1 hw.2.2.2.2.1 (xi_cl_at hk9) (fun j hj => ?_) (by omega) (by omega) hd (fun q H1 hP1 hD1 hS1 => ?_)
    · rw [xi_df_ok ci hk9 j hj]
      unfold vp_V
      rw [List.getD_eq_getElem?_getD, List.getElem?_map, List.getElem?_range hj]
      rfl
    · exact xi_new_core hN hw hl hs (fun ρ2 => by rw [xi_ec_o hk9, xi_fs_new]) hP1 hD1 hS1 k
  · simp [xi_new] at h
theorem xi_newa_of {tag : Nat} (h : xi_newa tag i ls st S = some (i2, ls2, st2, S2)) : ∃ n r, st = .int n :: r ∧ ¬ n < 0 ∧ n.toNatClampNeg ≤ 1000 ∧ i2 = i + 1 ∧ ls2 = ls ∧ st2 = .ref S.1.length :: r ∧ S2 = xi_S1 S (tag, n.toNatClampNeg) := by
  rcases st with _ | ⟨v, r⟩
  · simp [xi_newa] at h
  · cases v with
    | int n =>
      simp only [xi_newa] at h
      by_cases hc : n < 0 ∨ 1000 < n.toNatClampNeg
      · rw [if_pos hc] at h
        cases h
      · rw [if_neg hc] at h
        cases h
        exact ⟨n, r, rfl, fun e => hc (Or.inl e), Nat.le_of_not_lt (fun e => hc (Or.inr e)), rfl, rfl, rfl, rfl⟩
    | _ => simp [xi_newa] at h
theorem xi_s_newarray (hx : p.tables.exec = Jvm.exec) (hb : c.code = cc) (hts : ∀ w ∈ xi_tb, w.before args s = true) {at0 : ArrayType} (hd : xi_dn cc pcs i (.newarray at0, nf, k1, k2) 2 = true) (hF : 9 ≤ xi_k (.newarray at0, nf, k1, k2) ∧ xi_k (.newarray at0, nf, k1, k2) ≤ 11 ∧ newarray.typeOf at0 = xi_at (xi_k (.newarray at0, nf, k1, k2))) (hN : S.1.length < 1000000) (hB : S2.1.length ≤ N0 + R.cells ∧ xi_sz S2 ≤ L0 + R.slots) (h : xi_stp scr (.newarray at0, nf, k1, k2) i ls st S = some (i2, ls2, st2, S2)) (k : xi_G p l en R s m args below meth c Q D cs scr A nL ρ0 N0 L0 (pcs i2) ls2 (st2) S2) : xi_G p l en R s m args below meth c Q D cs scr A nL ρ0 N0 L0 (pcs i) ls (st) S := by
  obtain ⟨hd, hn⟩ := xi_dn_of hd
  have h : xi_newa (xi_k (.newarray at0, nf, k1, k2)) i ls st S = some (i2, ls2, st2, S2) := h
  generalize xi_k (.newarray at0, nf, k1, k2) = t at hF h
  obtain ⟨z, r, rfl, h0, h1, rfl, rfl, rfl, rfl⟩ := xi_newa_of h
  intro ρ H locs cells slots lsC hw hl hs
  rw [hn] at k
  have hB1 : S.1.length + 1 ≤ N0 + R.cells := by have := hB.1; unfold xi_S1 at this; simpa using this
  have hB2 : xi_sz S + z.toNatClampNeg ≤ L0 + R.slots := by have := hB.2; unfold xi_sz at this ⊢; unfold xi_S1 at this; simp only [xi_sum_app] at this; exact this
  have hn1 := hw.2.2.2.2.2.2.2.2.1
  have hn2 := hw.2.2.2.2.2.2.2.2.2
  obtain ⟨h9, h11, hty⟩ := hF
  have hcA : ∀ (cA : ClassId) (ty : FieldType), ty = xi_at t → va_K D xi_cl (xi_ts cs ++ [(cA, ty)]) s → cA = cs t := fun cA ty hty2 hK2 => by
    subst hty2
    exact xi_RA_eq (hK2.2 6 (cA, xi_at t) rfl).2 (hw.1.2 (t - 9) _ (xi_ts_at cs h9 (by omega))).2
  rcases (show t = 9 ∨ t = 10 ∨ t = 11 by omega) with rfl | rfl | rfl
  · have hty : newarray.typeOf at0 = .int := hty
    refine va_newa hx hb (atype := at0) (by rw [hty]; exact hts _ xi_w_ai) hty hw.1 hw.2.1 hw.2.2.1 hw.2.2.2.1 hw.2.2.2.2.1 (a0 := (z.toNatClampNeg, .inl (fun _ => 0))) (fun _ => rfl) h0 rfl (by show _ * 4 ≤ _; omega) (by omega) (by omega) hd (fun q cA H1 hK2 hP1 hD1 hS1 => ?_)
    have := hcA cA _ rfl hK2
    subst this
    exact xi_new_core hN hw hl hs.tail (fun ρ2 => by rw [xi_ec_i (by omega) (by omega)]; unfold xi_S1; simp only [xi_ua_at]) hP1 hD1 hS1 k
  · have hty : newarray.typeOf at0 = .byte := hty
    refine va_newa hx hb (atype := at0) (by rw [hty]; exact hts _ xi_w_ab) hty hw.1 hw.2.1 hw.2.2.1 hw.2.2.2.1 hw.2.2.2.2.1 (a0 := (z.toNatClampNeg, .inl (fun _ => 0))) (fun _ => rfl) h0 rfl (by show _ * 1 ≤ _; omega) (by omega) (by omega) hd (fun q cA H1 hK2 hP1 hD1 hS1 => ?_)
    have := hcA cA _ rfl hK2
    subst this
    exact xi_new_core hN hw hl hs.tail (fun ρ2 => by rw [xi_ec_i (by omega) (by omega)]; unfold xi_S1; simp only [xi_ua_at]) hP1 hD1 hS1 k
  · have hty : newarray.typeOf at0 = .long := hty
    refine va_newa hx hb (atype := at0) (by rw [hty]; exact hts _ xi_w_aj) hty hw.1 hw.2.1 hw.2.2.1 hw.2.2.2.1 hw.2.2.2.2.1 (a0 := (z.toNatClampNeg, .inr (.inl (fun _ => 0)))) (fun _ => rfl) h0 rfl (by show _ * 8 ≤ _; omega) (by omega) (by omega) hd (fun q cA H1 hK2 hP1 hD1 hS1 => ?_)
    have := hcA cA _ rfl hK2
    subst this
    exact xi_new_core hN hw hl hs.tail (fun ρ2 => by rw [xi_ec_l]; unfold xi_S1; simp only [xi_ua_at]) hP1 hD1 hS1 k
theorem xi_s_anewarray (hx : p.tables.exec = Jvm.exec) (hb : c.code = cc) (hts : ∀ w ∈ xi_tb, w.before args s = true) {own : Nat} (hown : s.vm.findClass (xi_cA own) = some m.cls) {n w : Nat} (hd : xi_dn cc pcs i (.anewarray n, nf, k1, k2) 3 = true) (hF : xi_KL[w]? = some (own, n, 1)) (hN : S.1.length < 1000000) (hB : S2.1.length ≤ N0 + R.cells ∧ xi_sz S2 ≤ L0 + R.slots) (h : xi_stp scr (.anewarray n, nf, k1, k2) i ls st S = some (i2, ls2, st2, S2)) (k : xi_G p l en R s m args below meth c Q D cs scr A nL ρ0 N0 L0 (pcs i2) ls2 (st2) S2) : xi_G p l en R s m args below meth c Q D cs scr A nL ρ0 N0 L0 (pcs i) ls (st) S := by
  obtain ⟨hd, hn⟩ := xi_dn_of hd
  have h : xi_newa 12 i ls st S = some (i2, ls2, st2, S2) := h
  obtain ⟨z, r, rfl, h0, h1, rfl, rfl, rfl, rfl⟩ := xi_newa_of h
  intro ρ H locs cells slots lsC hw hl hs
  rw [hn] at k
  have hB1 : S.1.length + 1 ≤ N0 + R.cells := by have := hB.1; unfold xi_S1 at this; simpa using this
  have hB2 : xi_sz S + z.toNatClampNeg ≤ L0 + R.slots := by have := hB.2; unfold xi_sz at this ⊢; unfold xi_S1 at this; simp only [xi_sum_app] at this; exact this
  have hn1 := hw.2.2.2.2.2.2.2.2.1
  have hn2 := hw.2.2.2.2.2.2.2.2.2
  refine va_newq (C := "GuineaHours$Day") hx hb hown (hts _ (xi_KL_mem hF)) (va_AO.of (hts _ xi_w_od)) hw.1 hw.2.1 hw.2.2.1 hw.2.2.2.1 hw.2.2.2.2.1 h0 rfl (by omega) (by omega) (by omega) hd (fun q cA H1 hK2 hP1 hD1 hS1 => ?_)
  have : cA = cs 12 := xi_RA_eq (hK2.2 6 (cA, .object "GuineaHours$Day") rfl).2 (hw.1.2 3 _ rfl).2
  subst this
  exact xi_new_core hN hw hl hs.tail (fun ρ2 => by rw [xi_ec_r (by omega)]; unfold xi_S1; simp only [xi_ua_at]; rfl) hP1 hD1 hS1 k
end XIS
end
section
/-! arrays of arrays, arraycopy, Object's constructor -/
theorem xi_w_nat : Cond.native arraycopyName ∈ xi_tb := xi_tb_of (List.mem_append_right _ (List.mem_of_getElem? (i := 303) (by decide +kernel))) rfl
theorem xi_w_sta : Cond.static arraycopyName ∈ xi_tb := xi_tb_of (List.mem_append_right _ (List.mem_of_getElem? (i := 302) (by decide +kernel))) rfl
theorem xi_w_sys : Cond.initialized "java/lang/System" ∈ xi_tb := xi_tb_of (List.mem_append_right _ (List.mem_of_getElem? (i := 11) (by decide +kernel))) rfl
theorem xi_w_oi1 : Cond.instanceMethod Lib.objectInit ∈ xi_tb := xi_tb_of (List.mem_append_right _ (List.mem_of_getElem? (i := 20) (by decide +kernel))) rfl
theorem xi_w_oi2 : Cond.code Lib.objectInit ⟨#[0xb1]⟩ 1 none ∈ xi_tb := xi_tb_of (List.mem_append_right _ (List.mem_of_getElem? (i := 21) (by decide +kernel))) rfl
theorem xi_w_mxs : Cond.static Lib.Math.max.name ∈ xi_tb := xi_tb_of (List.mem_append_right _ (List.mem_of_getElem? (i := 675) (by decide +kernel))) rfl
theorem xi_w_mns : Cond.static Lib.Math.min.name ∈ xi_tb := xi_tb_of (List.mem_append_right _ (List.mem_of_getElem? (i := 335) (by decide +kernel))) rfl
theorem xi_w_mti : Cond.initialized "java/lang/Math" ∈ xi_tb := xi_tb_of (List.mem_append_right _ (List.mem_of_getElem? (i := 12) (by decide +kernel))) rfl
theorem xi_w_mxc : Cond.code Lib.Math.max.name Lib.Math.max.code 2 (some .int) ∈ xi_tb := xi_tb_of (List.mem_append_right _ (List.mem_of_getElem? (i := 676) (by decide +kernel))) rfl
theorem xi_w_mnc : Cond.code Lib.Math.min.name Lib.Math.min.code 2 (some .int) ∈ xi_tb := xi_tb_of (List.mem_append_right _ (List.mem_of_getElem? (i := 336) (by decide +kernel))) rfl
theorem xi_y258 : xi_y 258 = Lib.objectInit := by unfold xi_y; rw [if_pos rfl]
theorem xi_y259 : xi_y 259 = arraycopyName := by unfold xi_y; rw [if_neg (by decide), if_pos rfl]
/-- the store with new T[n][k] -/
def xi_Sm (S : xi_S) (out inn N K : Nat) : xi_S := (S.1 ++ [(out, N)] ++ List.replicate N (inn, K),
        (fun a => if S.1.length ≤ a then (fun _ => 0) else S.2.1 a), (fun a => if S.1.length ≤ a then (fun _ => 0) else S.2.2.1 a),
        (fun a => if S.1.length ≤ a then (fun j => if a = S.1.length ∧ j < N then some (S.1.length + 1 + j) else none) else S.2.2.2 a))
theorem xi_Sm_len (S : xi_S) (out inn N K : Nat) : (xi_Sm S out inn N K).1.length = S.1.length + 1 + N := by
  show (S.1 ++ [(out, N)] ++ List.replicate N (inn, K)).length = _
  simp
  omega
theorem xi_Sm_sz (S : xi_S) (out inn N K : Nat) : xi_sz (xi_Sm S out inn N K) = xi_sz S + N + N * K := by
  show ((S.1 ++ [(out, N)] ++ List.replicate N (inn, K)).map (fun q => q.2)).sum = _
  unfold xi_sz
  simp
  omega
theorem xi_Sm_wf {S : xi_S} {out inn N K : Nat} (h : xi_wf S) : xi_wf (xi_Sm S out inn N K) := by
  intro k j r hk hr
  rw [xi_Sm_len] at hk ⊢
  have hr : (if S.1.length ≤ k then (fun j => if k = S.1.length ∧ j < N then some (S.1.length + 1 + j) else none) else S.2.2.2 k) j = some r := hr
  by_cases e : S.1.length ≤ k
  · rw [if_pos e] at hr
    split at hr
    · next hh =>
      have : S.1.length + 1 + j = r := Option.some.inj hr
      omega
    · cases hr
  · rw [if_neg e] at hr
    have := h k j r (by omega) hr
    omega
theorem xi_Sm_ws {cs : Nat → ClassId} {ρ ρ2 : Nat → Nat} {S : xi_S} {out inn N K q : Nat} {r : Nat → Nat} {f : Nat → va_E} (ho : 12 ≤ out) (hi : 9 ≤ inn ∧ inn < 11) (hwf : xi_wf S) (h1 : ∀ a, a < S.1.length → ρ2 a = ρ a) (h2 : ρ2 S.1.length = q) (h3 : ∀ j, j < N → ρ2 (S.1.length + 1 + j) = r j) :
    xi_ws cs ρ2 (xi_Sm S out inn N K) = (xi_ws cs ρ S ++ [(q, .inl (cs out, N, .inr (.inr (.inr (.inr (fun i => if i < N then some (r i) else none))))))]) ++ va_pl ([] ++ (List.range N).map r) (vr_up f ((List.range N).map r) (.inl (cs inn, K, .inl (fun _ => 0)))) := by
  have hl : (xi_ws cs ρ S).length = S.1.length := by unfold xi_ws; rw [List.length_mapIdx]
  apply List.ext_getElem?
  intro n
  by_cases hn : n < S.1.length
  · rw [List.getElem?_append_left (by simp [hl]; omega), List.getElem?_append_left (by rw [hl]; exact hn)]
    unfold xi_ws
    rw [List.getElem?_mapIdx, List.getElem?_mapIdx, show (xi_Sm S out inn N K).1 = S.1 ++ [(out, N)] ++ List.replicate N (inn, K) from rfl, List.getElem?_append_left (by simp; omega), List.getElem?_append_left hn]
    cases hq : S.1[n]? with
    | none => rfl
    | some x =>
      simp only [Option.map_some]
      rw [h1 n hn, xi_ec_eq (S := S) (S2 := xi_Sm S out inn N K) (ρ := ρ) (by show (if _ then _ else _) = _; rw [if_neg (by omega)]) (by show (if _ then _ else _) = _; rw [if_neg (by omega)]) (by show (if _ then _ else _) = _; rw [if_neg (by omega)]) (fun j z hz => h1 z (hwf n j z hn hz))]
  · by_cases h0 : n = S.1.length
    · subst h0
      rw [List.getElem?_append_left (by simp [hl]), List.getElem?_append_right (by rw [hl]; exact Nat.le_refl _), hl, Nat.sub_self]
      unfold xi_ws
      rw [List.getElem?_mapIdx, show (xi_Sm S out inn N K).1 = S.1 ++ [(out, N)] ++ List.replicate N (inn, K) from rfl, List.getElem?_append_left (by simp), List.getElem?_append_right (Nat.le_refl _), Nat.sub_self]
      simp only [List.getElem?_cons_zero, Option.map_some]
      rw [h2, xi_ec_r ho]
      congr 4
      congr 5
      funext j
      show Option.map ρ2 ((if S.1.length ≤ S.1.length then (fun j => if S.1.length = S.1.length ∧ j < N then some (S.1.length + 1 + j) else none) else S.2.2.2 S.1.length) j) = _
      rw [if_pos (Nat.le_refl _)]
      by_cases hj : j < N
      · simp [hj, h3 j hj]
      · simp [hj]
    · obtain ⟨d, hd⟩ : ∃ d, n = S.1.length + 1 + d := ⟨n - S.1.length - 1, by omega⟩
      subst hd
      rw [List.getElem?_append_right (by simp [hl]), show S.1.length + 1 + d - (xi_ws cs ρ S ++ [(q, (Sum.inl (cs out, N, .inr (.inr (.inr (.inr (fun i => if i < N then some (r i) else none))))) : va_E))]).length = d by simp [hl]]
      unfold xi_ws va_pl
      rw [List.getElem?_mapIdx, show (xi_Sm S out inn N K).1 = S.1 ++ [(out, N)] ++ List.replicate N (inn, K) from rfl, List.getElem?_append_right (by simp), show S.1.length + 1 + d - (S.1 ++ [(out, N)]).length = d by simp, List.nil_append, List.getElem?_map, List.getElem?_map]
      by_cases hd : d < N
      · rw [List.getElem?_range hd, List.getElem?_replicate, if_pos hd]
        simp only [Option.map_some]
        rw [h3 d hd, vr_up_in (List.mem_map.mpr ⟨d, List.mem_range.mpr hd, rfl⟩), xi_ec_i hi.1 hi.2]
        congr 5
        refine congrArg Sum.inl ?_
        show (if S.1.length ≤ S.1.length + 1 + d then (fun _ => (0 : Int32)) else S.2.1 (S.1.length + 1 + d)) = fun _ => 0
        rw [if_pos (by omega)]
      · rw [List.getElem?_replicate, if_neg hd, List.getElem?_eq_none (by simp; omega)]
        rfl

section XIS
variable {p : Program} {l : Launch} {en : Env} {R : Room} {s : State} {m : MethodId} {args : Array Value} {below : List Frame} {meth : Method} {c : Code} {Q : State → Prop} {D : va_G} {cs : Nat → ClassId} {scr : xi_X} {A : Nat → Prop} {nL : Nat} {ρ0 : Nat → Nat} {N0 L0 : Nat} {cc : ByteArray} {pcs : Nat → Nat} {i i2 : Nat} {ls ls2 : xi_L} {st st2 : List Value} {S S2 : xi_S} {nf : List Nat} {k1 : Int32} {k2 : Int64}

theorem xi_s_mna_int (hx : p.tables.exec = Jvm.exec) (hb : c.code = cc) (hts : ∀ w ∈ xi_tb, w.before args s = true) {own : Nat} (hown : s.vm.findClass (xi_cA own) = some m.cls) {n w : Nat} (hd : decode cc (pcs i) = .ok (.multianewarray n 2, 4)) (hF : xi_KL[w]? = some (own, n, 14)) {z y : Int32} {r : List Value} (hz : ¬ z < 0) (hy : ¬ y < 0) (hz2 : z.toNatClampNeg ≤ 1000) (hy2 : y.toNatClampNeg ≤ 1000) (hN : S.1.length + 1 + z.toNatClampNeg < 1000000) (hB : S.1.length + 1 + z.toNatClampNeg ≤ N0 + R.cells ∧ xi_sz S + z.toNatClampNeg + z.toNatClampNeg * y.toNatClampNeg ≤ L0 + R.slots)
    (k : xi_G p l en R s m args below meth c Q D cs scr A nL ρ0 N0 L0 (pcs i + 4) ls (.ref S.1.length :: r) (xi_Sm S 14 9 z.toNatClampNeg y.toNatClampNeg)) : xi_G p l en R s m args below meth c Q D cs scr A nL ρ0 N0 L0 (pcs i) ls (.int y :: .int z :: r) S := by
  intro ρ H locs cells slots lsC hw hl hs
  have hn1 := hw.2.2.2.2.2.2.2.2.1
  have hn2 := hw.2.2.2.2.2.2.2.2.2
  have hcy : s.vm.findClass (FieldType.array .int).toString = some (cs 9) := (hw.1.2 (9 - 9) (cs 9, .int) rfl).2
  refine va_mna (X := xi_ws cs ρ S) (L := []) (f := fun _ => .inr (0, [])) (ty := .int) (cy := cs 9) (z := (y.toNatClampNeg, .inl (fun _ => 0))) hx hb hown (hts _ (xi_KL_mem hF)) (show va_AOA .int s from hts _ xi_w_oi) (hts _ xi_w_ai) hcy hw.1 (by rw [show va_pl [] (fun _ => (Sum.inr (0, []) : va_E)) = [] from rfl, List.append_nil]; exact hw.2.1) (by rw [show va_pl [] (fun _ => (Sum.inr (0, []) : va_E)) = [] from rfl, List.append_nil]; exact hw.2.2.1) hw.2.2.2.1 hw.2.2.2.2.1 hz hy rfl rfl (by omega) (by show _ * 4 ≤ _; omega) (by omega) rfl rfl (by omega) (by omega) (fun c => ?_) hd (fun q r0 cA H1 hr hr2 hK2 hP1 hD1 hS1 => ?_)
  · show _ = arrV c _ (fun _ => Value.int 0)
    rw [← arrV_new]
    rfl
  · have : cA = cs 14 := xi_RA_eq (hK2.2 6 (cA, .array .int) rfl).2 (hw.1.2 (14 - 9) _ rfl).2
    subst this
    obtain ⟨ρ2, hρ2⟩ : ∃ ρ2 : Nat → Nat, ρ2 = fun x => if x < S.1.length then ρ x else if x = S.1.length then q else if x < S.1.length + 1 + z.toNatClampNeg then r0 (x - (S.1.length + 1)) else ρ x := ⟨_, rfl⟩
    have e1 : ∀ a, a < S.1.length → ρ2 a = ρ a := fun a ha => by rw [hρ2]; simp only; rw [if_pos ha]
    have e2 : ρ2 S.1.length = q := by rw [hρ2]; simp
    have e3 : ∀ j, j < z.toNatClampNeg → ρ2 (S.1.length + 1 + j) = r0 j := fun j hj => by
      rw [hρ2]
      simp only
      rw [if_neg (by omega), if_neg (by omega), if_pos (by omega), show S.1.length + 1 + j - (S.1.length + 1) = j by omega]
    have e4 : ∀ a, a < S.1.length ∨ 1000000 ≤ a → ρ2 a = ρ a := fun a ha => by
      rcases ha with ha | ha
      · exact e1 a ha
      · rw [hρ2]
        simp only
        rw [if_neg (by omega), if_neg (by omega), if_neg (by omega)]
    rw [← xi_Sm_ws (by omega) (by omega) hw.2.2.2.2.2.2.1 e1 e2 e3] at hP1 hD1
    have kk := k ρ2 H1 locs (cells + 1 + z.toNatClampNeg) (slots + z.toNatClampNeg + z.toNatClampNeg * y.toNatClampNeg) lsC ⟨hw.1, hP1, hD1, hS1, hw.2.2.2.2.1, hw.2.2.2.2.2.1, xi_Sm_wf hw.2.2.2.2.2.2.1, fun a ha => by rw [e4 a (by omega)]; exact hw.2.2.2.2.2.2.2.1 a ha, by rw [xi_Sm_len]; omega, by rw [xi_Sm_sz]; omega⟩ (by rw [xi_Sm_len]; exact hl.ext (by omega) e4) (by rw [xi_Sm_len]; exact (hs.tail.tail.mono (by omega)).cons (Or.inl (Nat.lt_of_lt_of_le (Nat.lt_succ_self _) (Nat.le_add_right _ _))))
    rw [List.map_cons, xi_cv_map e4 hs.tail.tail, show xi_cv ρ2 (.ref S.1.length) = .ref q by show Value.ref (ρ2 S.1.length) = _; rw [e2]] at kk
    exact kk
theorem xi_s_mna_byte (hx : p.tables.exec = Jvm.exec) (hb : c.code = cc) (hts : ∀ w ∈ xi_tb, w.before args s = true) {own : Nat} (hown : s.vm.findClass (xi_cA own) = some m.cls) {n w : Nat} (hd : decode cc (pcs i) = .ok (.multianewarray n 2, 4)) (hF : xi_KL[w]? = some (own, n, 13)) {z y : Int32} {r : List Value} (hz : ¬ z < 0) (hy : ¬ y < 0) (hz2 : z.toNatClampNeg ≤ 1000) (hy2 : y.toNatClampNeg ≤ 1000) (hN : S.1.length + 1 + z.toNatClampNeg < 1000000) (hB : S.1.length + 1 + z.toNatClampNeg ≤ N0 + R.cells ∧ xi_sz S + z.toNatClampNeg + z.toNatClampNeg * y.toNatClampNeg ≤ L0 + R.slots)
    (k : xi_G p l en R s m args below meth c Q D cs scr A nL ρ0 N0 L0 (pcs i + 4) ls (.ref S.1.length :: r) (xi_Sm S 13 10 z.toNatClampNeg y.toNatClampNeg)) : xi_G p l en R s m args below meth c Q D cs scr A nL ρ0 N0 L0 (pcs i) ls (.int y :: .int z :: r) S := by
  intro ρ H locs cells slots lsC hw hl hs
  have hn1 := hw.2.2.2.2.2.2.2.2.1
  have hn2 := hw.2.2.2.2.2.2.2.2.2
  have hcy : s.vm.findClass (FieldType.array .byte).toString = some (cs 10) := (hw.1.2 (10 - 9) (cs 10, .byte) rfl).2
  refine va_mna (X := xi_ws cs ρ S) (L := []) (f := fun _ => .inr (0, [])) (ty := .byte) (cy := cs 10) (z := (y.toNatClampNeg, .inl (fun _ => 0))) hx hb hown (hts _ (xi_KL_mem hF)) (show va_AOA .byte s from hts _ xi_w_ob) (hts _ xi_w_ab) hcy hw.1 (by rw [show va_pl [] (fun _ => (Sum.inr (0, []) : va_E)) = [] from rfl, List.append_nil]; exact hw.2.1) (by rw [show va_pl [] (fun _ => (Sum.inr (0, []) : va_E)) = [] from rfl, List.append_nil]; exact hw.2.2.1) hw.2.2.2.1 hw.2.2.2.2.1 hz hy rfl rfl (by omega) (by show _ * 1 ≤ _; omega) (by omega) rfl rfl (by omega) (by omega) (fun c => ?_) hd (fun q r0 cA H1 hr hr2 hK2 hP1 hD1 hS1 => ?_)
  · show _ = arrV c _ (fun _ => Value.int 0)
    rw [← arrV_new]
    rfl
  · have : cA = cs 13 := xi_RA_eq (hK2.2 6 (cA, .array .byte) rfl).2 (hw.1.2 (13 - 9) _ rfl).2
    subst this
    obtain ⟨ρ2, hρ2⟩ : ∃ ρ2 : Nat → Nat, ρ2 = fun x => if x < S.1.length then ρ x else if x = S.1.length then q else if x < S.1.length + 1 + z.toNatClampNeg then r0 (x - (S.1.length + 1)) else ρ x := ⟨_, rfl⟩
    have e1 : ∀ a, a < S.1.length → ρ2 a = ρ a := fun a ha => by rw [hρ2]; simp only; rw [if_pos ha]
    have e2 : ρ2 S.1.length = q := by rw [hρ2]; simp
    have e3 : ∀ j, j < z.toNatClampNeg → ρ2 (S.1.length + 1 + j) = r0 j := fun j hj => by
      rw [hρ2]
      simp only
      rw [if_neg (by omega), if_neg (by omega), if_pos (by omega), show S.1.length + 1 + j - (S.1.length + 1) = j by omega]
    have e4 : ∀ a, a < S.1.length ∨ 1000000 ≤ a → ρ2 a = ρ a := fun a ha => by
      rcases ha with ha | ha
      · exact e1 a ha
      · rw [hρ2]
        simp only
        rw [if_neg (by omega), if_neg (by omega), if_neg (by omega)]
    rw [← xi_Sm_ws (by omega) (by omega) hw.2.2.2.2.2.2.1 e1 e2 e3] at hP1 hD1
    have kk := k ρ2 H1 locs (cells + 1 + z.toNatClampNeg) (slots + z.toNatClampNeg + z.toNatClampNeg * y.toNatClampNeg) lsC ⟨hw.1, hP1, hD1, hS1, hw.2.2.2.2.1, hw.2.2.2.2.2.1, xi_Sm_wf hw.2.2.2.2.2.2.1, fun a ha => by rw [e4 a (by omega)]; exact hw.2.2.2.2.2.2.2.1 a ha, by rw [xi_Sm_len]; omega, by rw [xi_Sm_sz]; omega⟩ (by rw [xi_Sm_len]; exact hl.ext (by omega) e4) (by rw [xi_Sm_len]; exact (hs.tail.tail.mono (by omega)).cons (Or.inl (Nat.lt_of_lt_of_le (Nat.lt_succ_self _) (Nat.le_add_right _ _))))
    rw [List.map_cons, xi_cv_map e4 hs.tail.tail, show xi_cv ρ2 (.ref S.1.length) = .ref q by show Value.ref (ρ2 S.1.length) = _; rw [e2]] at kk
    exact kk
theorem xi_s_multi (hx : p.tables.exec = Jvm.exec) (hb : c.code = cc) (hts : ∀ w ∈ xi_tb, w.before args s = true) {own : Nat} (hown : s.vm.findClass (xi_cA own) = some m.cls) {n dim w : Nat} (hd : xi_dn cc pcs i (.multianewarray n dim, nf, k1, k2) 4 = true) (hdim : dim = 2) (hF : (nf = [14, 9] ∧ xi_KL[w]? = some (own, n, 14)) ∨ (nf = [13, 10] ∧ xi_KL[w]? = some (own, n, 13))) (hN : S2.1.length < 1000000) (hB : S2.1.length ≤ N0 + R.cells ∧ xi_sz S2 ≤ L0 + R.slots) (h : xi_stp scr (.multianewarray n dim, nf, k1, k2) i ls st S = some (i2, ls2, st2, S2)) (k : xi_G p l en R s m args below meth c Q D cs scr A nL ρ0 N0 L0 (pcs i2) ls2 (st2) S2) : xi_G p l en R s m args below meth c Q D cs scr A nL ρ0 N0 L0 (pcs i) ls (st) S := by
  obtain ⟨hd, hn⟩ := xi_dn_of hd
  subst hdim
  have key : ∀ out inn, xi_mna out inn i ls st S = some (i2, ls2, st2, S2) → ∃ z y r, st = .int y :: .int z :: r ∧ ¬ z < 0 ∧ ¬ y < 0 ∧ z.toNatClampNeg ≤ 1000 ∧ y.toNatClampNeg ≤ 1000 ∧ i2 = i + 1 ∧ ls2 = ls ∧ st2 = .ref S.1.length :: r ∧ S2 = xi_Sm S out inn z.toNatClampNeg y.toNatClampNeg := by
    intro out inn h
    rcases st with _ | ⟨v, _ | ⟨u, r⟩⟩
    · simp [xi_mna] at h
    · cases v <;> simp [xi_mna] at h
    · cases v with
      | int y =>
        cases u with
        | int z =>
          simp only [xi_mna] at h
          by_cases hc : z < 0 ∨ y < 0 ∨ 1000 < z.toNatClampNeg ∨ 1000 < y.toNatClampNeg
          · rw [if_pos hc] at h
            cases h
          · rw [if_neg hc] at h
            cases h
            exact ⟨z, y, r, rfl, fun e => hc (Or.inl e), fun e => hc (Or.inr (Or.inl e)), Nat.le_of_not_lt (fun e => hc (Or.inr (Or.inr (Or.inl e)))), Nat.le_of_not_lt (fun e => hc (Or.inr (Or.inr (Or.inr e)))), rfl, rfl, rfl, rfl⟩
        | _ => simp [xi_mna] at h
      | _ => cases u <;> simp [xi_mna] at h
  rcases hF with ⟨rfl, hF⟩ | ⟨rfl, hF⟩
  · obtain ⟨z, y, r, rfl, h0, h1, h2, h3, rfl, rfl, rfl, rfl⟩ := key 14 9 h
    rw [hn] at k
    rw [xi_Sm_len] at hN hB
    rw [xi_Sm_sz] at hB
    exact xi_s_mna_int hx hb hts hown hd hF h0 h1 h2 h3 hN hB k
  · obtain ⟨z, y, r, rfl, h0, h1, h2, h3, rfl, rfl, rfl, rfl⟩ := key 13 10 h
    rw [hn] at k
    rw [xi_Sm_len] at hN hB
    rw [xi_Sm_sz] at hB
    exact xi_s_mna_byte hx hb hts hown hd hF h0 h1 h2 h3 hN hB k
theorem xi_s_cpy (hx : p.tables.exec = Jvm.exec) (hb : c.code = cc) (hts : ∀ w ∈ xi_tb, w.before args s = true) {own : Nat} (hown : s.vm.findClass (xi_cA own) = some m.cls) (hml : c.maxLocals = nL) (hR : 1 ≤ R.frames ∧ 30 ≤ R.locals) {n w : Nat} (hd : xi_dn cc pcs i (.invokestatic n, nf, k1, k2) 3 = true) (hF : xi_ML[w]? = some (own, n, 259)) (h : xi_cpy i ls st S = some (i2, ls2, st2, S2)) (k : xi_G p l en R s m args below meth c Q D cs scr A nL ρ0 N0 L0 (pcs i2) ls2 (st2) S2) : xi_G p l en R s m args below meth c Q D cs scr A nL ρ0 N0 L0 (pcs i) ls (st) S := by
  obtain ⟨hd, hn⟩ := xi_dn_of hd
  rcases st with _ | ⟨v1, _ | ⟨v2, _ | ⟨v3, _ | ⟨v4, _ | ⟨v5, r⟩⟩⟩⟩⟩
  · simp [xi_cpy] at h
  · simp [xi_cpy] at h
  · simp [xi_cpy] at h
  · simp [xi_cpy] at h
  · simp [xi_cpy] at h
  · unfold xi_cpy at h
    split at h
    · next n0 dp b sp a r0 heq =>
      simp only [List.cons.injEq] at heq
      obtain ⟨rfl, rfl, rfl, rfl, rfl, rfl⟩ := heq
      cases hqa : S.1[a]? with
      | none => rw [hqa] at h; cases h
      | some qa =>
        cases hqb : S.1[b]? with
        | none => rw [hqa, hqb] at h; cases h
        | some qb =>
          obtain ⟨t, m0⟩ := qa
          obtain ⟨t2, m1⟩ := qb
          rw [hqa, hqb] at h
          simp only at h
          split at h
          · next hc =>
            obtain ⟨rfl, rfl, c1, c2, c3, c4, c5, c6⟩ := hc
            cases h
            intro ρ H locs cells slots lsC hw hl hs
            rw [hn] at k
            have ha := xi_ws_at (cs := cs) (ρ := ρ) hqa
            have hbb := xi_ws_at (cs := cs) (ρ := ρ) hqb
            rw [xi_ec_i (by omega) (by omega)] at ha hbb
            have hlink := hts _ (xi_ML_mem hF)
            rw [xi_y259] at hlink
            have hnw : nativeFrameWords "java/lang/System" "arraycopy" 5 = 7 := by decide +kernel
            refine va_copyi hx hb (hml.trans hl.2.1.symm) hown hlink (hts _ xi_w_nat) (hts _ xi_w_sta) (hts _ xi_w_sys) hw.1 hw.2.1 hw.2.2.1 hw.2.2.2.1 a b 0 0 (ty := .int) ha hbb rfl rfl rfl c1 c2 c3 c4 c5 (fun _ _ => rfl) hR.1 (by rw [xi_cv_sum, hnw]; omega) hd (fun H1 locs1 hP1 hD1 hS1 => ?_)
            have hws : xi_ws cs ρ (S.1, xi_ua S.2.1 b (va_cpy (S.2.1 a) (S.2.1 b) sp.toNatClampNeg dp.toNatClampNeg n0.toNatClampNeg), S.2.2) = (xi_ws cs ρ S).set b (ρ b, .inl (cs 9, m1, .inl (va_cpy (S.2.1 a) (S.2.1 b) sp.toNatClampNeg dp.toNatClampNeg n0.toNatClampNeg))) := by
              rw [xi_ws_set (S := S) (S2 := (S.1, xi_ua S.2.1 b (va_cpy (S.2.1 a) (S.2.1 b) sp.toNatClampNeg dp.toNatClampNeg n0.toNatClampNeg), S.2.2)) rfl hqb (fun z hz => xi_ua_ne hz) (fun z hz => rfl) (fun z hz => rfl), xi_ec_i (by omega) (by omega)]
              simp only [xi_ua_at]
            rw [← hws] at hP1 hD1
            exact k ρ H1 locs1 cells slots lsC ⟨hw.1, hP1, hD1, hS1, hw.2.2.2.2.1, hw.2.2.2.2.2.1, hw.2.2.2.2.2.2.1, hw.2.2.2.2.2.2.2.1, hw.2.2.2.2.2.2.2.2.1, hw.2.2.2.2.2.2.2.2.2⟩ hl hs.tail.tail.tail.tail.tail
          · cases h
    · cases h
theorem xi_s_oin (hx : p.tables.exec = Jvm.exec) (hb : c.code = cc) (hts : ∀ w ∈ xi_tb, w.before args s = true) {own : Nat} (hown : s.vm.findClass (xi_cA own) = some m.cls) (hml : c.maxLocals = nL) (hR : 1 ≤ R.frames ∧ 30 ≤ R.locals) {n w : Nat} (hd : xi_dn cc pcs i (.invokespecial n, nf, k1, k2) 3 = true) (hF : xi_ML[w]? = some (own, n, 258)) (h : xi_oin i ls st S = some (i2, ls2, st2, S2)) (k : xi_G p l en R s m args below meth c Q D cs scr A nL ρ0 N0 L0 (pcs i2) ls2 (st2) S2) : xi_G p l en R s m args below meth c Q D cs scr A nL ρ0 N0 L0 (pcs i) ls (st) S := by
  obtain ⟨hd, hn⟩ := xi_dn_of hd
  rcases st with _ | ⟨v, r⟩
  · simp [xi_oin] at h
  · cases v with
    | ref a =>
      simp only [xi_oin] at h
      by_cases hc : (r.map fun v => v.category).sum ≤ 8
      · rw [if_pos hc] at h
        simp only [Option.some.injEq, Prod.mk.injEq] at h
        obtain ⟨rfl, rfl, rfl, rfl⟩ := h
        intro ρ H locs cells slots lsC hw hl hs
        rw [hn] at k
        have hlink := hts _ (xi_ML_mem hF)
        rw [xi_y258] at hlink
        exact W.objInit hx hb hown hlink (hts _ xi_w_oi1) (hts _ xi_w_oi2) rfl (hl.2.1.trans hml.symm) rfl hd hR.1 (by
          have h8 := lv_room (m := m) (pc := pcs i) (ls := lsC) (rest := (Value.ref a :: r).map (xi_cv ρ)) (st := r.map (xi_cv ρ)) (by rw [xi_cv_sum]; exact hc)
          have := hR.2
          exact Nat.le_trans (Nat.add_le_add_right h8 12) (by omega)) (k ρ H locs cells slots lsC hw hl hs.tail)
      · rw [if_neg hc] at h
        cases h
    | _ => simp [xi_oin] at h
theorem xi_s_mm (hx : p.tables.exec = Jvm.exec) (hb : c.code = cc) (hts : ∀ w ∈ xi_tb, w.before args s = true) {own : Nat} (hown : s.vm.findClass (xi_cA own) = some m.cls) (hml : c.maxLocals = nL) (hR : 1 ≤ R.frames ∧ 30 ≤ R.locals) (hBc : S.1.length ≤ N0 + R.cells ∧ xi_sz S ≤ L0 + R.slots) {n w kx : Nat} (hd : xi_dn cc pcs i (.invokestatic n, nf, k1, k2) 3 = true) (hF : (kx = 1 ∧ xi_ML[w]? = some (own, n, 108)) ∨ (kx = 2 ∧ xi_ML[w]? = some (own, n, 28))) (h : xi_mm kx i ls st S = some (i2, ls2, st2, S2)) (k : xi_G p l en R s m args below meth c Q D cs scr A nL ρ0 N0 L0 (pcs i2) ls2 (st2) S2) : xi_G p l en R s m args below meth c Q D cs scr A nL ρ0 N0 L0 (pcs i) ls (st) S := by
  obtain ⟨hd, hn⟩ := xi_dn_of hd
  rcases st with _ | ⟨v, _ | ⟨u, r⟩⟩
  · simp [xi_mm] at h
  · cases v <;> simp [xi_mm] at h
  · cases v with
    | int y =>
      cases u with
      | int x =>
        simp only [xi_mm] at h
        by_cases hc : (r.map fun v => v.category).sum ≤ 8
        · rw [if_pos hc] at h
          simp only [Option.some.injEq, Prod.mk.injEq] at h
          obtain ⟨rfl, rfl, rfl, rfl⟩ := h
          intro ρ H locs cells slots lsC hw hl hs
          rw [hn] at k
          have hn1 := hw.2.2.2.2.2.2.2.2.1
          have hn2 := hw.2.2.2.2.2.2.2.2.2
          have kk := k ρ H locs cells slots lsC hw hl (hs.tail.tail.cons trivial)
          rcases hF with ⟨rfl, hF⟩ | ⟨rfl, hF⟩
          · exact va_mmax hx hb (hml.trans hl.2.1.symm) hown (hts _ (xi_ML_mem hF)) (hts _ xi_w_mxs) (hts _ xi_w_mti) (hts _ xi_w_mxc) hR.1 (by rw [xi_cv_sum]; omega) (by omega) (by omega) hd kk
          · exact va_mmin hx hb (hml.trans hl.2.1.symm) hown (hts _ (xi_ML_mem hF)) (hts _ xi_w_mns) (hts _ xi_w_mti) (hts _ xi_w_mnc) hR.1 (by rw [xi_cv_sum]; omega) (by omega) (by omega) hd kk
        · rw [if_neg hc] at h
          cases h
      | _ => simp [xi_mm] at h
    | _ => cases u <;> simp [xi_mm] at h
end XIS
end
section
/-! the store only grows -/
section XIP
variable {scr : xi_X} {i i2 : Nat} {ls ls2 : xi_L} {st st2 : List Value} {S S2 : xi_S}
theorem xi_p_lod {k : Nat} (h : xi_lod k i ls st S = some (i2, ls2, st2, S2)) : S2.1 = S.1 := by
  unfold xi_lod at h
  repeat' (split at h)
  all_goals (cases h <;> rfl)
theorem xi_p_loL {k : Nat} (h : xi_loL k i ls st S = some (i2, ls2, st2, S2)) : S2.1 = S.1 := by
  unfold xi_loL at h
  repeat' (split at h)
  all_goals (cases h <;> rfl)
theorem xi_p_loA {k : Nat} (h : xi_loA k i ls st S = some (i2, ls2, st2, S2)) : S2.1 = S.1 := by
  unfold xi_loA at h
  repeat' (split at h)
  all_goals (cases h <;> rfl)
theorem xi_p_sto {k : Nat} (h : xi_sto k i ls st S = some (i2, ls2, st2, S2)) : S2.1 = S.1 := by
  unfold xi_sto at h
  repeat' (split at h)
  all_goals (cases h <;> rfl)
theorem xi_p_stL {k : Nat} (h : xi_stL k i ls st S = some (i2, ls2, st2, S2)) : S2.1 = S.1 := by
  unfold xi_stL at h
  repeat' (split at h)
  all_goals (cases h <;> rfl)
theorem xi_p_stA {k : Nat} (h : xi_stA k i ls st S = some (i2, ls2, st2, S2)) : S2.1 = S.1 := by
  unfold xi_stA at h
  repeat' (split at h)
  all_goals (cases h <;> rfl)
theorem xi_p_ii {f : Int32 → Int32 → Int32} (h : xi_ii f i ls st S = some (i2, ls2, st2, S2)) : S2.1 = S.1 := by
  unfold xi_ii at h
  repeat' (split at h)
  all_goals (cases h <;> rfl)
theorem xi_p_id {f : Int32 → Int32 → Int32} (h : xi_id f i ls st S = some (i2, ls2, st2, S2)) : S2.1 = S.1 := by
  unfold xi_id at h
  repeat' (split at h)
  all_goals (cases h <;> rfl)
theorem xi_p_ll {f : Int64 → Int64 → Int64} (h : xi_ll f i ls st S = some (i2, ls2, st2, S2)) : S2.1 = S.1 := by
  unfold xi_ll at h
  repeat' (split at h)
  all_goals (cases h <;> rfl)
theorem xi_p_ld {f : Int64 → Int64 → Int64} (h : xi_ld f i ls st S = some (i2, ls2, st2, S2)) : S2.1 = S.1 := by
  unfold xi_ld at h
  repeat' (split at h)
  all_goals (cases h <;> rfl)
theorem xi_p_lald  (h : xi_lald i ls st S = some (i2, ls2, st2, S2)) : S2.1 = S.1 := by
  unfold xi_lald at h
  repeat' (split at h)
  all_goals (cases h <;> rfl)
theorem xi_p_aald  (h : xi_aald i ls st S = some (i2, ls2, st2, S2)) : S2.1 = S.1 := by
  unfold xi_aald at h
  repeat' (split at h)
  all_goals (cases h <;> rfl)
theorem xi_p_dup  (h : xi_dup i ls st S = some (i2, ls2, st2, S2)) : S2.1 = S.1 := by
  unfold xi_dup at h
  repeat' (split at h)
  all_goals (cases h <;> rfl)
theorem xi_p_dup2  (h : xi_dup2 i ls st S = some (i2, ls2, st2, S2)) : S2.1 = S.1 := by
  unfold xi_dup2 at h
  repeat' (split at h)
  all_goals (cases h <;> rfl)
theorem xi_p_pop  (h : xi_pop i ls st S = some (i2, ls2, st2, S2)) : S2.1 = S.1 := by
  unfold xi_pop at h
  repeat' (split at h)
  all_goals (cases h <;> rfl)
theorem xi_p_i2l  (h : xi_i2l i ls st S = some (i2, ls2, st2, S2)) : S2.1 = S.1 := by
  unfold xi_i2l at h
  repeat' (split at h)
  all_goals (cases h <;> rfl)
theorem xi_p_l2i  (h : xi_l2i i ls st S = some (i2, ls2, st2, S2)) : S2.1 = S.1 := by
  unfold xi_l2i at h
  repeat' (split at h)
  all_goals (cases h <;> rfl)
theorem xi_p_i2b  (h : xi_i2b i ls st S = some (i2, ls2, st2, S2)) : S2.1 = S.1 := by
  unfold xi_i2b at h
  repeat' (split at h)
  all_goals (cases h <;> rfl)
theorem xi_p_cmp  (h : xi_cmp i ls st S = some (i2, ls2, st2, S2)) : S2.1 = S.1 := by
  unfold xi_cmp at h
  repeat' (split at h)
  all_goals (cases h <;> rfl)
theorem xi_p_inc {k : Nat} {n : Int32} (h : xi_inc k n i ls st S = some (i2, ls2, st2, S2)) : S2.1 = S.1 := by
  unfold xi_inc at h
  repeat' (split at h)
  all_goals (cases h <;> rfl)
theorem xi_p_oin  (h : xi_oin i ls st S = some (i2, ls2, st2, S2)) : S2.1 = S.1 := by
  unfold xi_oin at h
  repeat' (split at h)
  all_goals (cases h <;> rfl)
theorem xi_p_last  (h : xi_last i ls st S = some (i2, ls2, st2, S2)) : S2.1 = S.1 := by
  unfold xi_last at h
  repeat' (split at h)
  all_goals (cases h <;> rfl)
theorem xi_p_aast  (h : xi_aast i ls st S = some (i2, ls2, st2, S2)) : S2.1 = S.1 := by
  unfold xi_aast at h
  repeat' (split at h)
  all_goals (cases h <;> rfl)
theorem xi_p_cpy  (h : xi_cpy i ls st S = some (i2, ls2, st2, S2)) : S2.1 = S.1 := by
  unfold xi_cpy at h
  repeat' (split at h)
  all_goals (cases h <;> rfl)
theorem xi_p_mm {k : Nat} (h : xi_mm k i ls st S = some (i2, ls2, st2, S2)) : S2.1 = S.1 := by
  unfold xi_mm at h
  repeat' (split at h)
  all_goals (cases h <;> rfl)
theorem xi_p_ast {k : Nat} (h : xi_ast k i ls st S = some (i2, ls2, st2, S2)) : S2.1 = S.1 := by
  unfold xi_ast at h
  repeat' (split at h)
  all_goals (cases h <;> rfl)
theorem xi_p_get {n : List Nat} (h : xi_get n i ls st S = some (i2, ls2, st2, S2)) : S2.1 = S.1 := by
  unfold xi_get at h
  repeat' (split at h)
  all_goals (cases h <;> rfl)
theorem xi_p_ald {k : Nat} (h : xi_ald scr k i ls st S = some (i2, ls2, st2, S2)) : S2.1 = S.1 := by
  unfold xi_ald at h
  repeat' (split at h)
  all_goals (cases h <;> rfl)
theorem xi_p_alen  (h : xi_alen scr i ls st S = some (i2, ls2, st2, S2)) : S2.1 = S.1 := by
  unfold xi_alen at h
  repeat' (split at h)
  all_goals (cases h <;> rfl)
theorem xi_p_put {n : List Nat} (h : xi_put n i ls st S = some (i2, ls2, st2, S2)) : S2.1 = S.1 := by
  unfold xi_put xi_pv at h
  repeat' (split at h)
  all_goals (try cases h)
  all_goals (first | rfl | (rename_i hh; repeat' (split at hh)) | skip)
  all_goals (rename_i hh; cases hh <;> rfl)
theorem xi_stp_pre {e : xi_E} (h : xi_stp scr e i ls st S = some (i2, ls2, st2, S2)) : ∃ ext, S2.1 = S.1 ++ ext := by
  have key : ∀ T : xi_S, T.1 = S.1 → ∃ ext, T.1 = S.1 ++ ext := fun T hT => ⟨[], by rw [hT, List.append_nil]⟩
  obtain ⟨con, nf, k1, k2⟩ := e
  cases con with
  | iload _ => exact key _ (xi_p_lod h)
  | iload_n _ => exact key _ (xi_p_lod h)
  | lload _ => exact key _ (xi_p_loL h)
  | lload_n _ => exact key _ (xi_p_loL h)
  | aload_n _ => exact key _ (xi_p_loA h)
  | istore _ => exact key _ (xi_p_sto h)
  | istore_n _ => exact key _ (xi_p_sto h)
  | lstore _ => exact key _ (xi_p_stL h)
  | lstore_n _ => exact key _ (xi_p_stL h)
  | astore_n _ => exact key _ (xi_p_stA h)
  | iadd => exact key _ (xi_p_ii h)
  | isub => exact key _ (xi_p_ii h)
  | imul => exact key _ (xi_p_ii h)
  | iand => exact key _ (xi_p_ii h)
  | ior => exact key _ (xi_p_ii h)
  | ixor => exact key _ (xi_p_ii h)
  | ishl => exact key _ (xi_p_ii h)
  | ishr => exact key _ (xi_p_ii h)
  | iushr => exact key _ (xi_p_ii h)
  | idiv => exact key _ (xi_p_id h)
  | irem => exact key _ (xi_p_id h)
  | ladd => exact key _ (xi_p_ll h)
  | lsub => exact key _ (xi_p_ll h)
  | lmul => exact key _ (xi_p_ll h)
  | ldiv => exact key _ (xi_p_ld h)
  | lrem => exact key _ (xi_p_ld h)
  | lcmp => exact key _ (xi_p_cmp h)
  | i2l => exact key _ (xi_p_i2l h)
  | l2i => exact key _ (xi_p_l2i h)
  | i2b => exact key _ (xi_p_i2b h)
  | dup => exact key _ (xi_p_dup h)
  | dup2 => exact key _ (xi_p_dup2 h)
  | pop => exact key _ (xi_p_pop h)
  | iaload => exact key _ (xi_p_ald h)
  | baload => exact key _ (xi_p_ald h)
  | laload => exact key _ (xi_p_lald h)
  | aaload => exact key _ (xi_p_aald h)
  | iastore => exact key _ (xi_p_ast h)
  | bastore => exact key _ (xi_p_ast h)
  | lastore => exact key _ (xi_p_last h)
  | aastore => exact key _ (xi_p_aast h)
  | arraylength => exact key _ (xi_p_alen h)
  | getfield _ => exact key _ (xi_p_get h)
  | putfield _ => exact key _ (xi_p_put h)
  | iinc _ _ => exact key _ (xi_p_inc h)
  | iconst _ => cases h; exact key _ rfl
  | bipush _ => cases h; exact key _ rfl
  | sipush _ => cases h; exact key _ rfl
  | ldc_w _ => cases h; exact key _ rfl
  | lconst _ => cases h; exact key _ rfl
  | ldc2_w _ => cases h; exact key _ rfl
  | getstatic _ => cases h; exact key _ rfl
  | new _ =>
    have h : xi_new nf i ls st S = some (i2, ls2, st2, S2) := h
    unfold xi_new at h
    repeat' (split at h)
    all_goals (cases h <;> exact ⟨_, rfl⟩)
  | newarray _ =>
    obtain ⟨_, _, _, _, _, _, _, _, rfl⟩ := xi_newa_of h
    exact ⟨_, rfl⟩
  | anewarray _ =>
    obtain ⟨_, _, _, _, _, _, _, _, rfl⟩ := xi_newa_of h
    exact ⟨_, rfl⟩
  | multianewarray _ _ =>
    simp only [xi_stp] at h
    split at h
    · unfold xi_mna at h
      repeat' (split at h)
      all_goals (cases h <;> exact ⟨_, List.append_assoc _ _ _⟩)
    · cases h
  | _ => cases h
end XIP
theorem xi_cal_of {pg : xi_P} {d : Nat} {e : xi_E} {st : List Value} {S : xi_S} {run : Nat → List xi_E → xi_L → xi_S → Option (Option Value × xi_S)} {go : List Value → xi_S → Option (Option Value × xi_S)} {x : Option Value × xi_S} (h : xi_cal pg d e st S run go = some x) : ∃ d2 mL na c2 rv S2, d = d2 + 1 ∧ pg (xi_k e) = some (mL, na, c2) ∧ e.2.1[1]? = some na ∧ na ≤ st.length ∧ xi_rcv e.2.1 st S = true ∧ (xi_av (st.take na).reverse).length ≤ mL ∧ ((st.drop na).map fun v => v.category).sum ≤ 8 ∧ run d2 c2 (xi_en (st.take na).reverse mL) S = some (rv, S2) ∧ go (rv.toList ++ st.drop na) S2 = some x := by
  cases d with
  | zero => cases h
  | succ d2 =>
    simp only [xi_cal] at h
    cases hp : pg (xi_k e) with
    | none => rw [hp] at h; cases h
    | some q =>
      obtain ⟨mL, na, c2⟩ := q
      rw [hp] at h
      simp only at h
      split at h
      · next hc =>
        cases hr : run d2 c2 (xi_en (st.take na).reverse mL) S with
        | none => rw [hr] at h; cases h
        | some z =>
          obtain ⟨rv, S2⟩ := z
          rw [hr] at h
          exact ⟨d2, mL, na, c2, rv, S2, rfl, rfl, hc.1, hc.2.1, hc.2.2.1, hc.2.2.2.1, hc.2.2.2.2, hr, h⟩
      · cases h
theorem xi_pre_trans {A B C : List (Nat × Nat)} (h1 : ∃ e, B = A ++ e) (h2 : ∃ e, C = B ++ e) : ∃ e, C = A ++ e := by
  obtain ⟨e1, rfl⟩ := h1
  obtain ⟨e2, rfl⟩ := h2
  exact ⟨e1 ++ e2, List.append_assoc _ _ _⟩
theorem xi_pre_le {S S2 : xi_S} (h : ∃ ext, S2.1 = S.1 ++ ext) : S.1.length ≤ S2.1.length ∧ xi_sz S ≤ xi_sz S2 := by
  obtain ⟨ext, h⟩ := h
  unfold xi_sz
  rw [h]
  simp
set_option maxHeartbeats 4000000 in
theorem xi_ex_pre {pg : xi_P} {scr : xi_X} : ∀ (n d : Nat) (code : List xi_E) (i : Nat) (ls : xi_L) (st : List Value) (S : xi_S) (r : Option Value) (S2 : xi_S), xi_ex pg scr n d code i ls st S = some (r, S2) → ∃ ext, S2.1 = S.1 ++ ext := by
  intro n
  induction n with
  | zero => intro d code i ls st S r S2 h; cases h
  | succ n ih =>
    intro d code i ls st S r S2 h
    have keep : ∀ T : xi_S, T = S → ∃ ext, T.1 = S.1 ++ ext := fun T hT => ⟨[], by rw [hT, List.append_nil]⟩
    have hcal : ∀ e : xi_E, xi_cal pg d e st S (fun d2 c2 l2 S2 => xi_ex pg scr n d2 c2 0 l2 [] S2) (fun st2 S2 => xi_ex pg scr n d code (i + 1) ls st2 S2) = some (r, S2) → ∃ ext, S2.1 = S.1 ++ ext := fun e h => by
      obtain ⟨d2, mL, na, c2, rv, S3, _, _, _, _, _, _, _, h1, h2⟩ := xi_cal_of h
      exact xi_pre_trans (ih _ _ _ _ _ _ _ _ h1) (ih _ _ _ _ _ _ _ _ h2)
    rw [xi_ex_succ] at h
    unfold xi_one at h
    cases hc : code[i]? with
    | none => rw [hc] at h; cases h
    | some e =>
      rw [hc] at h
      simp only at h
      have hstep : (match xi_stp scr e i ls st S with | some (i2, ls2, st2, S2) => xi_ex pg scr n d code i2 ls2 st2 S2 | none => none) = some (r, S2) → ∃ ext, S2.1 = S.1 ++ ext := fun h => by
        cases hs : xi_stp scr e i ls st S with
        | none => rw [hs] at h; cases h
        | some z =>
          obtain ⟨i2, ls2, st2, S3⟩ := z
          rw [hs] at h
          exact xi_pre_trans (xi_stp_pre hs) (ih _ _ _ _ _ _ _ _ h)
      obtain ⟨con, nf, k1, k2⟩ := e
      cases con with
      | goto off => exact ih _ _ _ _ _ _ _ _ h
      | ifCond cd off =>
        simp only at h
        repeat' (split at h)
        all_goals (first | exact ih _ _ _ _ _ _ _ _ h | cases h)
      | if_icmp cd off =>
        simp only at h
        repeat' (split at h)
        all_goals (first | exact ih _ _ _ _ _ _ _ _ h | cases h)
      | tableswitch a b c d =>
        simp only at h
        repeat' (split at h)
        all_goals (first | exact ih _ _ _ _ _ _ _ _ h | cases h)
      | ireturn =>
        simp only at h
        repeat' (split at h)
        all_goals (first | (cases h; exact keep _ rfl) | cases h)
      | lreturn =>
        simp only at h
        repeat' (split at h)
        all_goals (first | (cases h; exact keep _ rfl) | cases h)
      | return_ =>
        simp only at h
        repeat' (split at h)
        all_goals (first | (cases h; exact keep _ rfl) | cases h)
      | invokevirtual k => exact hcal _ h
      | invokestatic k =>
        cases nf with
        | nil =>
          simp only at h
          cases hs : xi_cpy i ls st S with
          | none => rw [hs] at h; cases h
          | some z =>
            obtain ⟨i2, ls2, st2, S3⟩ := z
            rw [hs] at h
            exact xi_pre_trans ⟨[], by rw [xi_p_cpy hs, List.append_nil]⟩ (ih _ _ _ _ _ _ _ _ h)
        | cons a t =>
          cases t with
          | nil =>
            simp only at h
            cases hs : xi_mm a i ls st S with
            | none => rw [hs] at h; cases h
            | some z =>
              obtain ⟨i2, ls2, st2, S3⟩ := z
              rw [hs] at h
              exact xi_pre_trans ⟨[], by rw [xi_p_mm hs, List.append_nil]⟩ (ih _ _ _ _ _ _ _ _ h)
          | cons b u => exact hcal _ h
      | invokespecial k =>
        simp only at h
        split at h
        · cases hs : xi_oin i ls st S with
          | none => rw [hs] at h; cases h
          | some z =>
            obtain ⟨i2, ls2, st2, S3⟩ := z
            rw [hs] at h
            exact xi_pre_trans ⟨[], by rw [xi_p_oin hs, List.append_nil]⟩ (ih _ _ _ _ _ _ _ _ h)
        · exact hcal _ h
      | _ => exact hstep h
end
section
/-! words that ask for care: the nest's links, arrays over classes -/
theorem xi_over_al {t : FieldType} {a a' : Array Value} {U U' : State} (hal : U.vm.Alike U'.vm) (h : (Cond.arrayOver (.array t)).before a U = true) :
    (Cond.arrayOver (.array t)).before a' U' = true := by
  simp only [Cond.before, Cond.holds, Cond.value] at h ⊢
  rw [hal.findClass]
  cases hf : U.vm.findClass (FieldType.array t).toString with
  | none => rw [hf] at h; simp at h
  | some comp =>
    rw [hf] at h
    simp only [Option.bind_some] at h ⊢
    rw [hal.findIdx_congr _ (fun _ _ _ _ => rfl)]
    generalize hF : (U.vm.classes.findIdx? fun (x : Class) => match x.kind with | .array component _ => component == comp | _ => false) = fi at h ⊢
    cases fi with
    | none => simp at h
    | some c =>
      simp only [Option.bind_some] at h ⊢
      cases hk : U.vm.classes[c]? with
      | none => rw [hk] at h; simp at h
      | some k =>
        obtain ⟨k', hk', ek⟩ := hal.2.2 _ _ hk
        rw [hk] at h
        rw [hk', hal.findClass]
        have ekind : k'.kind = k.kind := by rw [ek]
        simp only [Option.map_some] at h ⊢
        rw [ekind]
        exact h
def xi_nw (U : State) : Prop := ∀ w ∈ xi_tb, xi_nst w = true → w.before #[] U = true
theorem xi_nw.warm {s U : State} (hW : s.WarmedH U.vm) (h : xi_nw s) : xi_nw U := by
  intro w hw hn
  have h1 := h w hw hn
  cases w with
  | methodLinkNest a i x hh => exact va_Nw.warmM hW h1
  | fieldLinkNest a i b n d hh => exact va_Nw.warmF hW h1
  | arrayOver ty =>
    cases ty with
    | object C => exact va_AO.moved hW.alike h1
    | array t => exact xi_over_al hW.alike h1
    | _ => simp [Cond.before, Cond.holds, Cond.value] at h1
  | _ => cases hn
theorem xi_nw.same {s U : State} (hv : s.vm = U.vm) (h : xi_nw s) : xi_nw U := by
  intro w hw hn
  have h1 := h w hw hn
  cases w with
  | methodLinkNest a i x hh => exact va_Nw.same rfl hv h1
  | fieldLinkNest a i b n d hh => exact va_Nw.same rfl hv h1
  | arrayOver ty =>
    simp only [Cond.before, Cond.holds, Cond.value] at h1 ⊢
    rw [← hv]
    exact h1
  | _ => cases hn
theorem xi_hts {s : State} {args : Array Value} (h : ∀ w ∈ xi_gw, w.before args s = true) (hn : xi_nw s) : ∀ w ∈ xi_tb, w.before args s = true := by
  intro w hw
  by_cases hg : goodWord w = true
  · exact h w (xi_gw_of hw hg)
  · have hns : xi_nst w = true := by
      have := (List.mem_filter.mp hw).2
      rw [Bool.or_eq_true] at this
      exact this.resolve_left hg
    have h1 := hn w hw hns
    cases w with
    | methodLinkNest a i x hh => exact va_Nw.use rfl h1
    | fieldLinkNest a i b n d hh => exact va_Nw.use rfl h1
    | arrayOver ty => exact h1
    | _ => cases hns
theorem xi_nw_of {s : State} {args : Array Value} (h : ∀ w ∈ xi_tb, w.before args s = true) : xi_nw s := by
  intro w hw hns
  have h1 := h w hw
  cases w with
  | methodLinkNest a i x hh => exact va_Nw.of rfl h1
  | fieldLinkNest a i b n d hh => exact va_Nw.of rfl h1
  | arrayOver ty => exact h1
  | _ => cases hns
theorem xi_ro.narrow {scr : xi_X} {ρ : Nat → Nat} {A B : Nat → Prop} {s : State} {H : Heap} (h : xi_ro scr ρ A s H) (hAB : ∀ q, B q → A q) : xi_ro scr ρ B s H := ⟨h.1.narrow hAB, h.2.1.narrow hAB, h.2.2.1.narrow hAB, h.2.2.2.1.narrow hAB, h.2.2.2.2.narrow hAB⟩
theorem xi_ro.kept {scr : xi_X} {ρ : Nat → Nat} {A : Nat → Prop} {s : State} {H H1 : Heap} (h : xi_ro scr ρ A s H) (hq : ∀ a : Nat, a < H.size → ¬ A a → H1[a]? = H[a]?) : xi_ro scr ρ A s H1 := ⟨h.1.kept hq, h.2.1.kept hq, h.2.2.1.kept hq, h.2.2.2.1.kept hq, h.2.2.2.2.kept hq⟩
theorem xi_ro.moved {scr : xi_X} {ρ : Nat → Nat} {A : Nat → Prop} {s U : State} {H : Heap} (hvm : s.vm.Alike U.vm) (h : xi_ro scr ρ A s H) : xi_ro scr ρ A U H := ⟨h.1.moved hvm, h.2.1.moved hvm, h.2.2.1.moved hvm, h.2.2.2.1.moved hvm, h.2.2.2.2.moved hvm⟩
theorem xi_ro.ext {scr : xi_X} {ρ ρ2 : Nat → Nat} {A : Nat → Prop} {s : State} {H : Heap} (h : xi_ro scr ρ A s H) (hρ : ∀ k, 1000000 ≤ k → ρ2 k = ρ k) : xi_ro scr ρ2 A s H := by
  unfold xi_ro
  rw [hρ 1000000 (by omega), hρ 1000001 (by omega), hρ 1000002 (by omega)]
  exact h
/-- a method's start and end -/
def xi_Pc (D : va_G) (cs : Nat → ClassId) (scr : xi_X) (ρ : Nat → Nat) (S : xi_S) (vs : List Value) (sz : Nat) : Array Value → State → Prop := fun a U => a = (vs.map (xi_cv ρ)).toArray ∧ U.heap.size = sz ∧ va_K D xi_cl (xi_ts cs) U ∧ va_P D xi_cl (xi_ws cs ρ S) U.heap ∧ va_D (va_A (xi_ws cs ρ S) sz) (xi_ws cs ρ S) ∧ xi_ro scr ρ (va_A (xi_ws cs ρ S) sz) U U.heap ∧ xi_nw U
def xi_Qc (D : va_G) (cs : Nat → ClassId) (ρ : Nat → Nat) (S : xi_S) (r : Option Value) (S2 : xi_S) (A : Nat → Prop) : Array Value → State → Outcome → State → Prop := fun _ st oc t => ∃ ρ2 : Nat → Nat, (∀ k, k < S.1.length ∨ 1000000 ≤ k → ρ2 k = ρ k) ∧ oc = .returned (r.map (xi_cv ρ2)) ∧ va_P D xi_cl (xi_ws cs ρ2 S2) t.heap ∧ va_D A (xi_ws cs ρ2 S2) ∧ va_F A st t ∧ xi_wf S2 ∧ (∀ v, r = some v → xi_wv S2.1.length v)
theorem xi_Pc_blind {D : va_G} {cs : Nat → ClassId} {scr : xi_X} {ρ : Nat → Nat} {S : xi_S} {vs : List Value} {sz : Nat} : FrameBlind (xi_Pc D cs scr ρ S vs sz) := fun a U g mk q => ⟨q.1, q.2.1, va_K.moved (u := U) (U := U.calling g mk a) (Vm.Alike.refl U.vm) q.2.2.1, q.2.2.2.1, q.2.2.2.2.1, xi_ro.moved (s := U) (U := U.calling g mk a) (Vm.Alike.refl U.vm) q.2.2.2.2.2.1, xi_nw.same (s := U) (U := U.calling g mk a) rfl q.2.2.2.2.2.2⟩
/-- how a method ends -/
def xi_rt (cc : ByteArray) (ret : Option FieldType) (pc : Nat) (r : Option Value) : Prop := (decode cc pc = .ok (.ireturn, 1) ∧ ∃ v ty, r = some (.int v) ∧ ret = some ty ∧ narrow ty (.int v) = .int v) ∨ (decode cc pc = .ok (.lreturn, 1) ∧ ret = some .long ∧ ∃ v, r = some (.long v)) ∨ (decode cc pc = .ok (.return_, 1) ∧ ret = none ∧ r = none)
/-- the entry's locals -/
theorem xi_av_at (ρ : Nat → Nat) : ∀ (vs : List Value) (k j : Nat) (v : Value), (xi_av vs)[j]? = some (some v) → (k + j, xi_cv ρ v) ∈ lv_args k (vs.map (xi_cv ρ))
  | [], k, j, v, h => by simp [xi_av] at h
  | u :: vs, k, j, v, h => by
    have ih := xi_av_at ρ vs
    have e : xi_av (u :: vs) = (if u.category = 2 then [some u, none] else [some u]) ++ xi_av vs := rfl
    rw [e] at h
    rw [List.map_cons]
    unfold lv_args
    rw [xi_cv_cat]
    by_cases hc : u.category = 2
    · rw [if_pos hc] at h ⊢
      match j, h with
      | 0, h => cases h; exact List.mem_cons_self
      | 1, h => cases h
      | j + 2, h =>
        have h : (xi_av vs)[j]? = some (some v) := h
        have := ih (k + 2) j v h
        rw [show k + (j + 2) = k + 2 + j by omega]
        exact List.mem_cons_of_mem _ this
    · rw [if_neg hc] at h ⊢
      match j, h with
      | 0, h => cases h; exact List.mem_cons_self
      | j + 1, h =>
        have h : (xi_av vs)[j]? = some (some v) := h
        have := ih (k + 1) j v h
        rw [show k + (j + 1) = k + 1 + j by omega]
        exact List.mem_cons_of_mem _ this
theorem xi_av_len (ρ : Nat → Nat) : ∀ vs : List Value, (lg_sl (vs.map (xi_cv ρ))).length = (xi_av vs).length
  | [] => rfl
  | u :: vs => by
    have ih := xi_av_len ρ vs
    have e : xi_av (u :: vs) = (if u.category = 2 then [some u, none] else [some u]) ++ xi_av vs := rfl
    have e2 : lg_sl ((u :: vs).map (xi_cv ρ)) = (if (xi_cv ρ u).category = 2 then [Slot.val (xi_cv ρ u), Slot.second] else [Slot.val (xi_cv ρ u)]) ++ lg_sl (vs.map (xi_cv ρ)) := rfl
    rw [e, e2, xi_cv_cat, List.length_append, List.length_append, ih]
    by_cases hc : u.category = 2 <;> simp [hc]
theorem xi_av_mem : ∀ (vs : List Value) (v : Value), some v ∈ xi_av vs → v ∈ vs
  | [], v, h => by cases h
  | u :: vs, v, h => by
    have e : xi_av (u :: vs) = (if u.category = 2 then [some u, none] else [some u]) ++ xi_av vs := rfl
    rw [e] at h
    rcases List.mem_append.mp h with h | h
    · split at h <;> simp at h <;> rw [h] <;> exact List.mem_cons_self
    · exact List.mem_cons_of_mem _ (xi_av_mem vs v h)
theorem xi_en_lr {ρ : Nat → Nat} {N mL : Nat} {vs : List Value} (hw : xi_wst N vs) (hl : (xi_av vs).length ≤ mL) : xi_lr ρ N (xi_en vs mL) ((lg_sl (vs.map (xi_cv ρ)) ++ List.replicate (mL - (lg_sl (vs.map (xi_cv ρ))).length) Slot.unset).toArray) mL := by
  have hv := lv_entry (vs.map (xi_cv ρ)) (n := mL) (by rw [xi_av_len]; exact hl)
  have hen : ∀ (j : Nat) (v : Value), (xi_en vs mL)[j]? = some (some v) → (xi_av vs)[j]? = some (some v) := fun j v h => by
    unfold xi_en at h
    by_cases hj : j < (xi_av vs).length
    · rw [List.getElem?_append_left hj] at h
      exact h
    · rw [List.getElem?_append_right (by omega), List.getElem?_replicate] at h
      split at h <;> cases h
  refine xi_lr.of (by unfold xi_en; simp; omega) (fun v hm => ?_) hv (fun q hq => ?_)
  · obtain ⟨j, hj⟩ := List.getElem?_of_mem hm
    exact hw v (xi_av_mem vs v (List.mem_of_getElem? (hen j v hj)))
  · obtain ⟨v, h1, h2⟩ := xi_lv_mem.mp hq
    have := xi_av_at ρ vs 0 q.1 v (hen q.1 v h1)
    rw [Nat.zero_add, ← h2] at this
    exact this
theorem xi_split {st : List Value} {k : Nat} {v : Value} (h : st[k]? = some v) : st.take (k + 1) = st.take k ++ [v] ∧ st = st.take k ++ v :: st.drop (k + 1) := by
  have h1 : st.take (k + 1) = st.take k ++ [v] := by rw [List.take_add_one, h]; rfl
  refine ⟨h1, ?_⟩
  have h2 := List.take_append_drop (k + 1) st
  rw [h1, List.append_assoc] at h2
  exact h2.symm
section XIS
variable {p : Program} {l : Launch} {en : Env} {R : Room} {s : State} {m : MethodId} {args : Array Value} {below : List Frame} {meth : Method} {c : Code} {Q : State → Prop} {D : va_G} {cs : Nat → ClassId} {scr : xi_X} {A : Nat → Prop} {nL : Nat} {ρ0 : Nat → Nat} {N0 L0 : Nat} {cc : ByteArray} {pcs : Nat → Nat} {i i2 : Nat} {ls ls2 : xi_L} {st st2 : List Value} {S S2 : xi_S} {nf : List Nat} {k1 : Int32} {k2 : Int64}

/-- behind a call -/
theorem xi_after {a : Array Value} {r : Option Value} {ρ : Nat → Nat} {H : Heap} {locs : List Loc} {cells slots pc : Nat} {lsC : Array Slot} {rest st0 : List Value} (hr : va_Run p l en R s m args below meth c H locs cells slots (S2.1.length - S.1.length) (xi_sz S2 - xi_sz S) (F0 m pc lsC st0) (rest.map (xi_cv ρ)) (xi_Qc D cs ρ S r S2 (va_A (xi_ws cs ρ S) H.size) a) (va_A (xi_ws cs ρ S) H.size))
    (hw : xi_wr D cs scr A s ρ0 N0 L0 cells slots ρ S H locs) (hl : xi_lr ρ S.1.length ls lsC nL) (hs : xi_wst S.1.length rest) (hpre : ∃ ext, S2.1 = S.1 ++ ext) (k : xi_G p l en R s m args below meth c Q D cs scr A nL ρ0 N0 L0 (pc + 3) ls (r.toList ++ rest) S2) : W p l en R s m args below meth c H locs cells slots Q (F0 m pc lsC st0) := by
  intro T hT X
  obtain ⟨v, st₀, t, T', L, h0, X', hL, e1, e2, ⟨ρ2, hρ, ho, hP, hD, hF, hwf, hv⟩, st⟩ := hr T hT X
  obtain ⟨hK0, hP0, hD0, hS0, hA0, hro, hwf0, hρ0, hn, hz⟩ := hw
  obtain ⟨le1, le2⟩ := xi_pre_le hpre
  have hvr : v = r.map (xi_cv ρ2) := by cases ho; rfl
  have hfree : ∀ q, va_A (xi_ws cs ρ S) H.size q → A q := fun q hq => by
    rcases hq with ⟨k9, e9, h9⟩ | hq
    · exact hD0.2 k9 _ h9
    · exact hA0 q (Nat.le_trans hS0.1 hq)
  obtain ⟨hz1, hk1⟩ := hF
  rw [h0] at hz1 hk1
  have hS1 : va_S A s.heap T'.heap (locs ++ L) := ⟨Nat.le_trans hS0.1 (by rw [e1]; exact hz1), fun q h1 h2 => by
    rw [e1, hk1 q (Nat.lt_of_lt_of_le h1 hS0.1) (fun zz => h2 (hfree q zz))]
    exact hS0.2.1 q h1 h2, fun q hq => by
    rcases List.mem_append.mp hq with h | h
    · exact hS0.2.2 q h
    · exact hfree _ (hL q h)⟩
  have kk := k ρ2 T'.heap (locs ++ L) (cells + (S2.1.length - S.1.length)) (slots + (xi_sz S2 - xi_sz S)) lsC ⟨hK0, by rw [e1]; exact hP, hD.weaken (fun _ _ _ h => hfree _ h), hS1, hA0, hro, hwf, fun a ha => by rw [hρ a (by omega)]; exact hρ0 a ha, by omega, by omega⟩ (hl.ext le1 hρ) (by
    intro x hx
    rcases List.mem_append.mp hx with h | h
    · cases r with
      | none => cases h
      | some y =>
        have : x = y := by simpa using h
        rw [this]
        exact hv y rfl
    · exact (hs x h).mono le1)
  obtain ⟨t2, a1, b1⟩ := kk T' rfl X'
  refine ⟨t2, st t2 ?_, b1⟩
  have e3 : v.toList ++ rest.map (xi_cv ρ) = (r.toList ++ rest).map (xi_cv ρ2) := by
    rw [hvr, List.map_append, xi_cv_map hρ hs]
    cases r <;> rfl
  show Steps p.tables en below (T'.setTop (F0 m (pc + 3) lsC (v.toList ++ rest.map (xi_cv ρ)))) t2
  rw [e3]
  exact a1
/-- before a call -/
theorem xi_before {ρ : Nat → Nat} {H : Heap} {locs : List Loc} {cells slots : Nat} {vs : List Value} (hnw : xi_nw s) (hw : xi_wr D cs scr A s ρ0 N0 L0 cells slots ρ S H locs) : ∀ U : State, U.heap = H → s.WarmedH U.vm → xi_Pc D cs scr ρ S vs H.size (vs.map (xi_cv ρ)).toArray U := by
  intro U hU hW
  obtain ⟨hK0, hP0, hD0, hS0, hA0, hro, hwf0, hρ0, hn, hz⟩ := hw
  have hfree : ∀ q, va_A (xi_ws cs ρ S) H.size q → A q := fun q hq => by
    rcases hq with ⟨k9, e9, h9⟩ | hq
    · exact hD0.2 k9 _ h9
    · exact hA0 q (Nat.le_trans hS0.1 hq)
  refine ⟨rfl, by rw [hU], va_K.moved hW.alike hK0, by rw [hU]; exact hP0, hD0.self, ?_, hnw.warm hW⟩
  have h1 : xi_ro scr ρ A s H := (hro.kept (H1 := H) (fun a h1 h2 => hS0.2.1 a h1 h2)).ext (fun k hk => hρ0 k (Or.inr hk))
  rw [hU]
  exact (h1.narrow hfree).moved hW.alike
end XIS
end
section
/-! A RUN of the interpreter is a run of the machine -/
abbrev xi_Q : Type := xi_M × Nat × Nat × List xi_E
def xi_OK : Prop := ∀ (μ : Nat) (q : xi_Q), xi_tab[μ]? = some q → xi_cka q = true ∧ (μ < 257 ∧ ¬ μ = 28 ∧ ¬ μ = 108 → xi_ckh μ q = true)
/-- the body of every method, with fuel n -/
def xi_Bd (n : Nat) : Prop := ∀ (d μ : Nat) (q : xi_Q), xi_tab[μ]? = some q → ∀ (p : Program) (l : Launch) (en : Env) (R : Room) (s : State) (m : MethodId) (args : Array Value) (below : List Frame) (meth : Method) (c : Code) (Q : State → Prop) (D : va_G) (cs : Nat → ClassId) (scr : xi_X) (A : Nat → Prop) (ρ0 : Nat → Nat) (N0 L0 : Nat),
  p.tables.exec = Jvm.exec → c.code = q.1.2.2.2.1 → c.maxLocals = q.2.1 → s.vm.findClass (xi_cA q.1.1) = some m.cls → (∀ w ∈ xi_tb, w.before args s = true) → (q.1.2.2.2.2.2.1 = 2 → meth.name = "<init>") → d + 1 ≤ R.frames → 60 * (d + 1) ≤ R.locals →
  ∀ (i : Nat) (ls : xi_L) (st : List Value) (S : xi_S) (r : Option Value) (S3 : xi_S), xi_ex xi_pg scr n d q.2.2.2 i ls st S = some (r, S3) → S3.1.length ≤ N0 + R.cells → xi_sz S3 ≤ L0 + R.slots → S3.1.length < 1000000 →
  (∀ (pc : Nat) (ls2 : xi_L), xi_rt q.1.2.2.2.1 q.1.2.2.2.2.1 pc r → xi_G p l en R s m args below meth c Q D cs scr A q.2.1 ρ0 N0 L0 (pc) ls2 (r.toList) S3) → xi_G p l en R s m args below meth c Q D cs scr A q.2.1 ρ0 N0 L0 (xi_pcs q.1.2.2.2.2.2.2 i) ls (st) S
def xi_rm (d : Nat) (S S3 : xi_S) : Room := { frames := d + 1, cells := S3.1.length - S.1.length, slots := xi_sz S3 - xi_sz S, locals := 60 * (d + 1) }
theorem xi_ckh_of {μ : Nat} {q : xi_Q} (h : xi_ckh μ q = true) : plainName (xi_yM q.1).cls = true ∧ ((xi_yM q.1).cls ≠ "java/lang/invoke/MethodHandle" ∧ (xi_yM q.1).cls ≠ "java/lang/invoke/VarHandle") ∧ q.1.1 ∈ xi_inL ∧ q.2.1 ≤ 40 ∧ xi_pcs q.1.2.2.2.2.2.2 0 = 0 ∧ (parseMethodDescriptor (xi_yM q.1).desc).map (fun d => d.parameters.length) = some (if q.1.2.2.2.2.2.1 = 0 then q.2.2.1 else q.2.2.1 - 1) ∧
    ((q.1.2.2.2.2.2.1 = 0 ∧ μ ∈ xi_sm) ∨ (q.1.2.2.2.2.2.1 = 1 ∧ 0 < q.2.2.1 ∧ μ ∈ xi_im ∧ μ ∈ xi_s1 ++ xi_s2 ∧ q.1.1 < 9) ∨ (q.1.2.2.2.2.2.1 = 2 ∧ 0 < q.2.2.1 ∧ q.1.2.2.2.2.1 = none ∧ q.1.2.1 = "<init>" ∧ μ ∈ xi_im)) := by
  simp only [xi_ckh, Bool.and_eq_true, Bool.or_eq_true, decide_eq_true_eq] at h
  obtain ⟨⟨⟨⟨⟨⟨⟨h1, h2⟩, h3⟩, h4⟩, h5⟩, h6⟩, h7⟩, h8⟩ := h
  refine ⟨h1, ⟨h2, h3⟩, h4, h5, h6, h7, ?_⟩
  rcases h8 with (⟨a, b⟩ | ⟨⟨⟨⟨a, b⟩, c⟩, d⟩, e⟩) | ⟨⟨⟨⟨a, b⟩, c⟩, d⟩, e⟩
  · exact Or.inl ⟨a, b⟩
  · exact Or.inr (Or.inl ⟨a, b, c, d, e⟩)
  · exact Or.inr (Or.inr ⟨a, b, c, d, e⟩)
/-- the contract of a method out of its body -/
theorem xi_met {n : Nat} (hBd : xi_Bd n) (hOK : xi_OK) {d μ : Nat} {q : xi_Q} (hq : xi_tab[μ]? = some q) (hμ : μ < 257 ∧ ¬ μ = 28 ∧ ¬ μ = 108) {scr : xi_X} {vs : List Value} {S S3 : xi_S} {r : Option Value} (hrun : xi_ex xi_pg scr n d q.2.2.2 0 (xi_en vs q.2.1) [] S = some (r, S3)) (hwf : xi_wf S) (hvs : xi_wst S.1.length vs) (hlen : (xi_av vs).length ≤ q.2.1) (hN : S3.1.length < 1000000) (l : Launch) (D : va_G) (cs : Nat → ClassId) (ρ : Nat → Nat) (sz : Nat) :
    Met l (xi_yM q.1) (Cond.code (xi_yM q.1) q.1.2.2.2.1 q.2.1 q.1.2.2.2.2.1 :: xi_gw) (xi_rm d S S3) (xi_Pc D cs scr ρ S vs sz) (xi_Qc D cs ρ S r S3 (va_A (xi_ws cs ρ S) sz)) (S3.1.length - S.1.length) (xi_sz S3 - xi_sz S) (va_A (xi_ws cs ρ S) sz) := by
  obtain ⟨hpl, hMH, hin, h40, hpc0, hpar, hkd⟩ := xi_ckh_of ((hOK μ q hq).2 hμ)
  obtain ⟨le1, le2⟩ := xi_pre_le (xi_ex_pre _ _ _ _ _ _ _ _ _ hrun)
  refine Met.ofW (cc := q.1.2.2.2.1) (maxL := q.2.1) (ret := q.1.2.2.2.2.1) hpl rfl ?_
  intro p e s m args below meth c s₁ B hml hv
  obtain ⟨rfl, hsz, hK, hP, hD, hro, hnw⟩ := hv
  have hx := B.exec
  have hb := B.bytes
  have hr := B.returns
  have hts0 := atoms_spec (ws := Cond.code (xi_yM q.1) q.1.2.2.2.1 q.2.1 q.1.2.2.2.2.1 :: xi_gw) B.pre
  have hown : s.vm.findClass (xi_cA q.1.1) = some m.cls := findClass_of_methodNamed B.named
  have hlocks := B.notSynchronized
  have hnm := (name_of_methodNamed B.named B.method).1
  have hts := xi_hts (fun w hw => hts0 w (List.mem_cons_of_mem _ hw)) hnw
  subst hsz
  have hini : q.1.2.2.2.2.2.1 = 2 → meth.name = "<init>" := fun h2 => by
    rw [hnm]
    rcases hkd with ⟨h0, -⟩ | ⟨h0, -⟩ | ⟨-, -, -, h0, -⟩
    · rw [h0] at h2; cases h2
    · rw [h0] at h2; cases h2
    · exact h0
  have hG := hBd d μ q hq p l e (xi_rm d S S3) s m (vs.map (xi_cv ρ)).toArray below meth c (MQ below (xi_Qc D cs ρ S r S3 (va_A (xi_ws cs ρ S) s.heap.size)) (vs.map (xi_cv ρ)).toArray s (S3.1.length - S.1.length) (xi_sz S3 - xi_sz S) (va_A (xi_ws cs ρ S) s.heap.size)) D cs scr (va_A (xi_ws cs ρ S) s.heap.size) ρ S.1.length (xi_sz S) hx hb hml hown hts hini (Nat.le_refl _) (Nat.le_refl _) 0 (xi_en vs q.2.1) [] S r S3 hrun (by show _ ≤ _ + (_ - _); omega) (by show _ ≤ _ + (_ - _); omega) hN (by
    intro pc ls2 hrt ρ2 H locs cells slots lsC hw hl hs
    obtain ⟨hK2, hP2, hD2, hS2, hA2, hro2, hwf2, hρ2, hn2, hz2⟩ := hw
    have hc1 : S3.1.length - S.1.length = cells := by omega
    have hc2 : xi_sz S3 - xi_sz S = slots := by omega
    rw [hc1, hc2]
    have hq : ∀ t : State, t.heap = H → s.WarmedH t.vm → xi_Qc D cs ρ S r S3 (va_A (xi_ws cs ρ S) s.heap.size) (vs.map (xi_cv ρ)).toArray s (.returned (r.map (xi_cv ρ2))) t := fun t ht _ => ⟨ρ2, hρ2, rfl, by rw [ht]; exact hP2, hD2, hS2.F ht, hwf2, fun v hv => hs v (by rw [hv]; exact List.mem_singleton.mpr rfl)⟩
    rcases hrt with ⟨hd, v, ty, rfl, hty, hnar⟩ | ⟨hd, hty, v, rfl⟩ | ⟨hd, hty, rfl⟩
    · exact W.zret hx hb (hr.trans hty) hnar hq hS2.2.2 hd
    · exact W.lret hx hb (hr.trans hty) hq hS2.2.2 hd
    · exact W.vret hx hb (hr.trans hty) hq hS2.2.2 hd)
  rw [lg_entry_eq]
  rw [hpc0] at hG
  exact hG ρ s.heap [] 0 0 _ ⟨hK, hP, hD, va_S.rf, fun a ha => Or.inr ha, hro, hwf, fun _ _ => rfl, rfl, rfl⟩ (xi_en_lr hvs hlen) (fun v hv => by cases hv)
end
section
/-! calls -/
section XIS
variable {p : Program} {l : Launch} {en : Env} {R : Room} {s : State} {m : MethodId} {args : Array Value} {below : List Frame} {meth : Method} {c : Code} {Q : State → Prop} {D : va_G} {cs : Nat → ClassId} {scr : xi_X} {A : Nat → Prop} {nL : Nat} {ρ0 : Nat → Nat} {N0 L0 : Nat} {cc : ByteArray} {pcs : Nat → Nat} {i i2 : Nat} {ls ls2 : xi_L} {st st2 : List Value} {S S2 : xi_S} {nf : List Nat} {k1 : Int32} {k2 : Int64}

theorem xi_s_virtual {n : Nat} (hBd : xi_Bd n) (hOK : xi_OK) (hx : p.tables.exec = Jvm.exec) (hb : c.code = cc) (hml : c.maxLocals = nL) (hts : ∀ w ∈ xi_tb, w.before args s = true) {own : Nat} (hown : s.vm.findClass (xi_cA own) = some m.cls) {d2 μ idx w : Nat} (hRf : d2 + 2 ≤ R.frames) (hRl : 60 * (d2 + 2) ≤ R.locals) {q2 : xi_Q} (hq2 : xi_tab[μ]? = some q2) (hμ : μ < 257 ∧ ¬ μ = 28 ∧ ¬ μ = 108) (hk1 : q2.1.2.2.2.2.2.1 = 1) (hML : xi_ML[w]? = some (own, idx, μ)) {b nn : Nat} (hrc : st[q2.2.2.1 - 1]? = some (.ref b)) (hcl : S.1[b]? = some (q2.1.1, nn)) (h9 : q2.1.1 < 9) (hd : decode cc (pcs i) = .ok (.invokevirtual idx, 3)) (hna : q2.2.2.1 ≤ st.length) (hlen : (xi_av (st.take q2.2.2.1).reverse).length ≤ q2.2.1) (hsum : ((st.drop q2.2.2.1).map fun v => v.category).sum ≤ 8) {rv : Option Value} (hrun : xi_ex xi_pg scr n d2 q2.2.2.2 0 (xi_en (st.take q2.2.2.1).reverse q2.2.1) [] S = some (rv, S2)) (hN : S2.1.length < 1000000) (hB : S2.1.length ≤ N0 + R.cells ∧ xi_sz S2 ≤ L0 + R.slots) (k : xi_G p l en R s m args below meth c Q D cs scr A nL ρ0 N0 L0 (pcs i + 3) ls (rv.toList ++ st.drop q2.2.2.1) S2) : xi_G p l en R s m args below meth c Q D cs scr A nL ρ0 N0 L0 (pcs i) ls (st) S := by
  obtain ⟨hpl, hMH, hin, h40, hpc0, hpar, hkd⟩ := xi_ckh_of ((hOK μ q2 hq2).2 hμ)
  have hpre := xi_ex_pre _ _ _ _ _ _ _ _ _ hrun
  obtain ⟨le1, le2⟩ := xi_pre_le hpre
  intro ρ H locs cells slots lsC hw hl hs
  have hn1 := hw.2.2.2.2.2.2.2.2.1
  have hn2 := hw.2.2.2.2.2.2.2.2.2
  have htg : ∀ w ∈ xi_gw, w.before args s = true := fun w hw => hts w (xi_gw_tb hw)
  have hvs : xi_wst S.1.length (st.take q2.2.2.1).reverse := fun v hv => hs v (List.mem_of_mem_take (List.mem_reverse.mp hv))
  have hrs : xi_wst S.1.length (st.drop q2.2.2.1) := fun v hv => hs v (List.mem_of_mem_drop hv)
  have hM := xi_met hBd hOK hq2 hμ hrun hw.2.2.2.2.2.2.1 hvs hlen hN l D cs ρ H.size
  have hcd := xi_code_mem hq2 hμ.1
  have hyq := xi_y_eq hq2 hμ.1
  have hfr : (xi_rm d2 S S2).frames + 1 ≤ R.frames ∧ 8 + (q2.2.1 + 11) + (xi_rm d2 S S2).locals ≤ R.locals := ⟨by show d2 + 1 + 1 ≤ _; omega, by show 8 + (q2.2.1 + 11) + 60 * (d2 + 1) ≤ _; omega⟩
  have hfit : cells + (S2.1.length - S.1.length) ≤ R.cells ∧ slots + (xi_sz S2 - xi_sz S) ≤ R.slots := ⟨by omega, by omega⟩
  have hwsg : ∀ w ∈ Cond.code (xi_yM q2.1) q2.1.2.2.2.1 q2.2.1 q2.1.2.2.2.2.1 :: xi_gw, w ∈ xi_gw := fun w hw => (List.mem_cons.mp hw).elim (fun e => by rw [e]; exact xi_gw_of hcd rfl) id
  have hbf := xi_before (vs := (st.take q2.2.2.1).reverse) (xi_nw_of hts) hw
  obtain ⟨hpos, him, hsl⟩ : 0 < q2.2.2.1 ∧ μ ∈ xi_im ∧ μ ∈ xi_s1 ++ xi_s2 := by
    rcases hkd with ⟨h0, -⟩ | ⟨-, h0, h1, h2, -⟩ | ⟨h0, -⟩
    · rw [h0] at hk1; cases hk1
    · exact ⟨h0, h1, h2⟩
    · rw [h0] at hk1; cases hk1
  obtain ⟨k0, hk0⟩ : ∃ k0, q2.2.2.1 = k0 + 1 := ⟨q2.2.2.1 - 1, by omega⟩
  rw [hk0] at hna hlen hsum hrun hvs hrs k hM hbf
  rw [show q2.2.2.1 - 1 = k0 by omega] at hrc
  obtain ⟨ht1, ht2⟩ := xi_split hrc
  have hrev : (st.take (k0 + 1)).reverse = .ref b :: (st.take k0).reverse := by rw [ht1, List.reverse_append]; rfl
  have hAs : ((st.take k0).reverse.map (xi_cv ρ)).length = k0 := by simp; omega
  have hstk : st.map (xi_cv ρ) = ((st.take k0).reverse.map (xi_cv ρ)).reverse ++ .ref (ρ b) :: (st.drop (k0 + 1)).map (xi_cv ρ) := by
    conv => lhs; rw [ht2]
    rw [List.map_append, List.map_cons, List.map_reverse, List.reverse_reverse]
    rfl
  have hvm : ((st.take (k0 + 1)).reverse.map (xi_cv ρ)).toArray = (Value.ref (ρ b) :: (st.take k0).reverse.map (xi_cv ρ)).toArray := by rw [hrev]; rfl
  have hlink := xi_ML_mem hML
  have hin2 := xi_im_mem him
  have hse := xi_sel_mem hsl
  rw [hyq] at hlink hin2 hse
  have hG : GoodIn xi_gw (wsV (xi_cA own) idx (xi_yM q2.1).cls (xi_yM q2.1) (Cond.code (xi_yM q2.1) q2.1.2.2.2.1 q2.2.1 q2.1.2.2.2.2.1 :: xi_gw)) := xi_goodIn (fun w hw => by
    rcases List.mem_append.mp hw with hw | hw
    · simp only [List.mem_cons, List.not_mem_nil, or_false] at hw
      rcases hw with rfl | rfl | rfl | rfl
      · exact xi_gw_of hlink rfl
      · exact xi_gw_of hin2 rfl
      · exact xi_gw_of hse rfl
      · exact xi_gw_of (xi_in_mem hin) rfl
    · exact hwsg w hw)
  have he := xi_ws_at (cs := cs) (ρ := ρ) hcl
  rw [xi_ec_o h9] at he
  have hrcv := va_recv hw.1 hw.2.1 (xi_cl_at h9) he
  rw [if_neg (by rw [hk1]; decide), hk0] at hpar
  rw [hstk]
  refine xi_after (rest := st.drop (k0 + 1)) (va_runV (As := (st.take k0).reverse.map (xi_cv ρ)) (rest := (st.drop (k0 + 1)).map (xi_cv ρ)) (b := ρ b) (Ts := xi_gw) ⟨hx, hb, hml, hown, htg⟩ hM (cwV k0 htg hG rfl rfl rfl ⟨rfl, hMH.1, hMH.2, hpar⟩ hfr) ⟨xi_Pc_blind, ?_, fun U hU hW => by rw [← hvm]; exact hbf U hU hW⟩ rfl hAs hl.2.1 rfl (lv_room (by rw [xi_cv_sum]; exact hsum)) hd hfit) hw hl hrs hpre k
  obtain ⟨cell, hc1, hc2, hc3⟩ := hrcv
  exact ⟨cell, hc1, hc2, by show s.vm.findClass (xi_cA q2.1.1) = _; rw [← xi_cA_eq h9]; exact hc3⟩
theorem xi_s_static {n : Nat} (hBd : xi_Bd n) (hOK : xi_OK) (hx : p.tables.exec = Jvm.exec) (hb : c.code = cc) (hml : c.maxLocals = nL) (hts : ∀ w ∈ xi_tb, w.before args s = true) {own : Nat} (hown : s.vm.findClass (xi_cA own) = some m.cls) {d2 μ idx w : Nat} (hRf : d2 + 2 ≤ R.frames) (hRl : 60 * (d2 + 2) ≤ R.locals) {q2 : xi_Q} (hq2 : xi_tab[μ]? = some q2) (hμ : μ < 257 ∧ ¬ μ = 28 ∧ ¬ μ = 108) (hk1 : q2.1.2.2.2.2.2.1 = 0) (hML : xi_ML[w]? = some (own, idx, μ)) (hd : decode cc (pcs i) = .ok (.invokestatic idx, 3)) (hna : q2.2.2.1 ≤ st.length) (hlen : (xi_av (st.take q2.2.2.1).reverse).length ≤ q2.2.1) (hsum : ((st.drop q2.2.2.1).map fun v => v.category).sum ≤ 8) {rv : Option Value} (hrun : xi_ex xi_pg scr n d2 q2.2.2.2 0 (xi_en (st.take q2.2.2.1).reverse q2.2.1) [] S = some (rv, S2)) (hN : S2.1.length < 1000000) (hB : S2.1.length ≤ N0 + R.cells ∧ xi_sz S2 ≤ L0 + R.slots) (k : xi_G p l en R s m args below meth c Q D cs scr A nL ρ0 N0 L0 (pcs i + 3) ls (rv.toList ++ st.drop q2.2.2.1) S2) : xi_G p l en R s m args below meth c Q D cs scr A nL ρ0 N0 L0 (pcs i) ls (st) S := by
  obtain ⟨hpl, hMH, hin, h40, hpc0, hpar, hkd⟩ := xi_ckh_of ((hOK μ q2 hq2).2 hμ)
  have hpre := xi_ex_pre _ _ _ _ _ _ _ _ _ hrun
  obtain ⟨le1, le2⟩ := xi_pre_le hpre
  intro ρ H locs cells slots lsC hw hl hs
  have hn1 := hw.2.2.2.2.2.2.2.2.1
  have hn2 := hw.2.2.2.2.2.2.2.2.2
  have htg : ∀ w ∈ xi_gw, w.before args s = true := fun w hw => hts w (xi_gw_tb hw)
  have hvs : xi_wst S.1.length (st.take q2.2.2.1).reverse := fun v hv => hs v (List.mem_of_mem_take (List.mem_reverse.mp hv))
  have hrs : xi_wst S.1.length (st.drop q2.2.2.1) := fun v hv => hs v (List.mem_of_mem_drop hv)
  have hM := xi_met hBd hOK hq2 hμ hrun hw.2.2.2.2.2.2.1 hvs hlen hN l D cs ρ H.size
  have hcd := xi_code_mem hq2 hμ.1
  have hyq := xi_y_eq hq2 hμ.1
  have hfr : (xi_rm d2 S S2).frames + 1 ≤ R.frames ∧ 8 + (q2.2.1 + 11) + (xi_rm d2 S S2).locals ≤ R.locals := ⟨by show d2 + 1 + 1 ≤ _; omega, by show 8 + (q2.2.1 + 11) + 60 * (d2 + 1) ≤ _; omega⟩
  have hfit : cells + (S2.1.length - S.1.length) ≤ R.cells ∧ slots + (xi_sz S2 - xi_sz S) ≤ R.slots := ⟨by omega, by omega⟩
  have hwsg : ∀ w ∈ Cond.code (xi_yM q2.1) q2.1.2.2.2.1 q2.2.1 q2.1.2.2.2.2.1 :: xi_gw, w ∈ xi_gw := fun w hw => (List.mem_cons.mp hw).elim (fun e => by rw [e]; exact xi_gw_of hcd rfl) id
  have hbf := xi_before (vs := (st.take q2.2.2.1).reverse) (xi_nw_of hts) hw
  have hsm : μ ∈ xi_sm := by
    rcases hkd with ⟨-, h0⟩ | ⟨h0, -⟩ | ⟨h0, -⟩
    · exact h0
    · rw [h0] at hk1; cases hk1
    · rw [h0] at hk1; cases hk1
  have hlink := xi_ML_mem hML
  have hst2 := xi_sm_mem hsm
  rw [hyq] at hlink hst2
  have hG : GoodIn xi_gw (va_wsS (xi_cA own) idx (xi_yM q2.1) (Cond.code (xi_yM q2.1) q2.1.2.2.2.1 q2.2.1 q2.1.2.2.2.2.1 :: xi_gw)) := xi_goodIn (fun w hw => by
    rcases List.mem_append.mp hw with hw | hw
    · simp only [List.mem_cons, List.not_mem_nil, or_false] at hw
      rcases hw with rfl | rfl | rfl
      · exact xi_gw_of hlink rfl
      · exact xi_gw_of hst2 rfl
      · exact xi_gw_of (xi_in_mem hin) rfl
    · exact hwsg w hw)
  rw [if_pos hk1] at hpar
  have hAs : ((st.take q2.2.2.1).reverse.map (xi_cv ρ)).length = q2.2.2.1 := by simp; omega
  have hstk : st.map (xi_cv ρ) = ((st.take q2.2.2.1).reverse.map (xi_cv ρ)).reverse ++ (st.drop q2.2.2.1).map (xi_cv ρ) := by
    rw [List.map_reverse, List.reverse_reverse, ← List.map_append, List.take_append_drop]
  rw [hstk]
  exact xi_after (rest := st.drop q2.2.2.1) (va_runS (As := (st.take q2.2.2.1).reverse.map (xi_cv ρ)) (rest := (st.drop q2.2.2.1).map (xi_cv ρ)) (Ts := xi_gw) ⟨hx, hb, hml, hown, htg⟩ hM (va_cwS q2.2.2.1 htg hG rfl rfl rfl ⟨hMH.1, hMH.2, hpar⟩ hfr) ⟨xi_Pc_blind, fun U hU hW => hbf U hU hW⟩ rfl hAs hl.2.1 rfl (lv_room (by rw [xi_cv_sum]; exact hsum)) hd hfit) hw hl hrs hpre k
theorem xi_s_init {n : Nat} (hBd : xi_Bd n) (hOK : xi_OK) (hx : p.tables.exec = Jvm.exec) (hb : c.code = cc) (hml : c.maxLocals = nL) (hts : ∀ w ∈ xi_tb, w.before args s = true) {own : Nat} (hown : s.vm.findClass (xi_cA own) = some m.cls) {d2 μ idx w : Nat} (hRf : d2 + 2 ≤ R.frames) (hRl : 60 * (d2 + 2) ≤ R.locals) {q2 : xi_Q} (hq2 : xi_tab[μ]? = some q2) (hμ : μ < 257 ∧ ¬ μ = 28 ∧ ¬ μ = 108) (hk1 : q2.1.2.2.2.2.2.1 = 2) (hML : xi_ML[w]? = some (own, idx, μ) ∨ xi_MN[w - 1000]? = some (own, idx, μ)) {b : Nat} (hrc : st[q2.2.2.1 - 1]? = some (.ref b)) (hd : decode cc (pcs i) = .ok (.invokespecial idx, 3)) (hna : q2.2.2.1 ≤ st.length) (hlen : (xi_av (st.take q2.2.2.1).reverse).length ≤ q2.2.1) (hsum : ((st.drop q2.2.2.1).map fun v => v.category).sum ≤ 8) {rv : Option Value} (hrun : xi_ex xi_pg scr n d2 q2.2.2.2 0 (xi_en (st.take q2.2.2.1).reverse q2.2.1) [] S = some (rv, S2)) (hN : S2.1.length < 1000000) (hB : S2.1.length ≤ N0 + R.cells ∧ xi_sz S2 ≤ L0 + R.slots) (k : xi_G p l en R s m args below meth c Q D cs scr A nL ρ0 N0 L0 (pcs i + 3) ls (rv.toList ++ st.drop q2.2.2.1) S2) : xi_G p l en R s m args below meth c Q D cs scr A nL ρ0 N0 L0 (pcs i) ls (st) S := by
  obtain ⟨hpl, hMH, hin, h40, hpc0, hpar, hkd⟩ := xi_ckh_of ((hOK μ q2 hq2).2 hμ)
  have hpre := xi_ex_pre _ _ _ _ _ _ _ _ _ hrun
  obtain ⟨le1, le2⟩ := xi_pre_le hpre
  intro ρ H locs cells slots lsC hw hl hs
  have hn1 := hw.2.2.2.2.2.2.2.2.1
  have hn2 := hw.2.2.2.2.2.2.2.2.2
  have htg : ∀ w ∈ xi_gw, w.before args s = true := fun w hw => hts w (xi_gw_tb hw)
  have hvs : xi_wst S.1.length (st.take q2.2.2.1).reverse := fun v hv => hs v (List.mem_of_mem_take (List.mem_reverse.mp hv))
  have hrs : xi_wst S.1.length (st.drop q2.2.2.1) := fun v hv => hs v (List.mem_of_mem_drop hv)
  have hM := xi_met hBd hOK hq2 hμ hrun hw.2.2.2.2.2.2.1 hvs hlen hN l D cs ρ H.size
  have hcd := xi_code_mem hq2 hμ.1
  have hyq := xi_y_eq hq2 hμ.1
  have hfr : (xi_rm d2 S S2).frames + 1 ≤ R.frames ∧ 8 + (q2.2.1 + 11) + (xi_rm d2 S S2).locals ≤ R.locals := ⟨by show d2 + 1 + 1 ≤ _; omega, by show 8 + (q2.2.1 + 11) + 60 * (d2 + 1) ≤ _; omega⟩
  have hfit : cells + (S2.1.length - S.1.length) ≤ R.cells ∧ slots + (xi_sz S2 - xi_sz S) ≤ R.slots := ⟨by omega, by omega⟩
  have hwsg : ∀ w ∈ Cond.code (xi_yM q2.1) q2.1.2.2.2.1 q2.2.1 q2.1.2.2.2.2.1 :: xi_gw, w ∈ xi_gw := fun w hw => (List.mem_cons.mp hw).elim (fun e => by rw [e]; exact xi_gw_of hcd rfl) id
  have hbf := xi_before (vs := (st.take q2.2.2.1).reverse) (xi_nw_of hts) hw
  obtain ⟨hpos, hret, hnm, him⟩ : 0 < q2.2.2.1 ∧ q2.1.2.2.2.2.1 = none ∧ q2.1.2.1 = "<init>" ∧ μ ∈ xi_im := by
    rcases hkd with ⟨h0, -⟩ | ⟨h0, -⟩ | ⟨-, h0, h1, h2, h3⟩
    · rw [h0] at hk1; cases hk1
    · rw [h0] at hk1; cases hk1
    · exact ⟨h0, h1, h2, h3⟩
  obtain ⟨k0, hk0⟩ : ∃ k0, q2.2.2.1 = k0 + 1 := ⟨q2.2.2.1 - 1, by omega⟩
  rw [hk0] at hna hlen hsum hrun hvs hrs k hM hbf
  rw [show q2.2.2.1 - 1 = k0 by omega] at hrc
  obtain ⟨ht1, ht2⟩ := xi_split hrc
  have hrev : (st.take (k0 + 1)).reverse = .ref b :: (st.take k0).reverse := by rw [ht1, List.reverse_append]; rfl
  have hAs : ((st.take k0).reverse.map (xi_cv ρ)).length = k0 := by simp; omega
  have hstk : st.map (xi_cv ρ) = ((st.take k0).reverse.map (xi_cv ρ)).reverse ++ .ref (ρ b) :: (st.drop (k0 + 1)).map (xi_cv ρ) := by
    conv => lhs; rw [ht2]
    rw [List.map_append, List.map_cons, List.map_reverse, List.reverse_reverse]
    rfl
  have hvm : ((st.take (k0 + 1)).reverse.map (xi_cv ρ)).toArray = (Value.ref (ρ b) :: (st.take k0).reverse.map (xi_cv ρ)).toArray := by rw [hrev]; rfl
  have hin2 := xi_im_mem him
  rw [hyq] at hin2
  rw [hret] at hM hwsg hcd
  have hG : GoodIn xi_gw (Cond.code (xi_yM q2.1) q2.1.2.2.2.1 q2.2.1 none :: xi_gw) := xi_goodIn hwsg
  rw [if_neg (by rw [hk1]; decide), hk0] at hpar
  rw [hstk]
  rcases hML with hML | hMN
  · have hlink := xi_ML_mem hML
    rw [hyq] at hlink
    exact xi_after (rest := st.drop (k0 + 1)) (va_runI (As := (st.take k0).reverse.map (xi_cv ρ)) (rest := (st.drop (k0 + 1)).map (xi_cv ρ)) (b := ρ b) (Ts := xi_gw) ⟨hx, hb, hml, hown, htg⟩ hM (cwI k0 htg hG rfl rfl rfl (hts _ (xi_in_mem hin)) (hts _ hlink) (hts _ hin2) hnm ⟨hMH.1, hMH.2, hpar⟩ hfr) ⟨xi_Pc_blind, fun U hU hW => by rw [← hvm]; exact hbf U hU hW⟩ rfl hAs hl.2.1 rfl (lv_room (by rw [xi_cv_sum]; exact hsum)) hd hfit) hw hl hrs hpre k
  · have hlink := xi_MN_mem hMN
    rw [hyq] at hlink
    exact xi_after (rest := st.drop (k0 + 1)) (va_runIN (As := (st.take k0).reverse.map (xi_cv ρ)) (rest := (st.drop (k0 + 1)).map (xi_cv ρ)) (b := ρ b) (Ts := xi_gw) ⟨hx, hb, hml, hown, htg⟩ hM ⟨va_cnB k0 htg hG rfl rfl rfl (va_Nw.of rfl (hts _ hlink)) (hts _ (xi_in_mem hin)) ⟨hMH.1, hMH.2, hpar⟩ hfr, hnm, hts _ hin2⟩ ⟨xi_Pc_blind, fun U hU hW => by rw [← hvm]; exact hbf U hU hW⟩ rfl hAs hl.2.1 rfl (lv_room (by rw [xi_cv_sum]; exact hsum)) hd hfit) hw hl hrs hpre k
end XIS
end
section
/-! soundness: every run of the interpreter is a run of the machine -/
theorem xi_ck_at {q : xi_Q} {i : Nat} {e : xi_E} (h : xi_cka q = true) (hc : q.2.2.2[i]? = some e) : xi_ck q.1.1 (decide (q.1.2.2.2.2.2.1 = 2)) q.1.2.2.2.1 q.1.2.2.2.2.1 (xi_pcs q.1.2.2.2.2.2.2) (xi_wsf q.1.2.2.2.2.2.2) i e = true := by
  unfold xi_cka at h
  have h1 := List.all_eq_true.mp h i (List.mem_range.mpr (List.getElem?_eq_some_iff.mp hc).1)
  rw [hc] at h1
  exact h1
theorem xi_pg_of {μ : Nat} {x : Nat × Nat × List xi_E} (h : xi_pg μ = some x) : ∃ q : xi_Q, xi_tab[μ]? = some q ∧ q.2 = x := by
  unfold xi_pg at h
  cases hq : xi_tab[μ]? with
  | none => rw [hq] at h; cases h
  | some q => rw [hq] at h; cases h; exact ⟨q, rfl, rfl⟩
theorem xi_cck_of {own kd idx w : Nat} {n : List Nat} {q : xi_Q} (h : xi_cck own kd idx w n = true) (hq : xi_tab[n.headD 0]? = some q) : (n.headD 0 < 257 ∧ ¬ n.headD 0 = 28 ∧ ¬ n.headD 0 = 108) ∧ q.1.2.2.2.2.2.1 = kd ∧ (xi_ML[w]? = some (own, idx, n.headD 0) ∨ (kd = 2 ∧ xi_MN[w - 1000]? = some (own, idx, n.headD 0))) ∧ (¬ kd = 0 → n.length = 3 ∧ n[2]? = some q.1.1 ∧ q.1.1 < 9) := by
  unfold xi_cck at h
  rw [hq] at h
  simp only [Bool.and_eq_true, Bool.or_eq_true, decide_eq_true_eq] at h
  obtain ⟨⟨⟨h1, h2⟩, h3⟩, h4⟩ := h
  refine ⟨h1, h2, h3, fun hk => ?_⟩
  rw [if_neg hk] at h4
  simp only [Bool.and_eq_true, decide_eq_true_eq] at h4
  exact ⟨h4.1.1, h4.1.2, h4.2⟩
theorem xi_rcv_of {n : List Nat} {st : List Value} {S : xi_S} {na t : Nat} (h : xi_rcv n st S = true) (hl : n.length = 3) (h1 : n[1]? = some na) (h2 : n[2]? = some t) : ∃ b nn, st[na - 1]? = some (.ref b) ∧ S.1[b]? = some (t, nn) := by
  rcases n with _ | ⟨x, _ | ⟨y, _ | ⟨z, _ | ⟨u, v⟩⟩⟩⟩
  · cases hl
  · cases hl
  · cases hl
  · cases h1
    cases h2
    simp only [xi_rcv] at h
    cases hs : st[na - 1]? with
    | none => rw [hs] at h; cases h
    | some v =>
      rw [hs] at h
      cases v with
      | ref b =>
        simp only at h
        cases hb : S.1[b]? with
        | none => rw [hb] at h; cases h
        | some w =>
          obtain ⟨t2, nn⟩ := w
          rw [hb] at h
          simp only [decide_eq_true_eq] at h
          exact ⟨b, nn, rfl, by rw [hb, h]⟩
      | _ => cases h
  · simp at hl
set_option maxHeartbeats 8000000 in
theorem xi_body (hOK : xi_OK) : ∀ n, xi_Bd n := by
  intro n
  induction n with
  | zero =>
    intro d μ q hq p l en R s m args below meth c Q D cs scr A ρ0 N0 L0 hx hb hml hown hts hini hRf hRl i ls st S r S3 hrun hB1 hB2 hN hfin
    cases hrun
  | succ n ih =>
    intro d μ q hq p l en R s m args below meth c Q D cs scr A ρ0 N0 L0 hx hb hml hown hts hini hRf hRl i ls st S r S3 hrun hB1 hB2 hN hfin
    rw [xi_ex_succ] at hrun
    unfold xi_one at hrun
    cases hc : q.2.2.2[i]? with
    | none => rw [hc] at hrun; cases hrun
    | some e =>
      rw [hc] at hrun
      simp only at hrun
      have hck := xi_ck_at (hOK μ q hq).1 hc
      have go : ∀ (i2 : Nat) (ls2 : xi_L) (st2 : List Value) (S2 : xi_S), xi_ex xi_pg scr n d q.2.2.2 i2 ls2 st2 S2 = some (r, S3) → xi_G p l en R s m args below meth c Q D cs scr A q.2.1 ρ0 N0 L0 (xi_pcs q.1.2.2.2.2.2.2 i2) ls2 (st2) S2 := fun i2 ls2 st2 S2 h => ih d μ q hq p l en R s m args below meth c Q D cs scr A ρ0 N0 L0 hx hb hml hown hts hini hRf hRl i2 ls2 st2 S2 r S3 h hB1 hB2 hN hfin
      have stp : (match xi_stp scr e i ls st S with | some (i2, ls2, st2, S2) => xi_ex xi_pg scr n d q.2.2.2 i2 ls2 st2 S2 | none => none) = some (r, S3) → ∃ (i2 : Nat) (ls2 : xi_L) (st2 : List Value) (S2 : xi_S), xi_stp scr e i ls st S = some (i2, ls2, st2, S2) ∧ xi_G p l en R s m args below meth c Q D cs scr A q.2.1 ρ0 N0 L0 (xi_pcs q.1.2.2.2.2.2.2 i2) ls2 (st2) S2 ∧ S2.1.length ≤ N0 + R.cells ∧ xi_sz S2 ≤ L0 + R.slots ∧ S.1.length < 1000000 ∧ S2.1.length < 1000000 := fun h => by
        cases hs : xi_stp scr e i ls st S with
        | none => rw [hs] at h; cases h
        | some z =>
          obtain ⟨i2, ls2, st2, S2⟩ := z
          rw [hs] at h
          obtain ⟨le1, le2⟩ := xi_pre_le (xi_ex_pre _ _ _ _ _ _ _ _ _ h)
          obtain ⟨le3, le4⟩ := xi_pre_le (xi_stp_pre hs)
          exact ⟨i2, ls2, st2, S2, rfl, go _ _ _ _ h, by omega, by omega, by omega, by omega⟩
      have cpy : (match xi_cpy i ls st S with | some (i2, ls2, st2, S2) => xi_ex xi_pg scr n d q.2.2.2 i2 ls2 st2 S2 | none => none) = some (r, S3) → ∃ (i2 : Nat) (ls2 : xi_L) (st2 : List Value) (S2 : xi_S), xi_cpy i ls st S = some (i2, ls2, st2, S2) ∧ xi_ex xi_pg scr n d q.2.2.2 i2 ls2 st2 S2 = some (r, S3) := fun h => by
        cases hs : xi_cpy i ls st S with
        | none => rw [hs] at h; cases h
        | some z =>
          obtain ⟨i2, ls2, st2, S2⟩ := z
          rw [hs] at h
          exact ⟨i2, ls2, st2, S2, rfl, h⟩
      have mmx : ∀ kx : Nat, (match xi_mm kx i ls st S with | some (i2, ls2, st2, S2) => xi_ex xi_pg scr n d q.2.2.2 i2 ls2 st2 S2 | none => none) = some (r, S3) → ∃ (i2 : Nat) (ls2 : xi_L) (st2 : List Value) (S2 : xi_S), xi_mm kx i ls st S = some (i2, ls2, st2, S2) ∧ xi_ex xi_pg scr n d q.2.2.2 i2 ls2 st2 S2 = some (r, S3) := fun kx h => by
        cases hs : xi_mm kx i ls st S with
        | none => rw [hs] at h; cases h
        | some z =>
          obtain ⟨i2, ls2, st2, S2⟩ := z
          rw [hs] at h
          exact ⟨i2, ls2, st2, S2, rfl, h⟩
      have oin : (match xi_oin i ls st S with | some (i2, ls2, st2, S2) => xi_ex xi_pg scr n d q.2.2.2 i2 ls2 st2 S2 | none => none) = some (r, S3) → ∃ (i2 : Nat) (ls2 : xi_L) (st2 : List Value) (S2 : xi_S), xi_oin i ls st S = some (i2, ls2, st2, S2) ∧ xi_ex xi_pg scr n d q.2.2.2 i2 ls2 st2 S2 = some (r, S3) := fun h => by
        cases hs : xi_oin i ls st S with
        | none => rw [hs] at h; cases h
        | some z =>
          obtain ⟨i2, ls2, st2, S2⟩ := z
          rw [hs] at h
          exact ⟨i2, ls2, st2, S2, rfl, h⟩
      obtain ⟨con, nf, k1, k2⟩ := e
      cases con with
      | iconst z =>
        obtain ⟨i2, ls2, st2, S2, hs, hk, hb2⟩ := stp hrun
        simp only [xi_ck, Bool.and_eq_true, decide_eq_true_eq] at hck
        exact xi_s_iconst hx hb hck.1 hck.2 hs hk
      | bipush z =>
        obtain ⟨i2, ls2, st2, S2, hs, hk, hb2⟩ := stp hrun
        simp only [xi_ck, Bool.and_eq_true, decide_eq_true_eq] at hck
        exact xi_s_bipush hx hb hck.1 hck.2 hs hk
      | sipush z =>
        obtain ⟨i2, ls2, st2, S2, hs, hk, hb2⟩ := stp hrun
        simp only [xi_ck, Bool.and_eq_true, decide_eq_true_eq] at hck
        exact xi_s_sipush hx hb hck.1 hck.2 hs hk
      | lconst z =>
        obtain ⟨i2, ls2, st2, S2, hs, hk, hb2⟩ := stp hrun
        simp only [xi_ck, Bool.and_eq_true, decide_eq_true_eq] at hck
        exact xi_s_lconst hx hb hck.1 hck.2 hs hk
      | ldc_w z =>
        obtain ⟨i2, ls2, st2, S2, hs, hk, hb2⟩ := stp hrun
        simp only [xi_ck, Bool.and_eq_true, decide_eq_true_eq] at hck
        exact xi_s_ldcw hx hb hown hck.1 (hts _ (xi_CK_mem hck.2)) hs hk
      | ldc2_w z =>
        obtain ⟨i2, ls2, st2, S2, hs, hk, hb2⟩ := stp hrun
        simp only [xi_ck, Bool.and_eq_true, decide_eq_true_eq] at hck
        exact xi_s_ldc2 hx hb hown hck.1 (hts _ (xi_CL_mem hck.2)) hs hk
      | iload z =>
        obtain ⟨i2, ls2, st2, S2, hs, hk, hb2⟩ := stp hrun
        simp only [xi_ck, Bool.and_eq_true, decide_eq_true_eq] at hck
        exact xi_s_iload hx hb hck.1 hck.2 hs hk
      | iload_n z =>
        obtain ⟨i2, ls2, st2, S2, hs, hk, hb2⟩ := stp hrun
        simp only [xi_ck, Bool.and_eq_true, decide_eq_true_eq] at hck
        exact xi_s_iload_n hx hb hck.1 hck.2 hs hk
      | lload z =>
        obtain ⟨i2, ls2, st2, S2, hs, hk, hb2⟩ := stp hrun
        simp only [xi_ck, Bool.and_eq_true, decide_eq_true_eq] at hck
        exact xi_s_lload hx hb hck.1 hck.2 hs hk
      | lload_n z =>
        obtain ⟨i2, ls2, st2, S2, hs, hk, hb2⟩ := stp hrun
        simp only [xi_ck, Bool.and_eq_true, decide_eq_true_eq] at hck
        exact xi_s_lload_n hx hb hck.1 hck.2 hs hk
      | aload_n z =>
        obtain ⟨i2, ls2, st2, S2, hs, hk, hb2⟩ := stp hrun
        simp only [xi_ck, Bool.and_eq_true, decide_eq_true_eq] at hck
        exact xi_s_aload_n hx hb hck.1 hck.2 hs hk
      | istore z =>
        obtain ⟨i2, ls2, st2, S2, hs, hk, hb2⟩ := stp hrun
        simp only [xi_ck, Bool.and_eq_true, decide_eq_true_eq] at hck
        exact xi_s_istore hx hb hck.1 hck.2 hs hk
      | istore_n z =>
        obtain ⟨i2, ls2, st2, S2, hs, hk, hb2⟩ := stp hrun
        simp only [xi_ck, Bool.and_eq_true, decide_eq_true_eq] at hck
        exact xi_s_istore_n hx hb hck.1 hck.2 hs hk
      | lstore z =>
        obtain ⟨i2, ls2, st2, S2, hs, hk, hb2⟩ := stp hrun
        simp only [xi_ck, Bool.and_eq_true, decide_eq_true_eq] at hck
        exact xi_s_lstore hx hb hck.1 hck.2 hs hk
      | lstore_n z =>
        obtain ⟨i2, ls2, st2, S2, hs, hk, hb2⟩ := stp hrun
        simp only [xi_ck, Bool.and_eq_true, decide_eq_true_eq] at hck
        exact xi_s_lstore_n hx hb hck.1 hck.2 hs hk
      | astore_n z =>
        obtain ⟨i2, ls2, st2, S2, hs, hk, hb2⟩ := stp hrun
        simp only [xi_ck, Bool.and_eq_true, decide_eq_true_eq] at hck
        exact xi_s_astore_n hx hb hck.1 hck.2 hs hk
      | iinc z y =>
        obtain ⟨i2, ls2, st2, S2, hs, hk, hb2⟩ := stp hrun
        simp only [xi_ck, Bool.and_eq_true, decide_eq_true_eq] at hck
        exact xi_s_iinc hx hb hck.1.1 hck.1.2 hck.2 hs hk
      | iadd =>
        obtain ⟨i2, ls2, st2, S2, hs, hk, hb2⟩ := stp hrun
        exact xi_s_iadd hx hb hck hs hk
      | isub =>
        obtain ⟨i2, ls2, st2, S2, hs, hk, hb2⟩ := stp hrun
        exact xi_s_isub hx hb hck hs hk
      | imul =>
        obtain ⟨i2, ls2, st2, S2, hs, hk, hb2⟩ := stp hrun
        exact xi_s_imul hx hb hck hs hk
      | iand =>
        obtain ⟨i2, ls2, st2, S2, hs, hk, hb2⟩ := stp hrun
        exact xi_s_iand hx hb hck hs hk
      | ior =>
        obtain ⟨i2, ls2, st2, S2, hs, hk, hb2⟩ := stp hrun
        exact xi_s_ior hx hb hck hs hk
      | ixor =>
        obtain ⟨i2, ls2, st2, S2, hs, hk, hb2⟩ := stp hrun
        exact xi_s_ixor hx hb hck hs hk
      | ishl =>
        obtain ⟨i2, ls2, st2, S2, hs, hk, hb2⟩ := stp hrun
        exact xi_s_ishl hx hb hck hs hk
      | ishr =>
        obtain ⟨i2, ls2, st2, S2, hs, hk, hb2⟩ := stp hrun
        exact xi_s_ishr hx hb hck hs hk
      | iushr =>
        obtain ⟨i2, ls2, st2, S2, hs, hk, hb2⟩ := stp hrun
        exact xi_s_iushr hx hb hck hs hk
      | idiv =>
        obtain ⟨i2, ls2, st2, S2, hs, hk, hb2⟩ := stp hrun
        exact xi_s_idiv hx hb hck hs hk
      | irem =>
        obtain ⟨i2, ls2, st2, S2, hs, hk, hb2⟩ := stp hrun
        exact xi_s_irem hx hb hck hs hk
      | ladd =>
        obtain ⟨i2, ls2, st2, S2, hs, hk, hb2⟩ := stp hrun
        exact xi_s_ladd hx hb hck hs hk
      | lsub =>
        obtain ⟨i2, ls2, st2, S2, hs, hk, hb2⟩ := stp hrun
        exact xi_s_lsub hx hb hck hs hk
      | lmul =>
        obtain ⟨i2, ls2, st2, S2, hs, hk, hb2⟩ := stp hrun
        exact xi_s_lmul hx hb hck hs hk
      | ldiv =>
        obtain ⟨i2, ls2, st2, S2, hs, hk, hb2⟩ := stp hrun
        exact xi_s_ldiv hx hb hck hs hk
      | lrem =>
        obtain ⟨i2, ls2, st2, S2, hs, hk, hb2⟩ := stp hrun
        exact xi_s_lrem hx hb hck hs hk
      | lcmp =>
        obtain ⟨i2, ls2, st2, S2, hs, hk, hb2⟩ := stp hrun
        exact xi_s_lcmp hx hb hck hs hk
      | i2l =>
        obtain ⟨i2, ls2, st2, S2, hs, hk, hb2⟩ := stp hrun
        exact xi_s_i2l hx hb hck hs hk
      | l2i =>
        obtain ⟨i2, ls2, st2, S2, hs, hk, hb2⟩ := stp hrun
        exact xi_s_l2i hx hb hck hs hk
      | i2b =>
        obtain ⟨i2, ls2, st2, S2, hs, hk, hb2⟩ := stp hrun
        exact xi_s_i2b hx hb hck hs hk
      | dup =>
        obtain ⟨i2, ls2, st2, S2, hs, hk, hb2⟩ := stp hrun
        exact xi_s_dup hx hb hck hs hk
      | dup2 =>
        obtain ⟨i2, ls2, st2, S2, hs, hk, hb2⟩ := stp hrun
        exact xi_s_dup2 hx hb hck hs hk
      | pop =>
        obtain ⟨i2, ls2, st2, S2, hs, hk, hb2⟩ := stp hrun
        exact xi_s_pop hx hb hck hs hk
      | iaload =>
        obtain ⟨i2, ls2, st2, S2, hs, hk, hb2⟩ := stp hrun
        exact xi_s_iaload hx hb hck hs hk
      | baload =>
        obtain ⟨i2, ls2, st2, S2, hs, hk, hb2⟩ := stp hrun
        exact xi_s_baload hx hb hck hs hk
      | laload =>
        obtain ⟨i2, ls2, st2, S2, hs, hk, hb2⟩ := stp hrun
        exact xi_s_laload hx hb hck hs hk
      | aaload =>
        obtain ⟨i2, ls2, st2, S2, hs, hk, hb2⟩ := stp hrun
        exact xi_s_aaload hx hb hck hs hk
      | iastore =>
        obtain ⟨i2, ls2, st2, S2, hs, hk, hb2⟩ := stp hrun
        exact xi_s_iastore hx hb hck hs hk
      | bastore =>
        obtain ⟨i2, ls2, st2, S2, hs, hk, hb2⟩ := stp hrun
        exact xi_s_bastore hx hb hck hs hk
      | lastore =>
        obtain ⟨i2, ls2, st2, S2, hs, hk, hb2⟩ := stp hrun
        exact xi_s_lastore hx hb hck hs hk
      | aastore =>
        obtain ⟨i2, ls2, st2, S2, hs, hk, hb2⟩ := stp hrun
        exact xi_s_aastore hx hb hck hs hk
      | arraylength =>
        obtain ⟨i2, ls2, st2, S2, hs, hk, hb2⟩ := stp hrun
        exact xi_s_arraylength hx hb hck hs hk
      | getfield z =>
        obtain ⟨i2, ls2, st2, S2, hs, hk, hb2⟩ := stp hrun
        simp only [xi_ck, Bool.and_eq_true] at hck
        exact xi_s_getfield hx hb hts hown hck.1 hck.2 hs hk
      | putfield z =>
        obtain ⟨i2, ls2, st2, S2, hs, hk, hb2⟩ := stp hrun
        simp only [xi_ck, Bool.and_eq_true] at hck
        exact xi_s_putfield hx hb hts hown (fun h => hini (of_decide_eq_true h)) hck.1 hck.2 hs hk
      | getstatic z =>
        obtain ⟨i2, ls2, st2, S2, hs, hk, hb2⟩ := stp hrun
        simp only [xi_ck, Bool.and_eq_true, decide_eq_true_eq] at hck
        exact xi_s_getstatic hx hb hts hown hck.1.1 hck.1.2 hck.2 hs hk
      | new z =>
        obtain ⟨i2, ls2, st2, S2, hs, hk, hb2⟩ := stp hrun
        simp only [xi_ck, Bool.and_eq_true, decide_eq_true_eq] at hck
        exact xi_s_new hx hb hts hown hck.1.1 hck.1.2 hck.2 hb2.2.2.1 ⟨hb2.1, hb2.2.1⟩ hs hk
      | newarray z =>
        obtain ⟨i2, ls2, st2, S2, hs, hk, hb2⟩ := stp hrun
        simp only [xi_ck, Bool.and_eq_true, decide_eq_true_eq] at hck
        exact xi_s_newarray hx hb hts hck.1 hck.2 hb2.2.2.1 ⟨hb2.1, hb2.2.1⟩ hs hk
      | anewarray z =>
        obtain ⟨i2, ls2, st2, S2, hs, hk, hb2⟩ := stp hrun
        simp only [xi_ck, Bool.and_eq_true, decide_eq_true_eq] at hck
        exact xi_s_anewarray hx hb hts hown hck.1 hck.2 hb2.2.2.1 ⟨hb2.1, hb2.2.1⟩ hs hk
      | multianewarray z y =>
        obtain ⟨i2, ls2, st2, S2, hs, hk, hb2⟩ := stp hrun
        simp only [xi_ck, Bool.and_eq_true, Bool.or_eq_true, decide_eq_true_eq] at hck
        exact xi_s_multi hx hb hts hown hck.1.1 hck.1.2 hck.2 hb2.2.2.2 ⟨hb2.1, hb2.2.1⟩ hs hk
      | goto off =>
        simp only [xi_ck, xi_d, xi_tg, Bool.and_eq_true, decide_eq_true_eq] at hck
        intro ρ H locs cells slots lsC hw hl hs
        exact lv_goto hx hb hck.1 hck.2 (go _ _ _ _ hrun ρ H locs cells slots lsC hw hl hs)
      | ifCond cd off =>
        simp only [xi_ck, xi_tg, Bool.and_eq_true, decide_eq_true_eq] at hck
        obtain ⟨hd, hn⟩ := xi_dn_of hck.1
        simp only at hrun
        rcases st with _ | ⟨v, rr⟩
        · cases hrun
        · cases v with
          | int x =>
            simp only at hrun
            cases cd with
            | eq =>
              simp only at hrun
              intro ρ H locs cells slots lsC hw hl hs
              refine lv_if_eq hx hb hd hck.2 (fun hh => ?_) (fun hh => ?_)
              · rw [if_pos hh] at hrun
                exact go _ _ _ _ hrun ρ H locs cells slots lsC hw hl hs.tail
              · rw [if_neg hh] at hrun
                have hk := go _ _ _ _ hrun
                rw [hn] at hk
                exact hk ρ H locs cells slots lsC hw hl hs.tail
            | ne =>
              simp only at hrun
              intro ρ H locs cells slots lsC hw hl hs
              refine lv_if_ne hx hb hd hck.2 (fun hh => ?_) (fun hh => ?_)
              · rw [if_neg hh] at hrun
                exact go _ _ _ _ hrun ρ H locs cells slots lsC hw hl hs.tail
              · rw [if_pos hh] at hrun
                have hk := go _ _ _ _ hrun
                rw [hn] at hk
                exact hk ρ H locs cells slots lsC hw hl hs.tail
            | lt =>
              simp only at hrun
              intro ρ H locs cells slots lsC hw hl hs
              refine lv_if_lt hx hb hd hck.2 (fun hh => ?_) (fun hh => ?_)
              · rw [if_pos hh] at hrun
                exact go _ _ _ _ hrun ρ H locs cells slots lsC hw hl hs.tail
              · rw [if_neg hh] at hrun
                have hk := go _ _ _ _ hrun
                rw [hn] at hk
                exact hk ρ H locs cells slots lsC hw hl hs.tail
            | ge =>
              simp only at hrun
              intro ρ H locs cells slots lsC hw hl hs
              refine lv_if_ge hx hb hd hck.2 (fun hh => ?_) (fun hh => ?_)
              · rw [if_neg (Int32.not_lt.mpr hh)] at hrun
                exact go _ _ _ _ hrun ρ H locs cells slots lsC hw hl hs.tail
              · rw [if_pos (Int32.not_le.mp hh)] at hrun
                have hk := go _ _ _ _ hrun
                rw [hn] at hk
                exact hk ρ H locs cells slots lsC hw hl hs.tail
            | gt =>
              simp only at hrun
              intro ρ H locs cells slots lsC hw hl hs
              refine lv_if_gt hx hb hd hck.2 (fun hh => ?_) (fun hh => ?_)
              · rw [if_pos hh] at hrun
                exact go _ _ _ _ hrun ρ H locs cells slots lsC hw hl hs.tail
              · rw [if_neg hh] at hrun
                have hk := go _ _ _ _ hrun
                rw [hn] at hk
                exact hk ρ H locs cells slots lsC hw hl hs.tail
            | le =>
              simp only at hrun
              intro ρ H locs cells slots lsC hw hl hs
              refine lv_if_le hx hb hd hck.2 (fun hh => ?_) (fun hh => ?_)
              · rw [if_neg (Int32.not_lt.mpr hh)] at hrun
                exact go _ _ _ _ hrun ρ H locs cells slots lsC hw hl hs.tail
              · rw [if_pos (Int32.not_le.mp hh)] at hrun
                have hk := go _ _ _ _ hrun
                rw [hn] at hk
                exact hk ρ H locs cells slots lsC hw hl hs.tail
          | _ => cases hrun
      | if_icmp cd off =>
        simp only [xi_ck, xi_tg, Bool.and_eq_true, decide_eq_true_eq] at hck
        obtain ⟨hd, hn⟩ := xi_dn_of hck.1
        simp only at hrun
        rcases st with _ | ⟨v, _ | ⟨u, rr⟩⟩
        · cases hrun
        · cases v <;> cases hrun
        · cases v with
          | int y =>
            cases u with
            | int x =>
              simp only at hrun
              cases cd with
              | eq =>
                simp only at hrun
                intro ρ H locs cells slots lsC hw hl hs
                refine lv_icmp_eq hx hb hd hck.2 (fun hh => ?_) (fun hh => ?_)
                · rw [if_pos hh] at hrun
                  exact go _ _ _ _ hrun ρ H locs cells slots lsC hw hl hs.tail.tail
                · rw [if_neg hh] at hrun
                  have hk := go _ _ _ _ hrun
                  rw [hn] at hk
                  exact hk ρ H locs cells slots lsC hw hl hs.tail.tail
              | ne =>
                simp only at hrun
                intro ρ H locs cells slots lsC hw hl hs
                refine lv_icmp_ne hx hb hd hck.2 (fun hh => ?_) (fun hh => ?_)
                · rw [if_neg hh] at hrun
                  exact go _ _ _ _ hrun ρ H locs cells slots lsC hw hl hs.tail.tail
                · rw [if_pos hh] at hrun
                  have hk := go _ _ _ _ hrun
                  rw [hn] at hk
                  exact hk ρ H locs cells slots lsC hw hl hs.tail.tail
              | lt =>
                simp only at hrun
                intro ρ H locs cells slots lsC hw hl hs
                refine lv_icmp_lt hx hb hd hck.2 (fun hh => ?_) (fun hh => ?_)
                · rw [if_pos hh] at hrun
                  exact go _ _ _ _ hrun ρ H locs cells slots lsC hw hl hs.tail.tail
                · rw [if_neg hh] at hrun
                  have hk := go _ _ _ _ hrun
                  rw [hn] at hk
                  exact hk ρ H locs cells slots lsC hw hl hs.tail.tail
              | ge =>
                simp only at hrun
                intro ρ H locs cells slots lsC hw hl hs
                refine lv_icmp_ge hx hb hd hck.2 (fun hh => ?_) (fun hh => ?_)
                · rw [if_neg (Int32.not_lt.mpr hh)] at hrun
                  exact go _ _ _ _ hrun ρ H locs cells slots lsC hw hl hs.tail.tail
                · rw [if_pos (Int32.not_le.mp hh)] at hrun
                  have hk := go _ _ _ _ hrun
                  rw [hn] at hk
                  exact hk ρ H locs cells slots lsC hw hl hs.tail.tail
              | gt =>
                simp only at hrun
                intro ρ H locs cells slots lsC hw hl hs
                refine lv_icmp_gt hx hb hd hck.2 (fun hh => ?_) (fun hh => ?_)
                · rw [if_pos hh] at hrun
                  exact go _ _ _ _ hrun ρ H locs cells slots lsC hw hl hs.tail.tail
                · rw [if_neg hh] at hrun
                  have hk := go _ _ _ _ hrun
                  rw [hn] at hk
                  exact hk ρ H locs cells slots lsC hw hl hs.tail.tail
              | le =>
                simp only at hrun
                intro ρ H locs cells slots lsC hw hl hs
                refine lv_icmp_le hx hb hd hck.2 (fun hh => ?_) (fun hh => ?_)
                · rw [if_neg (Int32.not_lt.mpr hh)] at hrun
                  exact go _ _ _ _ hrun ρ H locs cells slots lsC hw hl hs.tail.tail
                · rw [if_pos (Int32.not_le.mp hh)] at hrun
                  have hk := go _ _ _ _ hrun
                  rw [hn] at hk
                  exact hk ρ H locs cells slots lsC hw hl hs.tail.tail
            | _ => cases hrun
          | _ => cases u <;> cases hrun
      | tableswitch dflt lo hi offs =>
        simp only [xi_ck, xi_d, xi_tg, Bool.and_eq_true, decide_eq_true_eq] at hck
        obtain ⟨⟨⟨hd, ht⟩, hlen⟩, hall⟩ := hck
        simp only at hrun
        rcases st with _ | ⟨v, rr⟩
        · cases hrun
        · cases v with
          | int x =>
            simp only at hrun
            by_cases hc : x.toInt < lo ∨ hi < x.toInt
            · rw [if_pos hc] at hrun
              intro ρ H locs cells slots lsC hw hl hs
              exact lv_tableOut hx hb hd hc ht (go _ _ _ _ hrun ρ H locs cells slots lsC hw hl hs.tail)
            · rw [if_neg hc] at hrun
              cases hnt : nf[(x.toInt - lo).toNat + 1]? with
              | none => rw [hnt] at hrun; cases hrun
              | some t =>
                rw [hnt] at hrun
                have hlt : (x.toInt - lo).toNat < offs.size := by
                  have := (List.getElem?_eq_some_iff.mp hnt).1
                  omega
                have h1 := List.all_eq_true.mp hall _ (List.mem_range.mpr hlt)
                simp only [decide_eq_true_eq] at h1
                rw [List.getD_eq_getElem?_getD, hnt] at h1
                have ho : offs[(x.toInt - lo).toNat]? = some (offs.getD (x.toInt - lo).toNat 0) := by
                  rw [Array.getElem?_eq_getElem hlt]
                  simp [Array.getD, hlt]
                intro ρ H locs cells slots lsC hw hl hs
                exact lv_tableIn hx hb hd (fun e => hc (Or.inl e)) (fun e => hc (Or.inr e)) ho h1 (go _ _ _ _ hrun ρ H locs cells slots lsC hw hl hs.tail)
          | _ => cases hrun
      | ireturn =>
        simp only [xi_ck, xi_d, Bool.and_eq_true, Bool.or_eq_true, decide_eq_true_eq] at hck
        obtain ⟨hd, hty⟩ := hck
        simp only at hrun
        split at hrun
        · next v =>
          split at hrun
          · cases hrun
          · next hnar =>
            cases hrun
            refine hfin _ _ (Or.inl ⟨hd, v, ?_⟩)
            rcases hty with ⟨h1, h2⟩ | ⟨h1, h2⟩
            · exact ⟨.int, rfl, h1, rfl⟩
            · refine ⟨.boolean, rfl, h1, ?_⟩
              have h3 : v &&& 1 = v := Decidable.of_not_not (fun e => hnar ⟨h2, e⟩)
              show Value.int (v &&& 1) = Value.int v
              rw [h3]
        · cases hrun
      | lreturn =>
        simp only [xi_ck, xi_d, Bool.and_eq_true, decide_eq_true_eq] at hck
        simp only at hrun
        split at hrun
        · next v =>
          cases hrun
          exact hfin _ _ (Or.inr (Or.inl ⟨hck.1, hck.2, v, rfl⟩))
        · cases hrun
      | return_ =>
        simp only [xi_ck, xi_d, Bool.and_eq_true, decide_eq_true_eq] at hck
        simp only at hrun
        split at hrun
        · cases hrun
          exact hfin _ _ (Or.inr (Or.inr ⟨hck.1, hck.2, rfl⟩))
        · cases hrun
      | invokevirtual idx =>
        simp only [xi_ck, Bool.and_eq_true] at hck
        obtain ⟨hd, hn⟩ := xi_dn_of hck.1
        obtain ⟨d2, mL, na, c2, rv, S2, rfl, hpg, hn1, hna, hrcv, hlen, hsum, hr1, hr2⟩ := xi_cal_of hrun
        obtain ⟨q2, hq2, hqe⟩ := xi_pg_of hpg
        obtain ⟨m2, mL2, na2, c3⟩ := q2
        cases hqe
        obtain ⟨le1, le2⟩ := xi_pre_le (xi_ex_pre _ _ _ _ _ _ _ _ _ hr2)
        have hk := go _ _ _ _ hr2
        rw [hn] at hk
        obtain ⟨hμ, hkd, hML, hcl⟩ := xi_cck_of hck.2 hq2
        obtain ⟨hl3, h2, h9⟩ := hcl (by decide)
        obtain ⟨b, nn, hst, hSb⟩ := xi_rcv_of hrcv hl3 hn1 h2
        exact xi_s_virtual ih hOK hx hb hml hts hown hRf (by omega) hq2 hμ hkd (hML.resolve_right (fun e => by cases e.1)) hst hSb h9 hd hna hlen hsum hr1 (by omega) ⟨by omega, by omega⟩ hk
      | invokestatic idx =>
        simp only [xi_ck, Bool.and_eq_true] at hck
        simp only at hrun
        cases nf with
        | nil =>
          simp only [decide_eq_true_eq] at hck
          obtain ⟨i2, ls2, st2, S2, hs, h2⟩ := cpy hrun
          exact xi_s_cpy hx hb hts hown hml ⟨by omega, by omega⟩ hck.1 hck.2 hs (go _ _ _ _ h2)
        | cons z y =>
         cases y with
         | nil =>
          simp only [Bool.or_eq_true, Bool.and_eq_true, decide_eq_true_eq] at hck
          obtain ⟨i2, ls2, st2, S2, hs, h2⟩ := mmx z hrun
          obtain ⟨le1, le2⟩ := xi_pre_le (xi_ex_pre _ _ _ _ _ _ _ _ _ h2)
          have hsame := xi_p_mm hs
          have hsz : xi_sz S2 = xi_sz S := by unfold xi_sz; rw [hsame]
          rw [hsame] at le1
          exact xi_s_mm hx hb hts hown hml ⟨by omega, by omega⟩ ⟨by omega, by omega⟩ hck.1 hck.2 hs (go _ _ _ _ h2)
         | cons y1 y2 =>
          obtain ⟨hd, hn⟩ := xi_dn_of hck.1
          obtain ⟨d2, mL, na, c2, rv, S2, rfl, hpg, hn1, hna, hrcv, hlen, hsum, hr1, hr2⟩ := xi_cal_of hrun
          obtain ⟨q2, hq2, hqe⟩ := xi_pg_of hpg
          obtain ⟨m2, mL2, na2, c3⟩ := q2
          cases hqe
          obtain ⟨le1, le2⟩ := xi_pre_le (xi_ex_pre _ _ _ _ _ _ _ _ _ hr2)
          have hk := go _ _ _ _ hr2
          rw [hn] at hk
          obtain ⟨hμ, hkd, hML, hcl⟩ := xi_cck_of hck.2 hq2
          exact xi_s_static ih hOK hx hb hml hts hown hRf (by omega) hq2 hμ hkd (hML.resolve_right (fun e => by cases e.1)) hd hna hlen hsum hr1 (by omega) ⟨by omega, by omega⟩ hk
      | invokespecial idx =>
        simp only [xi_ck, Bool.and_eq_true] at hck
        simp only at hrun
        cases nf with
        | nil =>
          simp only [decide_eq_true_eq] at hck
          obtain ⟨i2, ls2, st2, S2, hs, h2⟩ := oin hrun
          exact xi_s_oin hx hb hts hown hml ⟨by omega, by omega⟩ hck.1 hck.2 hs (go _ _ _ _ h2)
        | cons z y =>
          obtain ⟨hd, hn⟩ := xi_dn_of hck.1
          obtain ⟨d2, mL, na, c2, rv, S2, rfl, hpg, hn1, hna, hrcv, hlen, hsum, hr1, hr2⟩ := xi_cal_of hrun
          obtain ⟨q2, hq2, hqe⟩ := xi_pg_of hpg
          obtain ⟨m2, mL2, na2, c3⟩ := q2
          cases hqe
          obtain ⟨le1, le2⟩ := xi_pre_le (xi_ex_pre _ _ _ _ _ _ _ _ _ hr2)
          have hk := go _ _ _ _ hr2
          rw [hn] at hk
          obtain ⟨hμ, hkd, hML, hcl⟩ := xi_cck_of hck.2 hq2
          obtain ⟨hl3, h2, h9⟩ := hcl (by decide)
          obtain ⟨b, nn, hst, hSb⟩ := xi_rcv_of hrcv hl3 hn1 h2
          exact xi_s_init ih hOK hx hb hml hts hown hRf (by omega) hq2 hμ hkd (hML.elim Or.inl (fun e => Or.inr e.2)) hst hd hna hlen hsum hr1 (by omega) ⟨by omega, by omega⟩ hk
      | _ =>
        obtain ⟨i2, ls2, st2, S2, hs, hk, hb2⟩ := stp hrun
        cases hs
end
section
/-! of every method's head; all together -/
theorem xi_lp_at {b n i : Nat} (h : (List.range n).all (fun k => xi_ckr xi_lwq (b + k)) = true) (h1 : b ≤ i) (h2 : i < b + n) : xi_ckr xi_lwq i = true := by
  have h3 := List.all_eq_true.mp h (i - b) (List.mem_range.mpr (by omega))
  rw [show b + (i - b) = i by omega] at h3
  exact h3
theorem xi_lw_len : xc_257.length = 1133 := by decide +kernel
theorem xi_c_law : [(xm_257, 4, 1, xc_257)].all xi_cka = true := by
  rw [List.all_cons, List.all_nil, Bool.and_true]
  unfold xi_cka
  refine List.all_eq_true.mpr (fun i hi => ?_)
  have hi : i < xc_257.length := List.mem_range.mp hi
  rw [xi_lw_len] at hi
  show xi_ckr xi_lwq i = true
  by_cases h0 : i < 48
  · exact xi_lp_at xi_lp_0 (by omega) (by omega)
  by_cases h1 : i < 96
  · exact xi_lp_at xi_lp_1 (by omega) (by omega)
  by_cases h2 : i < 144
  · exact xi_lp_at xi_lp_2 (by omega) (by omega)
  by_cases h3 : i < 192
  · exact xi_lp_at xi_lp_3 (by omega) (by omega)
  by_cases h4 : i < 240
  · exact xi_lp_at xi_lp_4 (by omega) (by omega)
  by_cases h5 : i < 288
  · exact xi_lp_at xi_lp_5 (by omega) (by omega)
  by_cases h6 : i < 336
  · exact xi_lp_at xi_lp_6 (by omega) (by omega)
  by_cases h7 : i < 384
  · exact xi_lp_at xi_lp_7 (by omega) (by omega)
  by_cases h8 : i < 432
  · exact xi_lp_at xi_lp_8 (by omega) (by omega)
  by_cases h9 : i < 480
  · exact xi_lp_at xi_lp_9 (by omega) (by omega)
  by_cases h10 : i < 528
  · exact xi_lp_at xi_lp_10 (by omega) (by omega)
  by_cases h11 : i < 576
  · exact xi_lp_at xi_lp_11 (by omega) (by omega)
  by_cases h12 : i < 624
  · exact xi_lp_at xi_lp_12 (by omega) (by omega)
  by_cases h13 : i < 672
  · exact xi_lp_at xi_lp_13 (by omega) (by omega)
  by_cases h14 : i < 720
  · exact xi_lp_at xi_lp_14 (by omega) (by omega)
  by_cases h15 : i < 768
  · exact xi_lp_at xi_lp_15 (by omega) (by omega)
  by_cases h16 : i < 816
  · exact xi_lp_at xi_lp_16 (by omega) (by omega)
  by_cases h17 : i < 864
  · exact xi_lp_at xi_lp_17 (by omega) (by omega)
  by_cases h18 : i < 912
  · exact xi_lp_at xi_lp_18 (by omega) (by omega)
  by_cases h19 : i < 960
  · exact xi_lp_at xi_lp_19 (by omega) (by omega)
  by_cases h20 : i < 1008
  · exact xi_lp_at xi_lp_20 (by omega) (by omega)
  by_cases h21 : i < 1056
  · exact xi_lp_at xi_lp_21 (by omega) (by omega)
  by_cases h22 : i < 1104
  · exact xi_lp_at xi_lp_22 (by omega) (by omega)
  by_cases h23 : i < 1133
  · exact xi_lp_at xi_lp_23 (by omega) (by omega)
  · omega
set_option maxRecDepth 100000 in
theorem xi_hh_0 : (List.range 64).all (fun k => match xi_tab[0 + k]? with
  | some q => decide (0 + k = 28) || decide (0 + k = 108) || xi_ckh (0 + k) q
  | none => false) = true := by decide +kernel
set_option maxRecDepth 100000 in
theorem xi_hh_1 : (List.range 64).all (fun k => match xi_tab[64 + k]? with
  | some q => decide (64 + k = 28) || decide (64 + k = 108) || xi_ckh (64 + k) q
  | none => false) = true := by decide +kernel
set_option maxRecDepth 100000 in
theorem xi_hh_2 : (List.range 64).all (fun k => match xi_tab[128 + k]? with
  | some q => decide (128 + k = 28) || decide (128 + k = 108) || xi_ckh (128 + k) q
  | none => false) = true := by decide +kernel
set_option maxRecDepth 100000 in
theorem xi_hh_3 : (List.range 64).all (fun k => match xi_tab[192 + k]? with
  | some q => decide (192 + k = 28) || decide (192 + k = 108) || xi_ckh (192 + k) q
  | none => false) = true := by decide +kernel
set_option maxRecDepth 100000 in
theorem xi_hh_4 : (List.range 1).all (fun k => match xi_tab[256 + k]? with
  | some q => decide (256 + k = 28) || decide (256 + k = 108) || xi_ckh (256 + k) q
  | none => false) = true := by decide +kernel
theorem xi_all2 {a b : List (xi_M × Nat × Nat × List xi_E)} (h1 : a.all xi_cka = true) (h2 : b.all xi_cka = true) : (a ++ b).all xi_cka = true := by rw [List.all_append, h1, h2]; rfl
set_option maxRecDepth 100000 in
set_option maxHeartbeats 4000000 in
theorem xi_tab_eq : xi_tab = [(xm_0, 2, 1, xc_0), (xm_1, 1, 1, xc_1), (xm_2, 1, 1, xc_2), (xm_3, 1, 1, xc_3), (xm_4, 2, 2, xc_4), (xm_5, 2, 2, xc_5), (xm_6, 2, 2, xc_6), (xm_7, 1, 1, xc_7)] ++ ([(xm_8, 4, 2, xc_8), (xm_9, 3, 3, xc_9), (xm_10, 1, 1, xc_10), (xm_11, 2, 2, xc_11), (xm_12, 3, 3, xc_12), (xm_13, 5, 4, xc_13), (xm_14, 4, 3, xc_14), (xm_15, 2, 2, xc_15), (xm_16, 4, 3, xc_16), (xm_17, 3, 2, xc_17), (xm_18, 6, 6, xc_18), (xm_19, 3, 3, xc_19)] ++ ([(xm_20, 7, 2, xc_20), (xm_21, 3, 3, xc_21), (xm_22, 1, 1, xc_22), (xm_23, 4, 2, xc_23), (xm_24, 6, 4, xc_24), (xm_25, 2, 2, xc_25), (xm_26, 3, 2, xc_26)] ++ ([(xm_27, 7, 3, xc_27), (xm_28, 2, 2, xc_28), (xm_29, 4, 3, xc_29), (xm_30, 7, 4, xc_30), (xm_31, 2, 1, xc_31)] ++ ([(xm_32, 5, 1, xc_32), (xm_33, 4, 4, xc_33), (xm_34, 5, 4, xc_34), (xm_35, 3, 3, xc_35), (xm_36, 2, 2, xc_36), (xm_37, 2, 2, xc_37), (xm_38, 2, 2, xc_38), (xm_39, 5, 3, xc_39), (xm_40, 4, 2, xc_40), (xm_41, 2, 1, xc_41)] ++ ([(xm_42, 2, 2, xc_42), (xm_43, 3, 3, xc_43), (xm_44, 3, 3, xc_44), (xm_45, 2, 2, xc_45), (xm_46, 4, 3, xc_46), (xm_47, 3, 3, xc_47), (xm_48, 2, 2, xc_48), (xm_49, 3, 3, xc_49), (xm_50, 4, 3, xc_50), (xm_51, 4, 2, xc_51), (xm_52, 4, 2, xc_52), (xm_53, 3, 2, xc_53)] ++ ([(xm_54, 3, 2, xc_54), (xm_55, 3, 3, xc_55), (xm_56, 3, 3, xc_56), (xm_57, 2, 2, xc_57), (xm_58, 2, 2, xc_58), (xm_59, 1, 1, xc_59), (xm_60, 2, 2, xc_60), (xm_61, 1, 1, xc_61), (xm_62, 1, 1, xc_62), (xm_63, 5, 4, xc_63), (xm_64, 1, 1, xc_64)] ++ ([(xm_65, 3, 2, xc_65), (xm_66, 3, 3, xc_66), (xm_67, 2, 2, xc_67), (xm_68, 2, 2, xc_68), (xm_69, 2, 2, xc_69), (xm_70, 1, 1, xc_70), (xm_71, 1, 1, xc_71), (xm_72, 1, 1, xc_72), (xm_73, 2, 2, xc_73), (xm_74, 4, 2, xc_74), (xm_75, 1, 1, xc_75)] ++ ([(xm_76, 2, 1, xc_76), (xm_77, 2, 2, xc_77), (xm_78, 2, 1, xc_78), (xm_79, 6, 4, xc_79), (xm_80, 3, 2, xc_80), (xm_81, 7, 3, xc_81)] ++ ([(xm_82, 5, 3, xc_82), (xm_83, 2, 2, xc_83), (xm_84, 4, 2, xc_84), (xm_85, 4, 3, xc_85), (xm_86, 2, 2, xc_86), (xm_87, 1, 1, xc_87), (xm_88, 2, 2, xc_88), (xm_89, 2, 2, xc_89)] ++ ([(xm_90, 3, 2, xc_90), (xm_91, 4, 2, xc_91), (xm_92, 3, 3, xc_92), (xm_93, 3, 3, xc_93), (xm_94, 3, 3, xc_94), (xm_95, 3, 3, xc_95)] ++ ([(xm_96, 2, 1, xc_96), (xm_97, 4, 4, xc_97), (xm_98, 4, 4, xc_98), (xm_99, 3, 2, xc_99), (xm_100, 3, 3, xc_100), (xm_101, 4, 3, xc_101), (xm_102, 3, 3, xc_102), (xm_103, 2, 2, xc_103)] ++ ([(xm_104, 7, 3, xc_104), (xm_105, 7, 3, xc_105), (xm_106, 3, 3, xc_106), (xm_107, 3, 3, xc_107), (xm_108, 2, 2, xc_108), (xm_109, 4, 2, xc_109), (xm_110, 4, 3, xc_110), (xm_111, 6, 4, xc_111)] ++ ([(xm_112, 5, 2, xc_112), (xm_113, 4, 3, xc_113), (xm_114, 3, 2, xc_114), (xm_115, 5, 3, xc_115), (xm_116, 4, 4, xc_116), (xm_117, 4, 4, xc_117)] ++ ([(xm_118, 3, 2, xc_118), (xm_119, 1, 1, xc_119), (xm_120, 3, 1, xc_120), (xm_121, 5, 2, xc_121), (xm_122, 2, 2, xc_122), (xm_123, 5, 2, xc_123), (xm_124, 4, 3, xc_124), (xm_125, 4, 4, xc_125)] ++ ([(xm_126, 8, 4, xc_126), (xm_127, 9, 4, xc_127), (xm_128, 5, 2, xc_128), (xm_129, 3, 3, xc_129), (xm_130, 7, 3, xc_130), (xm_131, 11, 2, xc_131), (xm_132, 3, 3, xc_132)] ++ ([(xm_133, 8, 4, xc_133), (xm_134, 4, 3, xc_134), (xm_135, 3, 3, xc_135), (xm_136, 7, 3, xc_136), (xm_137, 6, 4, xc_137), (xm_138, 4, 3, xc_138)] ++ ([(xm_139, 7, 3, xc_139), (xm_140, 4, 2, xc_140), (xm_141, 1, 1, xc_141), (xm_142, 1, 1, xc_142), (xm_143, 1, 1, xc_143), (xm_144, 2, 2, xc_144), (xm_145, 3, 1, xc_145), (xm_146, 3, 1, xc_146), (xm_147, 1, 1, xc_147), (xm_148, 2, 2, xc_148)] ++ ([(xm_149, 4, 1, xc_149), (xm_150, 7, 2, xc_150), (xm_151, 7, 2, xc_151)] ++ ([(xm_152, 7, 2, xc_152), (xm_153, 2, 1, xc_153), (xm_154, 4, 3, xc_154), (xm_155, 1, 1, xc_155), (xm_156, 3, 3, xc_156), (xm_157, 2, 2, xc_157), (xm_158, 4, 4, xc_158), (xm_159, 4, 3, xc_159)] ++ ([(xm_160, 2, 2, xc_160), (xm_161, 3, 3, xc_161), (xm_162, 3, 3, xc_162), (xm_163, 5, 4, xc_163), (xm_164, 3, 2, xc_164), (xm_165, 7, 6, xc_165), (xm_166, 6, 2, xc_166), (xm_167, 4, 3, xc_167), (xm_168, 1, 1, xc_168)] ++ ([(xm_169, 6, 4, xc_169), (xm_170, 2, 2, xc_170), (xm_171, 3, 2, xc_171), (xm_172, 2, 2, xc_172), (xm_173, 2, 2, xc_173), (xm_174, 2, 2, xc_174)] ++ ([(xm_175, 6, 2, xc_175), (xm_176, 1, 1, xc_176), (xm_177, 4, 2, xc_177), (xm_178, 3, 3, xc_178), (xm_179, 2, 2, xc_179), (xm_180, 3, 3, xc_180)] ++ ([(xm_181, 2, 2, xc_181), (xm_182, 3, 3, xc_182), (xm_183, 3, 3, xc_183), (xm_184, 2, 2, xc_184), (xm_185, 3, 3, xc_185), (xm_186, 5, 3, xc_186), (xm_187, 3, 3, xc_187), (xm_188, 5, 3, xc_188), (xm_189, 3, 2, xc_189), (xm_190, 3, 2, xc_190), (xm_191, 3, 3, xc_191)] ++ ([(xm_192, 5, 3, xc_192), (xm_193, 8, 4, xc_193), (xm_194, 2, 2, xc_194), (xm_195, 3, 1, xc_195), (xm_196, 2, 2, xc_196), (xm_197, 3, 3, xc_197), (xm_198, 5, 3, xc_198)] ++ ([(xm_199, 1, 1, xc_199), (xm_200, 1, 1, xc_200), (xm_201, 2, 2, xc_201), (xm_202, 1, 1, xc_202), (xm_203, 3, 1, xc_203), (xm_204, 1, 1, xc_204), (xm_205, 2, 1, xc_205), (xm_206, 3, 2, xc_206), (xm_207, 4, 3, xc_207), (xm_208, 4, 2, xc_208)] ++ ([(xm_209, 4, 1, xc_209), (xm_210, 2, 1, xc_210), (xm_211, 4, 2, xc_211), (xm_212, 4, 2, xc_212)] ++ ([(xm_213, 5, 2, xc_213), (xm_214, 3, 3, xc_214), (xm_215, 3, 3, xc_215), (xm_216, 3, 3, xc_216), (xm_217, 5, 4, xc_217), (xm_218, 3, 3, xc_218), (xm_219, 6, 3, xc_219)] ++ ([(xm_220, 4, 3, xc_220), (xm_221, 2, 2, xc_221), (xm_222, 8, 3, xc_222), (xm_223, 6, 2, xc_223), (xm_224, 4, 3, xc_224), (xm_225, 2, 2, xc_225), (xm_226, 6, 3, xc_226), (xm_227, 2, 2, xc_227)] ++ ([(xm_228, 7, 4, xc_228), (xm_229, 4, 2, xc_229), (xm_230, 8, 3, xc_230)] ++ ([(xm_231, 4, 4, xc_231), (xm_232, 3, 2, xc_232), (xm_233, 1, 1, xc_233), (xm_234, 2, 1, xc_234), (xm_235, 6, 2, xc_235), (xm_236, 2, 2, xc_236), (xm_237, 8, 2, xc_237)] ++ ([(xm_238, 4, 4, xc_238), (xm_239, 8, 4, xc_239), (xm_240, 5, 2, xc_240), (xm_241, 12, 4, xc_241), (xm_242, 6, 3, xc_242), (xm_243, 10, 4, xc_243), (xm_244, 3, 3, xc_244)] ++ ([(xm_245, 8, 4, xc_245), (xm_246, 8, 3, xc_246), (xm_247, 1, 1, xc_247), (xm_248, 1, 1, xc_248), (xm_249, 1, 1, xc_249), (xm_250, 2, 2, xc_250), (xm_251, 4, 2, xc_251), (xm_252, 1, 1, xc_252)] ++ ([(xm_253, 2, 2, xc_253), (xm_254, 3, 1, xc_254), (xm_255, 2, 2, xc_255), (xm_256, 3, 1, xc_256)] ++ ([(xm_257, 4, 1, xc_257)])))))))))))))))))))))))))))))))))) := by rfl
theorem xi_c_all : xi_tab.all xi_cka = true := by
  rw [xi_tab_eq]
  exact xi_all2 xi_c_0 (xi_all2 xi_c_1 (xi_all2 xi_c_2 (xi_all2 xi_c_3 (xi_all2 xi_c_4 (xi_all2 xi_c_5 (xi_all2 xi_c_6 (xi_all2 xi_c_7 (xi_all2 xi_c_8 (xi_all2 xi_c_9 (xi_all2 xi_c_10 (xi_all2 xi_c_11 (xi_all2 xi_c_12 (xi_all2 xi_c_13 (xi_all2 xi_c_14 (xi_all2 xi_c_15 (xi_all2 xi_c_16 (xi_all2 xi_c_17 (xi_all2 xi_c_18 (xi_all2 xi_c_19 (xi_all2 xi_c_20 (xi_all2 xi_c_21 (xi_all2 xi_c_22 (xi_all2 xi_c_23 (xi_all2 xi_c_24 (xi_all2 xi_c_25 (xi_all2 xi_c_26 (xi_all2 xi_c_27 (xi_all2 xi_c_28 (xi_all2 xi_c_29 (xi_all2 xi_c_30 (xi_all2 xi_c_31 (xi_all2 xi_c_32 (xi_all2 xi_c_33 (xi_c_law))))))))))))))))))))))))))))))))))
theorem xi_hh_at {b n μ : Nat} {q : xi_M × Nat × Nat × List xi_E} (h : (List.range n).all (fun k => match xi_tab[b + k]? with
  | some q => decide (b + k = 28) || decide (b + k = 108) || xi_ckh (b + k) q
  | none => false) = true) (h1 : b ≤ μ) (h2 : μ < b + n) (hn1 : ¬ μ = 28) (hn2 : ¬ μ = 108) (hq : xi_tab[μ]? = some q) : xi_ckh μ q = true := by
  have h3 := List.all_eq_true.mp h (μ - b) (List.mem_range.mpr (by omega))
  rw [show b + (μ - b) = μ by omega, hq] at h3
  simp only [Bool.or_eq_true, decide_eq_true_eq] at h3
  rcases h3 with (h3 | h3) | h3
  · exact absurd h3 hn1
  · exact absurd h3 hn2
  · exact h3
theorem xi_ok : xi_OK := by
  intro μ q hq
  refine ⟨List.all_eq_true.mp xi_c_all q (List.mem_of_getElem? hq), fun hμ => ?_⟩

  by_cases h0 : μ < 64
  · exact xi_hh_at xi_hh_0 (by omega) (by omega) hμ.2.1 hμ.2.2 hq
  by_cases h1 : μ < 128
  · exact xi_hh_at xi_hh_1 (by omega) (by omega) hμ.2.1 hμ.2.2 hq
  by_cases h2 : μ < 192
  · exact xi_hh_at xi_hh_2 (by omega) (by omega) hμ.2.1 hμ.2.2 hq
  by_cases h3 : μ < 256
  · exact xi_hh_at xi_hh_3 (by omega) (by omega) hμ.2.1 hμ.2.2 hq
  by_cases h4 : μ < 257
  · exact xi_hh_at xi_hh_4 (by omega) (by omega) hμ.2.1 hμ.2.2 hq
  · omega
end
section
/-! THE CLAIM OUT OF ONE WALK OF THE LAW'S BODY. Your part is whole_start (and what it stands on); all else here is the same for every law, but numbers. -/
def R_law : String := "GuineaHoursLaw"
def lw_P (b : Addr) (xs : List Int32) (args : Array Value) (s : State) : Prop := args = #[.ref b] ∧ s.IntsAt b xs ∧ xs.length ≤ 3072 ∧ (Jvm.Cond.and given_1 narrow_1).before args s = true
def lw_Q (_ : Array Value) (s : State) (o : Outcome) (t : State) : Prop := o = .returned (some (.int 1)) ∧ Framed s o t [] 600000 7302250
def lw_Z (below : List Frame) (a : Array Value) (s : State) : State → Prop := fun t => ∃ o, t.status = .running ∧ Ended t below o ∧ lw_Q a s o t
/-- the law's own end, with 1 on the stack, nothing written that was there before, its room as the claim has it -/
theorem lw_ret {p : Program} {l : Launch} {e : Env} {s : State} {m : MethodId} {below : List Frame} {meth : Method} {c : Code} {b : Nat} (hx : p.tables.exec = Jvm.exec) (hb : c.code = code) (hr : meth.sig.returnType = ret) (hlocks : meth.locks = false) {pc : Nat} {H : Heap} {ls : Array Slot} (hdg : decode code pc = .ok (.ireturn, 1)) : W p l e room_1 s m #[Value.ref b] below meth c H [] 600000 7302250 (lw_Z below #[Value.ref b] s) (F0 m pc ls [.int 1]) := by
  intro T hT X
  obtain ⟨fs, hret, hrun, hended, hW, hframe⟩ := X.leave (v := some (.int 1)) (hlocks := hlocks) (fun h => by rw [hr] at h; cases h)
  have hmeth' : T.vm.method? m = some meth := X.method'
  refine ⟨T.setFrames fs, ?_, .returned (some (.int 1)), hrun, hended, rfl, ⟨_, rfl⟩, hW, hframe⟩
  jvm_step X.here [X.here.top, hx, hb, hdg, hmeth', hr, ret, narrow_b1]
  (try refine ⟨rfl, ?_⟩); (try refine ⟨rfl, ?_⟩)
  first | (intro acts; rw [hret _ acts rfl rfl rfl]) | rw [hret _ _ rfl rfl rfl]
  exact Steps.refl _
/-- what holds at the law's entry: the machine, the code, the tables' words (any of lw_tbl by 'hts w (by decide +kernel)'), the script of L ints xs at the cell b, what the Statement gives of the start (any of its parts by flat_of_before) -/
def lw_At (p : Program) (s : State) (m : MethodId) (meth : Method) (c : Code) (b L : Nat) (xs : Nat → Int32) : Prop :=
  p.tables.exec = Jvm.exec ∧ c.code = code ∧ meth.sig.returnType = ret ∧ c.maxLocals = 4 ∧ s.vm.findClass R_law = some m.cls ∧ (∀ w ∈ lw_tbl, w.before #[Value.ref b] s = true) ∧ va_X b L xs s s.heap ∧ b < s.heap.size ∧ meth.locks = false ∧ (Jvm.Cond.and given_1 narrow_1).before #[Value.ref b] s = true
/-! FROM THE LAW's ENTRY to a run of the interpreter -/
def xi_S0 : xi_S := ([], fun _ _ => 0, fun _ _ => 0, fun _ _ => none)
theorem xi_w_ls1 : Cond.laysStatic "GuineaHours" "KIND_LETTERS" "[B" ∈ lw_tbl := List.mem_append_right _ (List.mem_of_getElem? (i := 348) (by decide +kernel))
theorem xi_w_ls2 : Cond.laysStatic "GuineaHours" "KIND_EXTRA" "[I" ∈ lw_tbl := List.mem_append_right _ (List.mem_of_getElem? (i := 412) (by decide +kernel))
theorem xi_w_ghi : Cond.initialized "GuineaHours" ∈ lw_tbl := xi_tb_lw (xi_in_mem (c := 7) (by decide))
theorem xi_arr_prim {s : State} {args : Array Value} {ty : FieldType} (h : (Cond.arrayClass ty).before args s = true) (hp : ∀ cA, s.vm.findClass ("[" ++ ty.toString) = some cA → va_RA s cA ty) : ∃ cA : ClassId, ArrOfT s cA ty ∧ va_RA s cA ty := by
  obtain ⟨cA, kA, comp, hfind, hk, hkind⟩ := Cond.arrayClass_spec h
  exact ⟨cA, fun n z => ⟨fun k h => (by cases h), kA, hk, comp, hkind⟩, hp cA hfind⟩
theorem xi_arr_obj {s : State} {args : Array Value} {C : String} (h : (Cond.arrayOver (.object C)).before args s = true) : ∃ cA : ClassId, ArrOfT s cA (.object C) ∧ va_RA s cA (.object C) := by
  obtain ⟨comp, cA, kA, h1, h2, h3, h4, h5⟩ := Cond.arrayOver_spec h
  exact ⟨cA, fun n z => ⟨fun k h => (by cases h), kA, h3, comp, h4⟩, kA, comp, h3, h4, h1, h5⟩
theorem xi_arr_arr {s : State} {args : Array Value} {t : FieldType} (h : (Cond.arrayOver (.array t)).before args s = true) : ∃ cA : ClassId, ArrOfT s cA (.array t) ∧ va_RA s cA (.array t) := by
  obtain ⟨comp, cA, kA, h1, h3, h4, h5⟩ := Cond.arrayOver_specA h
  exact ⟨cA, fun n z => ⟨fun k h => (by cases h), kA, h3, comp, h4⟩, h5⟩
theorem xi_tab_law : xi_tab[257]? = some (xm_257, 4, 1, xc_257) := by rfl
set_option maxHeartbeats 4000000 in
/-- the law's walk, out of a run of the interpreter -/
theorem xi_start {p : Program} {e : Env} {s : State} {m : MethodId} {below : List Frame} {meth : Method} {c : Code} (l : Launch) {b L : Nat} {xs : Nat → Int32} (hL : L ≤ 3072) (C0 : lw_At p s m meth c b L xs)
    (hrun : ∃ (n : Nat) (S3 : xi_S), xi_ex xi_pg (L, xs) n 30 xc_257 0 (xi_en [.ref 1000002] 4) [] xi_S0 = some (some (.int 1), S3) ∧ S3.1.length ≤ 600000 ∧ xi_sz S3 ≤ 7302250) :
    W p l e room_1 s m #[Value.ref b] below meth c s.heap [] 0 0 (lw_Z below #[Value.ref b] s) (entryFrame m ([Value.ref b] : List Value).toArray 4) := by
  obtain ⟨hx, hb, hr, hml, hown, hlw, hX, hbl, hlocks, hgv⟩ := id C0
  obtain ⟨n, S3, hrun, hc3, hz3⟩ := hrun
  have hts : ∀ w ∈ xi_tb, w.before #[Value.ref b] s = true := fun w h => hlw w (xi_tb_lw h)
  have hfl := flat_of_before _ hgv
  obtain ⟨A, hAd⟩ : ∃ A : Nat → Prop, A = fun q => s.heap.size ≤ q := ⟨_, rfl⟩
  have hA : ∀ q, s.heap.size ≤ q → A q := fun q h => by rw [hAd]; exact h
  have hnA : ∀ a : Nat, a < s.heap.size → ¬ A a := fun a h => by rw [hAd]; exact Nat.not_le.mpr h
  -- the classes
  have hcl : ∀ ci : Nat, ∃ x : ClassId × (Nat → Nat), ci < 9 → u_Kn s (xi_cn ci) (xi_T ci) (xi_nf ci) x.1 x.2 := fun ci => by
    by_cases h : ci < 9
    · obtain ⟨cC, iS, hk⟩ := u_known (n := xi_nf ci) hts (xi_in h) (hts _ (xi_tb_of (List.mem_of_getElem? (xi_ip_ok ci h).1) rfl))
      exact ⟨(cC, iS), fun _ => hk⟩
    · exact ⟨(0, fun _ => 0), fun h2 => absurd h2 h⟩
  have hcs : ∀ t : Nat, ∃ cA : ClassId, 9 ≤ t → t ≤ 14 → ArrOfT s cA (xi_at t) ∧ va_RA s cA (xi_at t) := fun t => by
    by_cases h : 9 ≤ t ∧ t ≤ 14
    · have hh : ∃ cA : ClassId, ArrOfT s cA (xi_at t) ∧ va_RA s cA (xi_at t) := by
        rcases (show t = 9 ∨ t = 10 ∨ t = 11 ∨ t = 12 ∨ t = 13 ∨ t = 14 by omega) with rfl | rfl | rfl | rfl | rfl | rfl
        · exact xi_arr_prim (hts _ xi_w_ai) (fun _ h => h)
        · exact xi_arr_prim (hts _ xi_w_ab) (fun _ h => h)
        · exact xi_arr_prim (hts _ xi_w_aj) (fun _ h => h)
        · exact xi_arr_obj (hts _ xi_w_od)
        · exact xi_arr_arr (hts _ xi_w_ob)
        · exact xi_arr_arr (hts _ xi_w_oi)
      obtain ⟨cA, hh⟩ := hh
      exact ⟨cA, fun _ _ => hh⟩
    · exact ⟨0, fun h1 h2 => absurd ⟨h1, h2⟩ h⟩
  obtain ⟨D, hD⟩ : ∃ D : va_G, ∀ ci : Nat, ci < 9 → u_Kn s (xi_cn ci) (xi_T ci) (xi_nf ci) (D.1 ci) (D.2 ci) := ⟨(fun k => (Classical.choose (hcl k)).1, fun k => (Classical.choose (hcl k)).2), fun ci h => Classical.choose_spec (hcl ci) h⟩
  obtain ⟨cs, hcs⟩ : ∃ cs : Nat → ClassId, ∀ t, 9 ≤ t → t ≤ 14 → ArrOfT s (cs t) (xi_at t) ∧ va_RA s (cs t) (xi_at t) := ⟨fun t => Classical.choose (hcs t), fun t => Classical.choose_spec (hcs t)⟩
  have hK : va_K D xi_cl (xi_ts cs) s := ⟨fun ci q hq => by
    have h9 := xi_cl_lt hq
    rw [xi_cl_at h9] at hq
    cases hq
    exact hD ci h9, fun k q hq => by
    have hk : k < 6 := (List.getElem?_eq_some_iff.mp hq).1
    have h1 := xi_ts_at cs (t := k + 9) (by omega) (by omega)
    rw [show k + 9 - 9 = k by omega, hq] at h1
    cases h1
    exact hcs (k + 9) (by omega) (by omega)⟩
  -- the tables
  obtain ⟨tL, hvL, hTL⟩ := va_Tof (tm := .static "GuineaHours" "KIND_LETTERS" "[B") (ty := .byte) (N := 6) (f := fun i => .int (xi_letters i)) (A := A) (by decide) (hfl _ (by decide +kernel)) (va_eqt (hfl (Cond.eq (.length (.static "GuineaHours" "KIND_LETTERS" "[B")) (.int 6)) (by decide +kernel))) (fun j hj => by
    rcases (show j = 0 ∨ j = 1 ∨ j = 2 ∨ j = 3 ∨ j = 4 ∨ j = 5 by omega) with rfl | rfl | rfl | rfl | rfl | rfl
    · exact va_eqt (hfl (Cond.eq (.elem (.static "GuineaHours" "KIND_LETTERS" "[B") (.int 0)) (.int 109)) (by decide +kernel))
    · exact va_eqt (hfl (Cond.eq (.elem (.static "GuineaHours" "KIND_LETTERS" "[B") (.int 1)) (.int 112)) (by decide +kernel))
    · exact va_eqt (hfl (Cond.eq (.elem (.static "GuineaHours" "KIND_LETTERS" "[B") (.int 2)) (.int 115)) (by decide +kernel))
    · exact va_eqt (hfl (Cond.eq (.elem (.static "GuineaHours" "KIND_LETTERS" "[B") (.int 3)) (.int 101)) (by decide +kernel))
    · exact va_eqt (hfl (Cond.eq (.elem (.static "GuineaHours" "KIND_LETTERS" "[B") (.int 4)) (.int 103)) (by decide +kernel))
    · exact va_eqt (hfl (Cond.eq (.elem (.static "GuineaHours" "KIND_LETTERS" "[B") (.int 5)) (.int 116)) (by decide +kernel))) hnA
  obtain ⟨tE, hvE, hTE⟩ := va_Tof (tm := .static "GuineaHours" "KIND_EXTRA" "[I") (ty := .int) (N := 6) (f := fun i => .int (xi_extra i)) (A := A) (by decide) (hfl _ (by decide +kernel)) (va_eqt (hfl (Cond.eq (.length (.static "GuineaHours" "KIND_EXTRA" "[I")) (.int 6)) (by decide +kernel))) (fun j hj => by
    rcases (show j = 0 ∨ j = 1 ∨ j = 2 ∨ j = 3 ∨ j = 4 ∨ j = 5 by omega) with rfl | rfl | rfl | rfl | rfl | rfl
    · exact va_eqt (hfl (Cond.eq (.elem (.static "GuineaHours" "KIND_EXTRA" "[I") (.int 0)) (.int 0)) (by decide +kernel))
    · exact va_eqt (hfl (Cond.eq (.elem (.static "GuineaHours" "KIND_EXTRA" "[I") (.int 1)) (.int 0)) (by decide +kernel))
    · exact va_eqt (hfl (Cond.eq (.elem (.static "GuineaHours" "KIND_EXTRA" "[I") (.int 2)) (.int 0)) (by decide +kernel))
    · exact va_eqt (hfl (Cond.eq (.elem (.static "GuineaHours" "KIND_EXTRA" "[I") (.int 3)) (.int 1)) (by decide +kernel))
    · exact va_eqt (hfl (Cond.eq (.elem (.static "GuineaHours" "KIND_EXTRA" "[I") (.int 4)) (.int 0)) (by decide +kernel))
    · exact va_eqt (hfl (Cond.eq (.elem (.static "GuineaHours" "KIND_EXTRA" "[I") (.int 5)) (.int 2)) (by decide +kernel))) hnA
  have hZL := va_Zref (A := A) (hlw _ xi_w_ls1) (hlw _ xi_w_ghi) hvL hnA
  have hZE := va_Zref (A := A) (hlw _ xi_w_ls2) (hlw _ xi_w_ghi) hvE hnA
  have hTS : va_T .int b L (fun i => .int (xs i)) A s s.heap := by
    obtain ⟨scr, h1, h2, h3, h4, h5⟩ := hX
    exact ⟨scr, h1, h2, h3, Nat.le_of_eq h4.symm, by rw [h4], h5, hnA b hbl⟩
  obtain ⟨ρ, hρ⟩ : ∃ ρ : Nat → Nat, ρ = fun k => if k = 1000000 then tL else if k = 1000001 then tE else b := ⟨_, rfl⟩
  have r0 : ρ 1000000 = tL := by rw [hρ]; simp
  have r1 : ρ 1000001 = tE := by rw [hρ]; simp
  have r2 : ρ 1000002 = b := by rw [hρ]; simp
  have hro : xi_ro (L, xs) ρ A s s.heap := by
    unfold xi_ro
    rw [r0, r1, r2]
    exact ⟨hTL, hTE, hTS, hZL, hZE⟩
  have hG := xi_body xi_ok n 30 257 (xm_257, 4, 1, xc_257) xi_tab_law p l e room_1 s m #[Value.ref b] below meth c (lw_Z below #[Value.ref b] s) D cs (L, xs) A ρ 0 0 hx hb hml hown hts (fun h => by cases h) (Nat.le_of_ble_eq_true rfl) (Nat.le_of_ble_eq_true rfl) 0 (xi_en [.ref 1000002] 4) [] xi_S0 (some (.int 1)) S3 hrun (by show _ ≤ 0 + 600000; omega) (by show _ ≤ 0 + 7302250; omega) (by omega) (by
    intro pc ls2 hrt ρ2 H locs cells slots lsC hw hl hs
    have hn := hw.2.2.2.2.2.2.2.2.1
    have hz := hw.2.2.2.2.2.2.2.2.2
    have hS := hw.2.2.2.1
    rcases hrt with ⟨hd, -⟩ | ⟨-, -, v, hv⟩ | ⟨-, -, hv⟩
    · refine va_forget (fun q hq => ?_) (W.widen (k := 600000) (n := 7302250) (by omega) (by omega) (lw_ret hx hb hr hlocks hd))
      have := hS.2.2 q hq
      rw [hAd] at this
      exact this
    · cases hv
    · cases hv)
  rw [lg_entry_eq]
  have hlr := xi_en_lr (ρ := ρ) (N := xi_S0.1.length) (mL := 4) (vs := [.ref 1000002]) (fun v hv => by rw [List.mem_singleton.mp hv]; exact Or.inr (Nat.le_of_ble_eq_true rfl)) (Nat.le_of_ble_eq_true rfl)
  rw [show [Value.ref 1000002].map (xi_cv ρ) = [Value.ref b] by show [Value.ref (ρ 1000002)] = _; rw [r2]] at hlr
  have hP0 : va_P D xi_cl (xi_ws cs ρ xi_S0) s.heap := fun k q h => absurd h (by simp [xi_ws, xi_S0])
  have hD0 : va_D A (xi_ws cs ρ xi_S0) := ⟨fun i j p q h => absurd h (by simp [xi_ws, xi_S0]), fun k q h => absurd h (by simp [xi_ws, xi_S0])⟩
  have hwf0 : xi_wf xi_S0 := fun k j r hk hr => by cases hr
  exact hG ρ s.heap [] 0 0 _ ⟨hK, hP0, hD0, va_S.rf, hA, hro, hwf0, fun _ _ => rfl, rfl, rfl⟩ hlr (fun v hv => by cases hv)
end
section
/-! THE PURE RUN: xr, and a rule for each instruction -/
def xr (scr : xi_X) (d : Nat) (code : List xi_E) (i : Nat) (ls : xi_L) (st : List Value) (S : xi_S) (Q : Option Value → xi_S → Prop) : Prop := ∃ (n : Nat) (r : Option Value) (S2 : xi_S), xi_ex xi_pg scr n d code i ls st S = some (r, S2) ∧ Q r S2
abbrev xr_Go : Type := Nat → List xi_E → Nat → xi_L → List Value → xi_S → Option (Option Value × xi_S)
theorem xr_cal_le {go go2 : xr_Go} (hle : ∀ d code i ls st S x, go d code i ls st S = some x → go2 d code i ls st S = some x) {d : Nat} {code : List xi_E} {i : Nat} {ls : xi_L} {e : xi_E} {st : List Value} {S : xi_S} {x : Option Value × xi_S} (h : xi_cal xi_pg d e st S (fun d2 c2 l2 S2 => go d2 c2 0 l2 [] S2) (fun st2 S2 => go d code (i + 1) ls st2 S2) = some x) : xi_cal xi_pg d e st S (fun d2 c2 l2 S2 => go2 d2 c2 0 l2 [] S2) (fun st2 S2 => go2 d code (i + 1) ls st2 S2) = some x := by
  obtain ⟨d2, mL, na, c2, rv, S2, rfl, h1, h2, h3, h4, h5, h6, h7, h8⟩ := xi_cal_of h
  simp only [xi_cal, h1]
  rw [if_pos ⟨h2, h3, h4, h5, h6⟩, hle _ _ _ _ _ _ _ h7]
  exact hle _ _ _ _ _ _ _ h8
set_option maxHeartbeats 4000000 in
theorem xr_one_le {scr : xi_X} {go go2 : xr_Go} (hle : ∀ d code i ls st S x, go d code i ls st S = some x → go2 d code i ls st S = some x) {d : Nat} {code : List xi_E} {i : Nat} {ls : xi_L} {st : List Value} {S : xi_S} {x : Option Value × xi_S} (h : xi_one xi_pg scr go d code i ls st S = some x) : xi_one xi_pg scr go2 d code i ls st S = some x := by
  unfold xi_one at h ⊢
  cases hc : code[i]? with
  | none => rw [hc] at h; cases h
  | some e =>
    rw [hc] at h
    simp only at h ⊢
    have hgen : ∀ z : xi_R, (match z with | some (i2, ls2, st2, S2) => go d code i2 ls2 st2 S2 | none => none) = some x → (match z with | some (i2, ls2, st2, S2) => go2 d code i2 ls2 st2 S2 | none => none) = some x := fun z h => by
      cases z with
      | none => cases h
      | some w => exact hle _ _ _ _ _ _ _ h
    have hstep := hgen (xi_stp scr e i ls st S)
    obtain ⟨con, nf, k1, k2⟩ := e
    cases con with
    | goto off => exact hle _ _ _ _ _ _ _ h
    | ifCond cd off =>
      rcases st with _ | ⟨v, r⟩
      · cases h
      · cases v with
        | int y =>
          cases cd <;> (simp only at h ⊢; split at h) <;> rename_i hh <;> (first | rw [if_pos hh] | rw [if_neg hh]) <;> exact hle _ _ _ _ _ _ _ h
        | _ => cases h
    | if_icmp cd off =>
      rcases st with _ | ⟨v, _ | ⟨u, r⟩⟩
      · cases h
      · cases v <;> cases h
      · cases v with
        | int y =>
          cases u with
          | int y2 =>
            cases cd <;> (simp only at h ⊢; split at h) <;> rename_i hh <;> (first | rw [if_pos hh] | rw [if_neg hh]) <;> exact hle _ _ _ _ _ _ _ h
          | _ => cases h
        | _ => cases u <;> cases h
    | tableswitch a b c d =>
      simp only at h ⊢
      split at h
      · split at h
        · next hh => rw [if_pos hh]; exact hle _ _ _ _ _ _ _ h
        · next hh =>
          rw [if_neg hh]
          split at h
          · exact hle _ _ _ _ _ _ _ h
          · cases h
      · cases h
    | ireturn => exact h
    | lreturn => exact h
    | return_ => exact h
    | invokevirtual k => exact xr_cal_le hle h
    | invokestatic k =>
      cases nf with
      | nil => exact hgen (xi_cpy i ls st S) h
      | cons a t =>
        cases t with
        | nil => exact hgen (xi_mm a i ls st S) h
        | cons b u => exact xr_cal_le hle h
    | invokespecial k =>
      cases nf with
      | nil => exact hgen (xi_oin i ls st S) h
      | cons a t => exact xr_cal_le hle h
    | _ => exact hstep h
theorem xr_mono {scr : xi_X} : ∀ (n : Nat) (d : Nat) (code : List xi_E) (i : Nat) (ls : xi_L) (st : List Value) (S : xi_S) (x : Option Value × xi_S), xi_ex xi_pg scr n d code i ls st S = some x → xi_ex xi_pg scr (n + 1) d code i ls st S = some x
  | 0, _, _, _, _, _, _, _, h => by cases h
  | n + 1, d, code, i, ls, st, S, x, h => xr_one_le (xr_mono n) h
theorem xr_le {scr : xi_X} {n m : Nat} (h : n ≤ m) {d : Nat} {code : List xi_E} {i : Nat} {ls : xi_L} {st : List Value} {S : xi_S} {x : Option Value × xi_S} (hx : xi_ex xi_pg scr n d code i ls st S = some x) : xi_ex xi_pg scr m d code i ls st S = some x := by
  induction h with
  | refl => exact hx
  | step _ ih => exact xr_mono _ _ _ _ _ _ _ _ ih
section XR
variable {scr : xi_X} {d : Nat} {code : List xi_E} {i i2 i3 : Nat} {ls ls2 : xi_L} {st st2 : List Value} {S S2 : xi_S} {Q : Option Value → xi_S → Prop}
theorem xr_eq : xr scr d code i ls st S Q = ∃ (n : Nat) (r : Option Value) (S2 : xi_S), xi_one xi_pg scr (xi_ex xi_pg scr n) d code i ls st S = some (r, S2) ∧ Q r S2 := propext ⟨fun ⟨n, r, S2, h, q⟩ => by
    cases n with
    | zero => cases h
    | succ n => exact ⟨n, r, S2, h, q⟩, fun ⟨n, r, S2, h, q⟩ => ⟨n + 1, r, S2, h, q⟩⟩
theorem xr_go (h : ∀ go : xr_Go, xi_one xi_pg scr go d code i ls st S = go d code i2 ls2 st2 S2) : xr scr d code i ls st S Q = xr scr d code i2 ls2 st2 S2 Q := by
  rw [xr_eq]
  simp only [h]
  rfl
theorem xr_if {c : Prop} [Decidable c] (h : ∀ go : xr_Go, xi_one xi_pg scr go d code i ls st S = if c then go d code i2 ls2 st2 S2 else go d code i3 ls2 st2 S2) : xr scr d code i ls st S Q = if c then xr scr d code i2 ls2 st2 S2 Q else xr scr d code i3 ls2 st2 S2 Q := by
  rw [xr_eq]
  simp only [h]
  by_cases hc : c
  · simp only [if_pos hc]
    rfl
  · simp only [if_neg hc]
    rfl
theorem xr_ret {r : Option Value} (h : ∀ go : xr_Go, xi_one xi_pg scr go d code i ls st S = some (r, S2)) : xr scr d code i ls st S Q = Q r S2 := by
  rw [xr_eq]
  simp only [h]
  exact propext ⟨fun ⟨n, r2, S3, h, q⟩ => by cases h; exact q, fun q => ⟨0, r, S2, rfl, q⟩⟩
theorem xr_call {d2 : Nat} {c2 : List xi_E} {l2 : xi_L} (h : ∀ go : xr_Go, xi_one xi_pg scr go d code i ls st S = match go d2 c2 0 l2 [] S with
    | some (rv, S2) => go d code (i + 1) ls (rv.toList ++ st2) S2
    | none => none) : xr scr d code i ls st S Q = xr scr d2 c2 0 l2 [] S (fun rv S2 => xr scr d code (i + 1) ls (rv.toList ++ st2) S2 Q) := by
  rw [xr_eq]
  simp only [h]
  refine propext ⟨fun ⟨n, r, S3, h, q⟩ => ?_, fun ⟨n, rv, S3, h, n2, r, S4, h2, q⟩ => ?_⟩
  · cases hh : xi_ex xi_pg scr n d2 c2 0 l2 [] S with
    | none => rw [hh] at h; cases h
    | some z =>
      obtain ⟨rv, S4⟩ := z
      rw [hh] at h
      exact ⟨n, rv, S4, hh, n, r, S3, h, q⟩
  · refine ⟨n + n2, r, S4, ?_, q⟩
    rw [xr_le (Nat.le_add_right n n2) h]
    exact xr_le (Nat.le_add_left n2 n) h2
theorem xr_iconst {z : Int} {nf : List Nat} {k1 : Int32} {k2 : Int64} (hc : code[i]? = some (.iconst z, nf, k1, k2)) : xr scr d code i ls st S Q = xr scr d code (i + 1) ls (.int k1 :: st) S Q := xr_go (fun go => by unfold xi_one; rw [hc]; rfl)
theorem xr_bipush {z : Int} {nf : List Nat} {k1 : Int32} {k2 : Int64} (hc : code[i]? = some (.bipush z, nf, k1, k2)) : xr scr d code i ls st S Q = xr scr d code (i + 1) ls (.int k1 :: st) S Q := xr_go (fun go => by unfold xi_one; rw [hc]; rfl)
theorem xr_sipush {z : Int} {nf : List Nat} {k1 : Int32} {k2 : Int64} (hc : code[i]? = some (.sipush z, nf, k1, k2)) : xr scr d code i ls st S Q = xr scr d code (i + 1) ls (.int k1 :: st) S Q := xr_go (fun go => by unfold xi_one; rw [hc]; rfl)
theorem xr_ldc_w {z : Nat} {nf : List Nat} {k1 : Int32} {k2 : Int64} (hc : code[i]? = some (.ldc_w z, nf, k1, k2)) : xr scr d code i ls st S Q = xr scr d code (i + 1) ls (.int k1 :: st) S Q := xr_go (fun go => by unfold xi_one; rw [hc]; rfl)
theorem xr_lconst {z : Fin 2} {nf : List Nat} {k1 : Int32} {k2 : Int64} (hc : code[i]? = some (.lconst z, nf, k1, k2)) : xr scr d code i ls st S Q = xr scr d code (i + 1) ls (.long k2 :: st) S Q := xr_go (fun go => by unfold xi_one; rw [hc]; rfl)
theorem xr_ldc2_w {z : Nat} {nf : List Nat} {k1 : Int32} {k2 : Int64} (hc : code[i]? = some (.ldc2_w z, nf, k1, k2)) : xr scr d code i ls st S Q = xr scr d code (i + 1) ls (.long k2 :: st) S Q := xr_go (fun go => by unfold xi_one; rw [hc]; rfl)
theorem xr_iload {z : Nat} {k : Nat} {k1 : Int32} {k2 : Int64} {x : Int32} (hc : code[i]? = some (.iload z, [k], k1, k2)) (hl : ls[k]? = some (some (.int x))) : xr scr d code i ls st S Q = xr scr d code (i + 1) ls (.int x :: st) S Q := xr_go (fun go => by unfold xi_one; rw [hc]; show (match xi_lod k i ls st S with | some (a, b, c, e) => go d code a b c e | none => none) = _; unfold xi_lod; rw [hl])
theorem xr_iload_n {z : Fin 4} {k : Nat} {k1 : Int32} {k2 : Int64} {x : Int32} (hc : code[i]? = some (.iload_n z, [k], k1, k2)) (hl : ls[k]? = some (some (.int x))) : xr scr d code i ls st S Q = xr scr d code (i + 1) ls (.int x :: st) S Q := xr_go (fun go => by unfold xi_one; rw [hc]; show (match xi_lod k i ls st S with | some (a, b, c, e) => go d code a b c e | none => none) = _; unfold xi_lod; rw [hl])
theorem xr_lload {z : Nat} {k : Nat} {k1 : Int32} {k2 : Int64} {x : Int64} (hc : code[i]? = some (.lload z, [k], k1, k2)) (hl : ls[k]? = some (some (.long x))) : xr scr d code i ls st S Q = xr scr d code (i + 1) ls (.long x :: st) S Q := xr_go (fun go => by unfold xi_one; rw [hc]; show (match xi_loL k i ls st S with | some (a, b, c, e) => go d code a b c e | none => none) = _; unfold xi_loL; rw [hl])
theorem xr_lload_n {z : Fin 4} {k : Nat} {k1 : Int32} {k2 : Int64} {x : Int64} (hc : code[i]? = some (.lload_n z, [k], k1, k2)) (hl : ls[k]? = some (some (.long x))) : xr scr d code i ls st S Q = xr scr d code (i + 1) ls (.long x :: st) S Q := xr_go (fun go => by unfold xi_one; rw [hc]; show (match xi_loL k i ls st S with | some (a, b, c, e) => go d code a b c e | none => none) = _; unfold xi_loL; rw [hl])
theorem xr_aload_n {z : Fin 4} {k : Nat} {k1 : Int32} {k2 : Int64} {x : Nat} (hc : code[i]? = some (.aload_n z, [k], k1, k2)) (hl : ls[k]? = some (some (.ref x))) : xr scr d code i ls st S Q = xr scr d code (i + 1) ls (.ref x :: st) S Q := xr_go (fun go => by unfold xi_one; rw [hc]; show (match xi_loA k i ls st S with | some (a, b, c, e) => go d code a b c e | none => none) = _; unfold xi_loA; rw [hl])
theorem xr_istore {z : Nat} {k : Nat} {k1 : Int32} {k2 : Int64} {x : Int32} (hc : code[i]? = some (.istore z, [k], k1, k2)) (hl : k < ls.length) (he : xi_sl ls k (.int x) = ls2) : xr scr d code i ls (.int x :: st) S Q = xr scr d code (i + 1) ls2 st S Q := by
  subst he
  exact xr_go (fun go => by unfold xi_one; rw [hc]; show (match xi_sto k i ls (.int x :: st) S with | some (a, b, c, e) => go d code a b c e | none => none) = _; unfold xi_sto; simp only; rw [if_pos hl])
theorem xr_istore_n {z : Fin 4} {k : Nat} {k1 : Int32} {k2 : Int64} {x : Int32} (hc : code[i]? = some (.istore_n z, [k], k1, k2)) (hl : k < ls.length) (he : xi_sl ls k (.int x) = ls2) : xr scr d code i ls (.int x :: st) S Q = xr scr d code (i + 1) ls2 st S Q := by
  subst he
  exact xr_go (fun go => by unfold xi_one; rw [hc]; show (match xi_sto k i ls (.int x :: st) S with | some (a, b, c, e) => go d code a b c e | none => none) = _; unfold xi_sto; simp only; rw [if_pos hl])
theorem xr_lstore {z : Nat} {k : Nat} {k1 : Int32} {k2 : Int64} {x : Int64} (hc : code[i]? = some (.lstore z, [k], k1, k2)) (hl : k + 1 < ls.length) (he : xi_sL ls k (.long x) = ls2) : xr scr d code i ls (.long x :: st) S Q = xr scr d code (i + 1) ls2 st S Q := by
  subst he
  exact xr_go (fun go => by unfold xi_one; rw [hc]; show (match xi_stL k i ls (.long x :: st) S with | some (a, b, c, e) => go d code a b c e | none => none) = _; unfold xi_stL; simp only; rw [if_pos hl])
theorem xr_lstore_n {z : Fin 4} {k : Nat} {k1 : Int32} {k2 : Int64} {x : Int64} (hc : code[i]? = some (.lstore_n z, [k], k1, k2)) (hl : k + 1 < ls.length) (he : xi_sL ls k (.long x) = ls2) : xr scr d code i ls (.long x :: st) S Q = xr scr d code (i + 1) ls2 st S Q := by
  subst he
  exact xr_go (fun go => by unfold xi_one; rw [hc]; show (match xi_stL k i ls (.long x :: st) S with | some (a, b, c, e) => go d code a b c e | none => none) = _; unfold xi_stL; simp only; rw [if_pos hl])
theorem xr_astore_n {z : Fin 4} {k : Nat} {k1 : Int32} {k2 : Int64} {x : Nat} (hc : code[i]? = some (.astore_n z, [k], k1, k2)) (hl : k < ls.length) (he : xi_sl ls k (.ref x) = ls2) : xr scr d code i ls (.ref x :: st) S Q = xr scr d code (i + 1) ls2 st S Q := by
  subst he
  exact xr_go (fun go => by unfold xi_one; rw [hc]; show (match xi_stA k i ls (.ref x :: st) S with | some (a, b, c, e) => go d code a b c e | none => none) = _; unfold xi_stA; simp only; rw [if_pos hl])
theorem xr_iinc {z k : Nat} {y : Int} {k1 : Int32} {k2 : Int64} {x : Int32} (hc : code[i]? = some (.iinc z y, [k], k1, k2)) (hl : ls[k]? = some (some (.int x))) (he : ls.set k (some (.int (x + k1))) = ls2) : xr scr d code i ls st S Q = xr scr d code (i + 1) ls2 st S Q := by
  subst he
  exact xr_go (fun go => by unfold xi_one; rw [hc]; show (match xi_inc k k1 i ls st S with | some (a, b, c, e) => go d code a b c e | none => none) = _; unfold xi_inc; rw [hl])
theorem xr_iadd {nf : List Nat} {k1 : Int32} {k2 : Int64} {x y : Int32} (hc : code[i]? = some (.iadd, nf, k1, k2)) : xr scr d code i ls (.int y :: .int x :: st) S Q = xr scr d code (i + 1) ls (.int (x + y) :: st) S Q := xr_go (fun go => by unfold xi_one; rw [hc]; rfl)
theorem xr_isub {nf : List Nat} {k1 : Int32} {k2 : Int64} {x y : Int32} (hc : code[i]? = some (.isub, nf, k1, k2)) : xr scr d code i ls (.int y :: .int x :: st) S Q = xr scr d code (i + 1) ls (.int (x - y) :: st) S Q := xr_go (fun go => by unfold xi_one; rw [hc]; rfl)
theorem xr_imul {nf : List Nat} {k1 : Int32} {k2 : Int64} {x y : Int32} (hc : code[i]? = some (.imul, nf, k1, k2)) : xr scr d code i ls (.int y :: .int x :: st) S Q = xr scr d code (i + 1) ls (.int (x * y) :: st) S Q := xr_go (fun go => by unfold xi_one; rw [hc]; rfl)
theorem xr_iand {nf : List Nat} {k1 : Int32} {k2 : Int64} {x y : Int32} (hc : code[i]? = some (.iand, nf, k1, k2)) : xr scr d code i ls (.int y :: .int x :: st) S Q = xr scr d code (i + 1) ls (.int (x &&& y) :: st) S Q := xr_go (fun go => by unfold xi_one; rw [hc]; rfl)
theorem xr_ior {nf : List Nat} {k1 : Int32} {k2 : Int64} {x y : Int32} (hc : code[i]? = some (.ior, nf, k1, k2)) : xr scr d code i ls (.int y :: .int x :: st) S Q = xr scr d code (i + 1) ls (.int (x ||| y) :: st) S Q := xr_go (fun go => by unfold xi_one; rw [hc]; rfl)
theorem xr_ixor {nf : List Nat} {k1 : Int32} {k2 : Int64} {x y : Int32} (hc : code[i]? = some (.ixor, nf, k1, k2)) : xr scr d code i ls (.int y :: .int x :: st) S Q = xr scr d code (i + 1) ls (.int (x ^^^ y) :: st) S Q := xr_go (fun go => by unfold xi_one; rw [hc]; rfl)
theorem xr_ishl {nf : List Nat} {k1 : Int32} {k2 : Int64} {x y : Int32} (hc : code[i]? = some (.ishl, nf, k1, k2)) : xr scr d code i ls (.int y :: .int x :: st) S Q = xr scr d code (i + 1) ls (.int (x <<< (y &&& 31)) :: st) S Q := xr_go (fun go => by unfold xi_one; rw [hc]; rfl)
theorem xr_ishr {nf : List Nat} {k1 : Int32} {k2 : Int64} {x y : Int32} (hc : code[i]? = some (.ishr, nf, k1, k2)) : xr scr d code i ls (.int y :: .int x :: st) S Q = xr scr d code (i + 1) ls (.int (x >>> (y &&& 31)) :: st) S Q := xr_go (fun go => by unfold xi_one; rw [hc]; rfl)
theorem xr_iushr {nf : List Nat} {k1 : Int32} {k2 : Int64} {x y : Int32} (hc : code[i]? = some (.iushr, nf, k1, k2)) : xr scr d code i ls (.int y :: .int x :: st) S Q = xr scr d code (i + 1) ls (.int ((x.toUInt32 >>> (y.toUInt32 &&& Int32.toUInt32 31)).toInt32) :: st) S Q := xr_go (fun go => by unfold xi_one; rw [hc]; rfl)
theorem xr_ladd {nf : List Nat} {k1 : Int32} {k2 : Int64} {x y : Int64} (hc : code[i]? = some (.ladd, nf, k1, k2)) : xr scr d code i ls (.long y :: .long x :: st) S Q = xr scr d code (i + 1) ls (.long (x + y) :: st) S Q := xr_go (fun go => by unfold xi_one; rw [hc]; rfl)
theorem xr_lsub {nf : List Nat} {k1 : Int32} {k2 : Int64} {x y : Int64} (hc : code[i]? = some (.lsub, nf, k1, k2)) : xr scr d code i ls (.long y :: .long x :: st) S Q = xr scr d code (i + 1) ls (.long (x - y) :: st) S Q := xr_go (fun go => by unfold xi_one; rw [hc]; rfl)
theorem xr_lmul {nf : List Nat} {k1 : Int32} {k2 : Int64} {x y : Int64} (hc : code[i]? = some (.lmul, nf, k1, k2)) : xr scr d code i ls (.long y :: .long x :: st) S Q = xr scr d code (i + 1) ls (.long (x * y) :: st) S Q := xr_go (fun go => by unfold xi_one; rw [hc]; rfl)
theorem xr_lcmp {nf : List Nat} {k1 : Int32} {k2 : Int64} {x y : Int64} (hc : code[i]? = some (.lcmp, nf, k1, k2)) : xr scr d code i ls (.long y :: .long x :: st) S Q = xr scr d code (i + 1) ls (.int (lg_cmp x y) :: st) S Q := xr_go (fun go => by unfold xi_one; rw [hc]; rfl)
theorem xr_idiv {nf : List Nat} {k1 : Int32} {k2 : Int64} {x y : Int32} (hc : code[i]? = some (.idiv, nf, k1, k2)) (hy : ¬ y = 0) : xr scr d code i ls (.int y :: .int x :: st) S Q = xr scr d code (i + 1) ls (.int (x / y) :: st) S Q := xr_go (fun go => by unfold xi_one; rw [hc]; show (match xi_id (fun x y => x / y) i ls (.int y :: .int x :: st) S with | some (a, b, c, e) => go d code a b c e | none => none) = _; unfold xi_id; simp only; rw [if_neg hy])
theorem xr_irem {nf : List Nat} {k1 : Int32} {k2 : Int64} {x y : Int32} (hc : code[i]? = some (.irem, nf, k1, k2)) (hy : ¬ y = 0) : xr scr d code i ls (.int y :: .int x :: st) S Q = xr scr d code (i + 1) ls (.int (x - x / y * y) :: st) S Q := xr_go (fun go => by unfold xi_one; rw [hc]; show (match xi_id (fun x y => x - x / y * y) i ls (.int y :: .int x :: st) S with | some (a, b, c, e) => go d code a b c e | none => none) = _; unfold xi_id; simp only; rw [if_neg hy])
theorem xr_ldiv {nf : List Nat} {k1 : Int32} {k2 : Int64} {x y : Int64} (hc : code[i]? = some (.ldiv, nf, k1, k2)) (hy : ¬ y = 0) : xr scr d code i ls (.long y :: .long x :: st) S Q = xr scr d code (i + 1) ls (.long (x / y) :: st) S Q := xr_go (fun go => by unfold xi_one; rw [hc]; show (match xi_ld (fun x y => x / y) i ls (.long y :: .long x :: st) S with | some (a, b, c, e) => go d code a b c e | none => none) = _; unfold xi_ld; simp only; rw [if_neg hy])
theorem xr_lrem {nf : List Nat} {k1 : Int32} {k2 : Int64} {x y : Int64} (hc : code[i]? = some (.lrem, nf, k1, k2)) (hy : ¬ y = 0) : xr scr d code i ls (.long y :: .long x :: st) S Q = xr scr d code (i + 1) ls (.long (x - x / y * y) :: st) S Q := xr_go (fun go => by unfold xi_one; rw [hc]; show (match xi_ld (fun x y => x - x / y * y) i ls (.long y :: .long x :: st) S with | some (a, b, c, e) => go d code a b c e | none => none) = _; unfold xi_ld; simp only; rw [if_neg hy])
theorem xr_i2l {nf : List Nat} {k1 : Int32} {k2 : Int64} {x : Int32} (hc : code[i]? = some (.i2l, nf, k1, k2)) : xr scr d code i ls (.int x :: st) S Q = xr scr d code (i + 1) ls (.long x.toInt64 :: st) S Q := xr_go (fun go => by unfold xi_one; rw [hc]; rfl)
theorem xr_l2i {nf : List Nat} {k1 : Int32} {k2 : Int64} {x : Int64} (hc : code[i]? = some (.l2i, nf, k1, k2)) : xr scr d code i ls (.long x :: st) S Q = xr scr d code (i + 1) ls (.int x.toInt32 :: st) S Q := xr_go (fun go => by unfold xi_one; rw [hc]; rfl)
theorem xr_i2b {nf : List Nat} {k1 : Int32} {k2 : Int64} {x : Int32} (hc : code[i]? = some (.i2b, nf, k1, k2)) : xr scr d code i ls (.int x :: st) S Q = xr scr d code (i + 1) ls (.int x.toInt8.toInt32 :: st) S Q := xr_go (fun go => by unfold xi_one; rw [hc]; rfl)
theorem xr_dup {nf : List Nat} {k1 : Int32} {k2 : Int64} {v : Value} (hc : code[i]? = some (.dup, nf, k1, k2)) (hv : v.category = 1) : xr scr d code i ls (v :: st) S Q = xr scr d code (i + 1) ls (v :: v :: st) S Q := xr_go (fun go => by unfold xi_one; rw [hc]; show (match xi_dup i ls (v :: st) S with | some (a, b, c, e) => go d code a b c e | none => none) = _; unfold xi_dup; simp only; rw [if_pos hv])
theorem xr_pop {nf : List Nat} {k1 : Int32} {k2 : Int64} {v : Value} (hc : code[i]? = some (.pop, nf, k1, k2)) (hv : v.category = 1) : xr scr d code i ls (v :: st) S Q = xr scr d code (i + 1) ls st S Q := xr_go (fun go => by unfold xi_one; rw [hc]; show (match xi_pop i ls (v :: st) S with | some (a, b, c, e) => go d code a b c e | none => none) = _; unfold xi_pop; simp only; rw [if_pos hv])
theorem xr_dup2 {nf : List Nat} {k1 : Int32} {k2 : Int64} {v u : Value} (hc : code[i]? = some (.dup2, nf, k1, k2)) (hv : v.category = 1) (hu : u.category = 1) : xr scr d code i ls (v :: u :: st) S Q = xr scr d code (i + 1) ls (v :: u :: v :: u :: st) S Q := xr_go (fun go => by unfold xi_one; rw [hc]; show (match xi_dup2 i ls (v :: u :: st) S with | some (a, b, c, e) => go d code a b c e | none => none) = _; unfold xi_dup2; simp only; rw [if_pos ⟨hv, hu⟩])
theorem xr_goto {z : Int} {t : Nat} {k1 : Int32} {k2 : Int64} (hc : code[i]? = some (.goto z, [t], k1, k2)) : xr scr d code i ls st S Q = xr scr d code t ls st S Q := xr_go (fun go => by unfold xi_one; rw [hc]; rfl)
theorem xr_if_eq {z : Int} {t : Nat} {k1 : Int32} {k2 : Int64} {x : Int32} (hc : code[i]? = some (.ifCond .eq z, [t], k1, k2)) : xr scr d code i ls (.int x :: st) S Q = if x = 0 then xr scr d code t ls st S Q else xr scr d code (i + 1) ls st S Q := xr_if (fun go => by unfold xi_one; rw [hc]; rfl)
theorem xr_if_ne {z : Int} {t : Nat} {k1 : Int32} {k2 : Int64} {x : Int32} (hc : code[i]? = some (.ifCond .ne z, [t], k1, k2)) : xr scr d code i ls (.int x :: st) S Q = if x = 0 then xr scr d code (i + 1) ls st S Q else xr scr d code t ls st S Q := xr_if (fun go => by unfold xi_one; rw [hc]; rfl)
theorem xr_if_lt {z : Int} {t : Nat} {k1 : Int32} {k2 : Int64} {x : Int32} (hc : code[i]? = some (.ifCond .lt z, [t], k1, k2)) : xr scr d code i ls (.int x :: st) S Q = if x < 0 then xr scr d code t ls st S Q else xr scr d code (i + 1) ls st S Q := xr_if (fun go => by unfold xi_one; rw [hc]; rfl)
theorem xr_if_ge {z : Int} {t : Nat} {k1 : Int32} {k2 : Int64} {x : Int32} (hc : code[i]? = some (.ifCond .ge z, [t], k1, k2)) : xr scr d code i ls (.int x :: st) S Q = if x < 0 then xr scr d code (i + 1) ls st S Q else xr scr d code t ls st S Q := xr_if (fun go => by unfold xi_one; rw [hc]; rfl)
theorem xr_if_gt {z : Int} {t : Nat} {k1 : Int32} {k2 : Int64} {x : Int32} (hc : code[i]? = some (.ifCond .gt z, [t], k1, k2)) : xr scr d code i ls (.int x :: st) S Q = if 0 < x then xr scr d code t ls st S Q else xr scr d code (i + 1) ls st S Q := xr_if (fun go => by unfold xi_one; rw [hc]; rfl)
theorem xr_if_le {z : Int} {t : Nat} {k1 : Int32} {k2 : Int64} {x : Int32} (hc : code[i]? = some (.ifCond .le z, [t], k1, k2)) : xr scr d code i ls (.int x :: st) S Q = if 0 < x then xr scr d code (i + 1) ls st S Q else xr scr d code t ls st S Q := xr_if (fun go => by unfold xi_one; rw [hc]; rfl)
theorem xr_ic_eq {z : Int} {t : Nat} {k1 : Int32} {k2 : Int64} {x y : Int32} (hc : code[i]? = some (.if_icmp .eq z, [t], k1, k2)) : xr scr d code i ls (.int y :: .int x :: st) S Q = if x = y then xr scr d code t ls st S Q else xr scr d code (i + 1) ls st S Q := xr_if (fun go => by unfold xi_one; rw [hc]; rfl)
theorem xr_ic_ne {z : Int} {t : Nat} {k1 : Int32} {k2 : Int64} {x y : Int32} (hc : code[i]? = some (.if_icmp .ne z, [t], k1, k2)) : xr scr d code i ls (.int y :: .int x :: st) S Q = if x = y then xr scr d code (i + 1) ls st S Q else xr scr d code t ls st S Q := xr_if (fun go => by unfold xi_one; rw [hc]; rfl)
theorem xr_ic_lt {z : Int} {t : Nat} {k1 : Int32} {k2 : Int64} {x y : Int32} (hc : code[i]? = some (.if_icmp .lt z, [t], k1, k2)) : xr scr d code i ls (.int y :: .int x :: st) S Q = if x < y then xr scr d code t ls st S Q else xr scr d code (i + 1) ls st S Q := xr_if (fun go => by unfold xi_one; rw [hc]; rfl)
theorem xr_ic_ge {z : Int} {t : Nat} {k1 : Int32} {k2 : Int64} {x y : Int32} (hc : code[i]? = some (.if_icmp .ge z, [t], k1, k2)) : xr scr d code i ls (.int y :: .int x :: st) S Q = if x < y then xr scr d code (i + 1) ls st S Q else xr scr d code t ls st S Q := xr_if (fun go => by unfold xi_one; rw [hc]; rfl)
theorem xr_ic_gt {z : Int} {t : Nat} {k1 : Int32} {k2 : Int64} {x y : Int32} (hc : code[i]? = some (.if_icmp .gt z, [t], k1, k2)) : xr scr d code i ls (.int y :: .int x :: st) S Q = if y < x then xr scr d code t ls st S Q else xr scr d code (i + 1) ls st S Q := xr_if (fun go => by unfold xi_one; rw [hc]; rfl)
theorem xr_ic_le {z : Int} {t : Nat} {k1 : Int32} {k2 : Int64} {x y : Int32} (hc : code[i]? = some (.if_icmp .le z, [t], k1, k2)) : xr scr d code i ls (.int y :: .int x :: st) S Q = if y < x then xr scr d code (i + 1) ls st S Q else xr scr d code t ls st S Q := xr_if (fun go => by unfold xi_one; rw [hc]; rfl)
theorem xr_ireturn {z : Nat} {k1 : Int32} {k2 : Int64} {v : Int32} (hc : code[i]? = some (.ireturn, [z], k1, k2)) (hv : z = 1 → v &&& 1 = v) : xr scr d code i ls [.int v] S Q = Q (some (.int v)) S := xr_ret (fun go => by unfold xi_one; rw [hc]; show (if z = 1 ∧ ¬ v &&& 1 = v then none else some (some (Value.int v), S)) = _; rw [if_neg (fun e => e.2 (hv e.1))])
theorem xr_lreturn {nf : List Nat} {k1 : Int32} {k2 : Int64} {v : Int64} (hc : code[i]? = some (.lreturn, nf, k1, k2)) : xr scr d code i ls [.long v] S Q = Q (some (.long v)) S := xr_ret (fun go => by unfold xi_one; rw [hc])
theorem xr_return {nf : List Nat} {k1 : Int32} {k2 : Int64} (hc : code[i]? = some (.return_, nf, k1, k2)) : xr scr d code i ls [] S Q = Q none S := xr_ret (fun go => by unfold xi_one; rw [hc])
variable {sh : List (Nat × Nat)} {I : Nat → Nat → Int32} {J : Nat → Nat → Int64} {P : Nat → Nat → Option Nat} {k n nn j ci z : Nat} {nf : List Nat} {k1 : Int32} {k2 : Int64}
theorem xr_getI (hc : code[i]? = some (.getfield z, [ci, j, 0], k1, k2)) (hs : sh[k]? = some (ci, nn)) : xr scr d code i ls (.ref k :: st) (sh, I, J, P) Q = xr scr d code (i + 1) ls (.int (I k j) :: st) (sh, I, J, P) Q := xr_go (fun go => by
  unfold xi_one
  rw [hc]
  show (match xi_get [ci, j, 0] i ls (.ref k :: st) (sh, I, J, P) with | some (a, b, c, e) => go d code a b c e | none => none) = _
  simp only [xi_get, hs, if_pos]
  rfl)
theorem xr_getZ (hc : code[i]? = some (.getfield z, [ci, j, 3], k1, k2)) (hs : sh[k]? = some (ci, nn)) : xr scr d code i ls (.ref k :: st) (sh, I, J, P) Q = xr scr d code (i + 1) ls (.int (I k j) :: st) (sh, I, J, P) Q := xr_go (fun go => by
  unfold xi_one
  rw [hc]
  show (match xi_get [ci, j, 3] i ls (.ref k :: st) (sh, I, J, P) with | some (a, b, c, e) => go d code a b c e | none => none) = _
  simp only [xi_get, hs, if_pos]
  rfl)
theorem xr_getJ (hc : code[i]? = some (.getfield z, [ci, j, 1], k1, k2)) (hs : sh[k]? = some (ci, nn)) : xr scr d code i ls (.ref k :: st) (sh, I, J, P) Q = xr scr d code (i + 1) ls (.long (J k j) :: st) (sh, I, J, P) Q := xr_go (fun go => by
  unfold xi_one
  rw [hc]
  show (match xi_get [ci, j, 1] i ls (.ref k :: st) (sh, I, J, P) with | some (a, b, c, e) => go d code a b c e | none => none) = _
  simp only [xi_get, hs, if_pos]
  rfl)
theorem xr_getR {r : Nat} (hc : code[i]? = some (.getfield z, [ci, j, 2], k1, k2)) (hs : sh[k]? = some (ci, nn)) (hp : P k j = some r) : xr scr d code i ls (.ref k :: st) (sh, I, J, P) Q = xr scr d code (i + 1) ls (.ref r :: st) (sh, I, J, P) Q := xr_go (fun go => by
  unfold xi_one
  rw [hc]
  show (match xi_get [ci, j, 2] i ls (.ref k :: st) (sh, I, J, P) with | some (a, b, c, e) => go d code a b c e | none => none) = _
  simp only [xi_get, hs, if_pos, xi_gv, hp]
  rfl)
theorem xr_putI {x : Int32} (hc : code[i]? = some (.putfield z, [ci, j, 0], k1, k2)) (hs : sh[k]? = some (ci, nn)) : xr scr d code i ls (.int x :: .ref k :: st) (sh, I, J, P) Q = xr scr d code (i + 1) ls (st) (sh, xi_up I k j x, J, P) Q := xr_go (fun go => by
  unfold xi_one
  rw [hc]
  show (match xi_put [ci, j, 0] i ls (.int x :: .ref k :: st) (sh, I, J, P) with | some (a, b, c, e) => go d code a b c e | none => none) = _
  simp only [xi_put, hs, if_pos, xi_pv])
theorem xr_putJ {x : Int64} (hc : code[i]? = some (.putfield z, [ci, j, 1], k1, k2)) (hs : sh[k]? = some (ci, nn)) : xr scr d code i ls (.long x :: .ref k :: st) (sh, I, J, P) Q = xr scr d code (i + 1) ls (st) (sh, I, xi_up J k j x, P) Q := xr_go (fun go => by
  unfold xi_one
  rw [hc]
  show (match xi_put [ci, j, 1] i ls (.long x :: .ref k :: st) (sh, I, J, P) with | some (a, b, c, e) => go d code a b c e | none => none) = _
  simp only [xi_put, hs, if_pos, xi_pv])
theorem xr_putZ {x : Int32} (hc : code[i]? = some (.putfield z, [ci, j, 3], k1, k2)) (hs : sh[k]? = some (ci, nn)) (hx : x &&& 1 = x) : xr scr d code i ls (.int x :: .ref k :: st) (sh, I, J, P) Q = xr scr d code (i + 1) ls (st) (sh, xi_up I k j x, J, P) Q := xr_go (fun go => by
  unfold xi_one
  rw [hc]
  show (match xi_put [ci, j, 3] i ls (.int x :: .ref k :: st) (sh, I, J, P) with | some (a, b, c, e) => go d code a b c e | none => none) = _
  simp only [xi_put, hs, if_pos, xi_pv, hx])
theorem xr_putR {a : Nat} (hc : code[i]? = some (.putfield z, [ci, j, 2], k1, k2)) (hs : sh[k]? = some (ci, nn)) (ha : a < sh.length) : xr scr d code i ls (.ref a :: .ref k :: st) (sh, I, J, P) Q = xr scr d code (i + 1) ls (st) (sh, I, J, xi_up P k j (some a)) Q := xr_go (fun go => by
  unfold xi_one
  rw [hc]
  show (match xi_put [ci, j, 2] i ls (.ref a :: .ref k :: st) (sh, I, J, P) with | some (a, b, c, e) => go d code a b c e | none => none) = _
  simp only [xi_put, hs, if_pos, xi_pv, ha])
theorem xr_iald {x : Int32} (hc : code[i]? = some (.iaload, nf, k1, k2)) (hs : sh[k]? = some (9, n)) (hk : k < 1000000) (hx : vp_in x n) : xr scr d code i ls (.int x :: .ref k :: st) (sh, I, J, P) Q = xr scr d code (i + 1) ls (.int (I k x.toNatClampNeg) :: st) (sh, I, J, P) Q := xr_go (fun go => by
  unfold xi_one
  rw [hc]
  show (match xi_ald scr 9 i ls (.int x :: .ref k :: st) (sh, I, J, P) with | some (a, b, c, e) => go d code a b c e | none => none) = _
  simp only [xi_ald, xi_ar, hs, if_pos hk, if_pos]
  rw [if_neg hx])
theorem xr_bald {x : Int32} (hc : code[i]? = some (.baload, nf, k1, k2)) (hs : sh[k]? = some (10, n)) (hk : k < 1000000) (hx : vp_in x n) : xr scr d code i ls (.int x :: .ref k :: st) (sh, I, J, P) Q = xr scr d code (i + 1) ls (.int (I k x.toNatClampNeg) :: st) (sh, I, J, P) Q := xr_go (fun go => by
  unfold xi_one
  rw [hc]
  show (match xi_ald scr 10 i ls (.int x :: .ref k :: st) (sh, I, J, P) with | some (a, b, c, e) => go d code a b c e | none => none) = _
  simp only [xi_ald, xi_ar, hs, if_pos hk, if_pos]
  rw [if_neg hx])
theorem xr_lald {x : Int32} (hc : code[i]? = some (.laload, nf, k1, k2)) (hs : sh[k]? = some (11, n)) (hx : vp_in x n) : xr scr d code i ls (.int x :: .ref k :: st) (sh, I, J, P) Q = xr scr d code (i + 1) ls (.long (J k x.toNatClampNeg) :: st) (sh, I, J, P) Q := xr_go (fun go => by
  unfold xi_one
  rw [hc]
  show (match xi_lald i ls (.int x :: .ref k :: st) (sh, I, J, P) with | some (a, b, c, e) => go d code a b c e | none => none) = _
  simp only [xi_lald, hs, if_pos]
  rw [if_neg hx])
theorem xr_aald {x : Int32} {t r : Nat} (hc : code[i]? = some (.aaload, nf, k1, k2)) (hs : sh[k]? = some (t, n)) (ht : 12 ≤ t ∧ t ≤ 14) (hx : vp_in x n) (hp : P k x.toNatClampNeg = some r) : xr scr d code i ls (.int x :: .ref k :: st) (sh, I, J, P) Q = xr scr d code (i + 1) ls (.ref r :: st) (sh, I, J, P) Q := xr_go (fun go => by
  unfold xi_one
  rw [hc]
  show (match xi_aald i ls (.int x :: .ref k :: st) (sh, I, J, P) with | some (a, b, c, e) => go d code a b c e | none => none) = _
  simp only [xi_aald, hs, if_pos ht, hp]
  rw [if_neg hx]
  rfl)
theorem xr_iast {x y : Int32} (hc : code[i]? = some (.iastore, nf, k1, k2)) (hs : sh[k]? = some (9, n)) (hx : vp_in x n) : xr scr d code i ls (.int y :: .int x :: .ref k :: st) (sh, I, J, P) Q = xr scr d code (i + 1) ls (st) (sh, xi_up I k x.toNatClampNeg y, J, P) Q := xr_go (fun go => by
  unfold xi_one
  rw [hc]
  show (match xi_ast 9 i ls (.int y :: .int x :: .ref k :: st) (sh, I, J, P) with | some (a, b, c, e) => go d code a b c e | none => none) = _
  simp only [xi_ast, hs, if_pos]
  rw [if_neg hx]
  rfl)
theorem xr_bast {x y : Int32} (hc : code[i]? = some (.bastore, nf, k1, k2)) (hs : sh[k]? = some (10, n)) (hx : vp_in x n) : xr scr d code i ls (.int y :: .int x :: .ref k :: st) (sh, I, J, P) Q = xr scr d code (i + 1) ls (st) (sh, xi_up I k x.toNatClampNeg y.toInt8.toInt32, J, P) Q := xr_go (fun go => by
  unfold xi_one
  rw [hc]
  show (match xi_ast 10 i ls (.int y :: .int x :: .ref k :: st) (sh, I, J, P) with | some (a, b, c, e) => go d code a b c e | none => none) = _
  simp only [xi_ast, hs, if_pos]
  rw [if_neg hx])
theorem xr_last {x : Int32} {y : Int64} (hc : code[i]? = some (.lastore, nf, k1, k2)) (hs : sh[k]? = some (11, n)) (hx : vp_in x n) : xr scr d code i ls (.long y :: .int x :: .ref k :: st) (sh, I, J, P) Q = xr scr d code (i + 1) ls (st) (sh, I, xi_up J k x.toNatClampNeg y, P) Q := xr_go (fun go => by
  unfold xi_one
  rw [hc]
  show (match xi_last i ls (.long y :: .int x :: .ref k :: st) (sh, I, J, P) with | some (a, b, c, e) => go d code a b c e | none => none) = _
  simp only [xi_last, hs, if_pos]
  rw [if_neg hx])
theorem xr_alen {t : Nat} (hc : code[i]? = some (.arraylength, nf, k1, k2)) (hs : sh[k]? = some (t, n)) (hk : k < 1000000) (ht : 9 ≤ t ∧ t ≤ 14) : xr scr d code i ls (.ref k :: st) (sh, I, J, P) Q = xr scr d code (i + 1) ls (.int (Int32.ofNat n) :: st) (sh, I, J, P) Q := xr_go (fun go => by
  unfold xi_one
  rw [hc]
  show (match xi_alen scr i ls (.ref k :: st) (sh, I, J, P) with | some (a, b, c, e) => go d code a b c e | none => none) = _
  simp only [xi_alen, xi_ar, hs, if_pos hk, if_pos ht])
theorem xr_sald {x : Int32} (hc : code[i]? = some (.iaload, nf, k1, k2)) (hx : vp_in x scr.1) : xr scr d code i ls (.int x :: .ref 1000002 :: st) (sh, I, J, P) Q = xr scr d code (i + 1) ls (.int (scr.2 x.toNatClampNeg) :: st) (sh, I, J, P) Q := xr_go (fun go => by
  unfold xi_one
  rw [hc]
  show (match xi_ald scr 9 i ls (.int x :: .ref 1000002 :: st) (sh, I, J, P) with | some (a, b, c, e) => go d code a b c e | none => none) = _
  show (match (if x < 0 ∨ scr.1 ≤ x.toNatClampNeg then none else some (i + 1, ls, .int (scr.2 x.toNatClampNeg) :: st, (sh, I, J, P)) : xi_R) with | some (a, b, c, e) => go d code a b c e | none => none) = _
  rw [if_neg hx])
theorem xr_slen (hc : code[i]? = some (.arraylength, nf, k1, k2)) : xr scr d code i ls (.ref 1000002 :: st) (sh, I, J, P) Q = xr scr d code (i + 1) ls (.int (Int32.ofNat scr.1) :: st) (sh, I, J, P) Q := xr_go (fun go => by
  unfold xi_one
  rw [hc]
  show (match xi_alen scr i ls (.ref 1000002 :: st) (sh, I, J, P) with | some (a, b, c, e) => go d code a b c e | none => none) = _
  rfl)
theorem xr_cpy {x y c : Int32} {a b m0 m1 : Nat} (hc : code[i]? = some (.invokestatic z, [], k1, k2)) (ha : sh[a]? = some (9, m0)) (hb : sh[b]? = some (9, m1)) (hx : ¬ x < 0) (hy : ¬ y < 0) (hcc : ¬ c < 0) (h4 : x.toNatClampNeg + c.toNatClampNeg ≤ m0) (h5 : y.toNatClampNeg + c.toNatClampNeg ≤ m1) (hst : (st.map fun v => v.category).sum ≤ 8) : xr scr d code i ls (.int c :: .int y :: .ref b :: .int x :: .ref a :: st) (sh, I, J, P) Q = xr scr d code (i + 1) ls (st) (sh, xi_ua I b (va_cpy (I a) (I b) x.toNatClampNeg y.toNatClampNeg c.toNatClampNeg), J, P) Q := xr_go (fun go => by
  unfold xi_one
  rw [hc]
  show (match xi_cpy i ls (.int c :: .int y :: .ref b :: .int x :: .ref a :: st) (sh, I, J, P) with | some (a, b, c, e) => go d code a b c e | none => none) = _
  simp only [xi_cpy, ha, hb]
  rw [if_pos ⟨trivial, trivial, hx, hy, hcc, h4, h5, hst⟩])
theorem xr_mmax {x y : Int32} (hc : code[i]? = some (.invokestatic z, [1], k1, k2)) (hst : (st.map fun v => v.category).sum ≤ 8) : xr scr d code i ls (.int y :: .int x :: st) (sh, I, J, P) Q = xr scr d code (i + 1) ls (.int (if x < y then y else x) :: st) (sh, I, J, P) Q := xr_go (fun go => by
  unfold xi_one
  rw [hc]
  show (match xi_mm 1 i ls (.int y :: .int x :: st) (sh, I, J, P) with | some (a, b, c, e) => go d code a b c e | none => none) = _
  simp only [xi_mm]
  rw [if_pos hst]
  rfl)
theorem xr_mmin {x y : Int32} (hc : code[i]? = some (.invokestatic z, [2], k1, k2)) (hst : (st.map fun v => v.category).sum ≤ 8) : xr scr d code i ls (.int y :: .int x :: st) (sh, I, J, P) Q = xr scr d code (i + 1) ls (.int (if y < x then y else x) :: st) (sh, I, J, P) Q := xr_go (fun go => by
  unfold xi_one
  rw [hc]
  show (match xi_mm 2 i ls (.int y :: .int x :: st) (sh, I, J, P) with | some (a, b, c, e) => go d code a b c e | none => none) = _
  simp only [xi_mm]
  rw [if_pos hst]
  rfl)
theorem xr_gets {t : Nat} (hc : code[i]? = some (.getstatic z, [t], k1, k2)) : xr scr d code i ls st (sh, I, J, P) Q = xr scr d code (i + 1) ls (.ref (1000000 + t) :: st) (sh, I, J, P) Q := xr_go (fun go => by unfold xi_one; rw [hc]; rfl)
theorem xr_l_ltr (hc : code[i]? = some (.arraylength, nf, k1, k2)) : xr scr d code i ls (.ref (1000000 + 0) :: st) (sh, I, J, P) Q = xr scr d code (i + 1) ls (.int 6 :: st) (sh, I, J, P) Q := xr_go (fun go => by
  unfold xi_one
  rw [hc]
  show (match xi_alen scr i ls (.ref (1000000 + 0) :: st) (sh, I, J, P) with | some (a, b, c, e) => go d code a b c e | none => none) = _
  rfl)
theorem xr_a_ltr {x : Int32} (hc : code[i]? = some (.baload, nf, k1, k2)) (hx : vp_in x 6) : xr scr d code i ls (.int x :: .ref (1000000 + 0) :: st) (sh, I, J, P) Q = xr scr d code (i + 1) ls (.int (xi_letters x.toNatClampNeg) :: st) (sh, I, J, P) Q := xr_go (fun go => by
  unfold xi_one
  rw [hc]
  show (match xi_ald scr 10 i ls (.int x :: .ref (1000000 + 0) :: st) (sh, I, J, P) with | some (a, b, c, e) => go d code a b c e | none => none) = _
  show (match (if x < 0 ∨ 6 ≤ x.toNatClampNeg then none else some (i + 1, ls, .int (xi_letters x.toNatClampNeg) :: st, (sh, I, J, P)) : xi_R) with | some (a, b, c, e) => go d code a b c e | none => none) = _
  rw [if_neg hx])
theorem xr_l_ext (hc : code[i]? = some (.arraylength, nf, k1, k2)) : xr scr d code i ls (.ref (1000000 + 1) :: st) (sh, I, J, P) Q = xr scr d code (i + 1) ls (.int 6 :: st) (sh, I, J, P) Q := xr_go (fun go => by
  unfold xi_one
  rw [hc]
  show (match xi_alen scr i ls (.ref (1000000 + 1) :: st) (sh, I, J, P) with | some (a, b, c, e) => go d code a b c e | none => none) = _
  rfl)
theorem xr_a_ext {x : Int32} (hc : code[i]? = some (.iaload, nf, k1, k2)) (hx : vp_in x 6) : xr scr d code i ls (.int x :: .ref (1000000 + 1) :: st) (sh, I, J, P) Q = xr scr d code (i + 1) ls (.int (xi_extra x.toNatClampNeg) :: st) (sh, I, J, P) Q := xr_go (fun go => by
  unfold xi_one
  rw [hc]
  show (match xi_ald scr 9 i ls (.int x :: .ref (1000000 + 1) :: st) (sh, I, J, P) with | some (a, b, c, e) => go d code a b c e | none => none) = _
  show (match (if x < 0 ∨ 6 ≤ x.toNatClampNeg then none else some (i + 1, ls, .int (xi_extra x.toNatClampNeg) :: st, (sh, I, J, P)) : xi_R) with | some (a, b, c, e) => go d code a b c e | none => none) = _
  rw [if_neg hx])
theorem xr_inv {d2 μ na mL : Nat} {c2 : List xi_E} {l2 : xi_L} {b : Nat} (hc : code[i]? = some (.invokevirtual z, [μ, na, ci], k1, k2)) (hp : xi_pg μ = some (mL, na, c2)) (hna : na ≤ st.length) (hb : st[na - 1]? = some (.ref b)) (hs : sh[b]? = some (ci, nn)) (hlen : (xi_av (st.take na).reverse).length ≤ mL) (hsum : ((st.drop na).map fun v => v.category).sum ≤ 8) (he : xi_en (st.take na).reverse mL = l2) : xr scr (d2 + 1) code i ls st (sh, I, J, P) Q = xr scr d2 c2 0 l2 [] (sh, I, J, P) (fun rv S2 => xr scr (d2 + 1) code (i + 1) ls (rv.toList ++ st.drop na) S2 Q) := xr_call (fun go => by
  unfold xi_one
  rw [hc]
  show xi_cal xi_pg (d2 + 1) (.invokevirtual z, [μ, na, ci], k1, k2) st (sh, I, J, P) (fun d2 c2 l2 S2 => go d2 c2 0 l2 [] S2) (fun st2 S2 => go (d2 + 1) code (i + 1) ls st2 S2) = _
  simp only [xi_cal]
  rw [show xi_pg (xi_k (.invokevirtual z, [μ, na, ci], k1, k2)) = some (mL, na, c2) from hp]
  simp only
  rw [if_pos ⟨rfl, hna, by simp only [xi_rcv, hb, hs, decide_true], hlen, hsum⟩, he]
  rfl)
theorem xr_ins {d2 μ na mL : Nat} {c2 : List xi_E} {l2 : xi_L} (hc : code[i]? = some (.invokestatic z, [μ, na], k1, k2)) (hp : xi_pg μ = some (mL, na, c2)) (hna : na ≤ st.length) (hlen : (xi_av (st.take na).reverse).length ≤ mL) (hsum : ((st.drop na).map fun v => v.category).sum ≤ 8) (he : xi_en (st.take na).reverse mL = l2) : xr scr (d2 + 1) code i ls st (sh, I, J, P) Q = xr scr d2 c2 0 l2 [] (sh, I, J, P) (fun rv S2 => xr scr (d2 + 1) code (i + 1) ls (rv.toList ++ st.drop na) S2 Q) := xr_call (fun go => by
  unfold xi_one
  rw [hc]
  show xi_cal xi_pg (d2 + 1) (.invokestatic z, [μ, na], k1, k2) st (sh, I, J, P) (fun d2 c2 l2 S2 => go d2 c2 0 l2 [] S2) (fun st2 S2 => go (d2 + 1) code (i + 1) ls st2 S2) = _
  simp only [xi_cal]
  rw [show xi_pg (xi_k (.invokestatic z, [μ, na], k1, k2)) = some (mL, na, c2) from hp]
  simp only
  rw [if_pos ⟨rfl, hna, rfl, hlen, hsum⟩, he]
  rfl)
end XR
end
section
/-! THE WORLD of the run behind both constructors: shapes wS, references wP t dr G (t the town's cell, dr the draft's, G the grounds of the cells 32, 38, 44, 46) -/
def wS : List (Nat × Nat) := [(7, 19), (14, 6), (9, 40), (9, 40), (9, 40), (9, 40), (9, 40), (9, 40), (9, 6), (13, 4), (10, 80), (10, 80), (10, 80), (10, 80), (9, 4), (4, 6), (9, 7), (9, 7), (9, 35), (9, 35), (4, 6), (9, 7), (9, 7), (9, 35), (9, 35), (1, 4), (9, 6), (12, 3), (3, 5), (9, 8), (9, 8), (9, 8), (6, 11), (9, 7), (9, 7), (9, 6), (9, 6), (9, 42), (6, 11), (9, 7), (9, 7), (9, 6), (9, 6), (9, 42), (5, 2), (9, 42), (0, 2), (11, 42), (2, 2), (9, 7), (9, 7), (9, 6), (1, 4), (9, 6), (1, 4), (9, 6), (1, 4), (9, 6), (8, 34), (9, 6), (9, 6), (9, 240), (9, 40), (9, 4), (9, 320), (9, 98), (9, 6), (9, 6), (9, 6), (9, 42), (9, 30), (9, 24)]
def wP0 (t dr j : Nat) : Option Nat := if j = 0 then some 1 else if j = 1 then some 8 else if j = 2 then some 9 else if j = 3 then some 14 else if j = 4 then some t else if j = 5 then some dr else if j = 6 then some 25 else if j = 7 then some 27 else if j = 8 then some 28 else if j = 9 then some 32 else if j = 10 then some 38 else if j = 11 then some 44 else if j = 12 then some 46 else if j = 13 then some 48 else if j = 18 then some 51 else none
def wP58 (j : Nat) : Option Nat := if j = 1 then some 59 else if j = 5 then some 60 else if j = 6 then some 61 else if j = 7 then some 62 else if j = 8 then some 63 else if j = 9 then some 64 else if j = 12 then some 65 else if j = 19 then some 66 else if j = 20 then some 67 else if j = 25 then some 68 else if j = 26 then some 69 else if j = 28 then some 70 else if j = 31 then some 71 else none
def wP (t dr : Nat) (G : Nat → Nat) (k j : Nat) : Option Nat :=
  if k = 0 then wP0 t dr j
  else if k = 1 then (if j < 6 then some (2 + j) else none)
  else if k = 9 then (if j < 4 then some (10 + j) else none)
  else if k = 15 ∨ k = 20 then (if j = 2 then some (k + 1) else if j = 3 then some (k + 2) else if j = 4 then some (k + 3) else if j = 5 then some (k + 4) else none)
  else if k = 25 ∨ k = 52 ∨ k = 54 ∨ k = 56 then (if j = 3 then some (k + 1) else none)
  else if k = 27 then (if j < 3 then some (52 + 2 * j) else none)
  else if k = 28 then (if j = 2 then some 29 else if j = 3 then some 30 else if j = 4 then some 31 else none)
  else if k = 32 ∨ k = 38 then (if j = 3 then some (G k) else if j = 6 then some (k + 1) else if j = 7 then some (k + 2) else if j = 8 then some (k + 3) else if j = 9 then some (k + 4) else if j = 10 then some (k + 5) else none)
  else if k = 44 then (if j = 0 then some (G 44) else if j = 1 then some 45 else none)
  else if k = 46 then (if j = 0 then some (G 46) else if j = 1 then some 47 else none)
  else if k = 48 then (if j = 0 then some 49 else if j = 1 then some 50 else none)
  else if k = 58 then wP58 j
  else none
def wU (w v : Nat) (G : Nat → Nat) : Nat → Nat := fun k => if k = w then v else G k
abbrev tw (a : Nat) : Prop := a = 15 ∨ a = 20
abbrev dy (a : Nat) : Prop := a = 25 ∨ a = 52 ∨ a = 54 ∨ a = 56
abbrev wk (a : Nat) : Prop := a = 32 ∨ a = 38
abbrev rwc (a : Nat) : Prop := 2 ≤ a ∧ a ≤ 7
abbrev txc (a : Nat) : Prop := 10 ≤ a ∧ a ≤ 13
theorem tw_s {a : Nat} (h : tw a) : wS[a]? = some (4, 6) := by rcases h with rfl | rfl <;> rfl
theorem tw_lt {a : Nat} (h : tw a) : a < wS.length := by rcases h with rfl | rfl <;> decide
theorem tw_s2 {a : Nat} (h : tw a) : wS[a + 1]? = some (9, 7) := by rcases h with rfl | rfl <;> rfl
theorem tw_s3 {a : Nat} (h : tw a) : wS[a + 2]? = some (9, 7) := by rcases h with rfl | rfl <;> rfl
theorem tw_s4 {a : Nat} (h : tw a) : wS[a + 3]? = some (9, 35) := by rcases h with rfl | rfl <;> rfl
theorem tw_s5 {a : Nat} (h : tw a) : wS[a + 4]? = some (9, 35) := by rcases h with rfl | rfl <;> rfl
theorem dy_s {a : Nat} (h : dy a) : wS[a]? = some (1, 4) := by rcases h with rfl | rfl | rfl | rfl <;> rfl
theorem dy_s1 {a : Nat} (h : dy a) : wS[a + 1]? = some (9, 6) := by rcases h with rfl | rfl | rfl | rfl <;> rfl
theorem wk_s {a : Nat} (h : wk a) : wS[a]? = some (6, 11) := by rcases h with rfl | rfl <;> rfl
theorem wk_s6 {a : Nat} (h : wk a) : wS[a + 1]? = some (9, 7) := by rcases h with rfl | rfl <;> rfl
theorem wk_s7 {a : Nat} (h : wk a) : wS[a + 2]? = some (9, 7) := by rcases h with rfl | rfl <;> rfl
theorem wk_s8 {a : Nat} (h : wk a) : wS[a + 3]? = some (9, 6) := by rcases h with rfl | rfl <;> rfl
theorem wk_s9 {a : Nat} (h : wk a) : wS[a + 4]? = some (9, 6) := by rcases h with rfl | rfl <;> rfl
theorem wk_s10 {a : Nat} (h : wk a) : wS[a + 5]? = some (9, 42) := by rcases h with rfl | rfl <;> rfl
theorem rwc_s {a : Nat} (h : rwc a) : wS[a]? = some (9, 40) := by
  rcases (show a = 2 ∨ a = 3 ∨ a = 4 ∨ a = 5 ∨ a = 6 ∨ a = 7 by omega) with rfl | rfl | rfl | rfl | rfl | rfl <;> rfl
theorem txc_s {a : Nat} (h : txc a) : wS[a]? = some (10, 80) := by
  rcases (show a = 10 ∨ a = 11 ∨ a = 12 ∨ a = 13 by omega) with rfl | rfl | rfl | rfl <;> rfl
theorem vp_lt {x : Int32} {n : Nat} (h : vp_in x n) : x.toNatClampNeg < n := Nat.lt_of_not_le (fun h2 => h (Or.inr h2))
theorem wS_row {x : Int32} (h : vp_in x 6) : wS[2 + x.toNatClampNeg]? = some (9, 40) := rwc_s (by have := vp_lt h; omega)
theorem wS_txt {x : Int32} (h : vp_in x 4) : wS[10 + x.toNatClampNeg]? = some (10, 80) := txc_s (by have := vp_lt h; omega)
theorem dy_kep {x : Int32} (h : vp_in x 3) : dy (52 + 2 * x.toNatClampNeg) := by have := vp_lt h; omega
theorem wS_lt {k : Nat} {q : Nat × Nat} (h : wS[k]? = some q) : k < 1000000 := by
  have h1 : k < wS.length := (List.getElem?_eq_some_iff.mp h).1
  have h2 : wS.length = 72 := rfl
  omega
section WP
variable {t dr : Nat} {G : Nat → Nat} {a v : Nat}
theorem wP_tw2 (h : tw a) : wP t dr G a 2 = some (a + 1) := by rcases h with rfl | rfl <;> rfl
theorem wP_tw3 (h : tw a) : wP t dr G a 3 = some (a + 2) := by rcases h with rfl | rfl <;> rfl
theorem wP_tw4 (h : tw a) : wP t dr G a 4 = some (a + 3) := by rcases h with rfl | rfl <;> rfl
theorem wP_tw5 (h : tw a) : wP t dr G a 5 = some (a + 4) := by rcases h with rfl | rfl <;> rfl
theorem wP_dy (h : dy a) : wP t dr G a 3 = some (a + 1) := by rcases h with rfl | rfl | rfl | rfl <;> rfl
theorem wP_wk3 (h : wk a) : wP t dr G a 3 = some (G a) := by rcases h with rfl | rfl <;> rfl
theorem wP_wk6 (h : wk a) : wP t dr G a 6 = some (a + 1) := by rcases h with rfl | rfl <;> rfl
theorem wP_wk7 (h : wk a) : wP t dr G a 7 = some (a + 2) := by rcases h with rfl | rfl <;> rfl
theorem wP_wk8 (h : wk a) : wP t dr G a 8 = some (a + 3) := by rcases h with rfl | rfl <;> rfl
theorem wP_wk9 (h : wk a) : wP t dr G a 9 = some (a + 4) := by rcases h with rfl | rfl <;> rfl
theorem wP_wk10 (h : wk a) : wP t dr G a 10 = some (a + 5) := by rcases h with rfl | rfl <;> rfl
theorem wP_row {x : Int32} (h : vp_in x 6) : wP t dr G 1 x.toNatClampNeg = some (2 + x.toNatClampNeg) := if_pos (vp_lt h)
theorem wP_txt {x : Int32} (h : vp_in x 4) : wP t dr G 9 x.toNatClampNeg = some (10 + x.toNatClampNeg) := if_pos (vp_lt h)
theorem wP_kep {x : Int32} (h : vp_in x 3) : wP t dr G 27 x.toNatClampNeg = some (52 + 2 * x.toNatClampNeg) := if_pos (vp_lt h)
theorem wP_at {α : Type} {f : Nat → Nat → α} {k j : Nat} {v : α} {g : Nat → Nat → α} (h1 : g k j = v) (h2 : ∀ b, b ≠ j → g k b = f k b) (h3 : ∀ a, a ≠ k → g a = f a) : xi_up f k j v = g := by
  funext a
  unfold xi_up
  by_cases ha : a = k
  · rw [if_pos ha]
    funext b
    by_cases hb : b = j
    · rw [if_pos hb, ha, hb, h1]
    · rw [if_neg hb, ha, h2 b hb]
  · rw [if_neg ha, h3 a ha]
theorem wP_up4 : xi_up (wP t dr G) 0 4 (some v) = wP v dr G := wP_at rfl (fun b hb => by
  show wP0 v dr b = wP0 t dr b
  unfold wP0
  rw [if_neg hb, if_neg hb]) (fun a ha => by funext j; unfold wP; rw [if_neg ha, if_neg ha])
theorem wP_up5 : xi_up (wP t dr G) 0 5 (some v) = wP t v G := wP_at rfl (fun b hb => by
  show wP0 t v b = wP0 t dr b
  unfold wP0
  rw [if_neg hb, if_neg hb]) (fun a ha => by funext j; unfold wP; rw [if_neg ha, if_neg ha])
theorem wP_upw (h : wk a) : xi_up (wP t dr G) a 3 (some v) = wP t dr (wU a v G) := wP_at (by rw [wP_wk3 h]; simp [wU]) (fun b hb => by
  rcases h with rfl | rfl <;> simp [wP, hb]) (fun c hc => by
  funext j
  have h44 : wU a v G 44 = G 44 := if_neg (by omega)
  have h46 : wU a v G 46 = G 46 := if_neg (by omega)
  have hcc : wU a v G c = G c := if_neg hc
  simp only [wP, h44, h46, hcc])
theorem wP_up44 : xi_up (wP t dr G) 44 0 (some v) = wP t dr (wU 44 v G) := wP_at rfl (fun b hb => by simp [wP, hb]) (fun c hc => by
  funext j
  have h46 : wU 44 v G 46 = G 46 := if_neg (by decide)
  have hcc : wU 44 v G c = G c := if_neg hc
  simp only [wP, h46, hcc, if_neg hc])
theorem wP_up46 : xi_up (wP t dr G) 46 0 (some v) = wP t dr (wU 46 v G) := wP_at rfl (fun b hb => by simp [wP, hb]) (fun c hc => by
  funext j
  have h46 : wU 46 v G 44 = G 44 := if_neg (by decide)
  have hcc : wU 46 v G c = G c := if_neg hc
  simp only [wP, h46, hcc, if_neg hc])
theorem wU_eq {w : Nat} : wU w v G w = v := if_pos rfl
theorem wU_ne {w k : Nat} (h : k ≠ w) : wU w v G k = G k := if_neg h
end WP
theorem xr_putRw {scr : xi_X} {d : Nat} {code : List xi_E} {i z k j ci nn a : Nat} {ls : xi_L} {st : List Value} {Q : Option Value → xi_S → Prop} {sh : List (Nat × Nat)} {I : Nat → Nat → Int32} {J : Nat → Nat → Int64} {P P2 : Nat → Nat → Option Nat} {k1 : Int32} {k2 : Int64} (hc : code[i]? = some (.putfield z, [ci, j, 2], k1, k2)) (hs : sh[k]? = some (ci, nn)) (ha : a < sh.length) (hP : xi_up P k j (some a) = P2) : xr scr d code i ls (.ref a :: .ref k :: st) (sh, I, J, P) Q = xr scr d code (i + 1) ls (st) (sh, I, J, P2) Q := by
  rw [xr_putR hc hs ha, hP]
end
